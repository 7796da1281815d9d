/-! the class KeyHallModel: printed by wip/specs/m1.py -/
set_option maxHeartbeats 4000000 in
set_option maxRecDepth 100000 in
/-- order -/
theorem c_Model_order (l : Launch) (D : va_G) (q : Nat → ClassId) (H : Heap) (pa la pb lb : Nat) (fa fb : Nat → Int32) (ha : va_at D CL (pa, .inl (q 0, la, .inl fa)) H) (hb : va_at D CL (pb, .inl (q 0, lb, .inl fb)) H) (oa ob n m1 : Nat) (xs ys : List Nat) (hn : n = xs.length) (hm1 : m1 = ys.length) (hxa : tXo fa oa xs) (hyb : tXo fb ob ys) (hxl : oa + xs.length ≤ la) (hyl : ob + ys.length ≤ lb) (hla : la < 60000) (hlb : lb < 60000) (hxc : t16 xs) (hyc : t16 ys) : gC l y_Model_order (Cond.code y_Model_order b_Model_order 7 (some .int) :: gWS) (gR 0 0 0 0) D CL (gY q) (fun _ => True) [.ref pa, .int (nI oa), .int (nI n), .ref pb, .int (nI ob), .int (nI m1)] H (fun v H1 => (∃ r : Int32, v = some (.int r) ∧ r.toInt = t_ord xs ys) ∧ H1 = H) 0 0 (fun _ => False) := by
  refine gC.ofW R_Model "order" (by decide) rfl rfl ?_
  intro p e s m below meth c hadm X hE hH B hne
  refine g_entry [some (.ref pa), some (.int (nI oa)), some (.int (nI n)), some (.ref pb), some (.int (nI ob)), some (.int (nI m1)), none] rfl rfl (Nat.le_of_ble_eq_true rfl) (fun ls hl => ?_)
  refine lv_iconst (v := nI 0) X.1.1 X.1.2.1 d_Model_order_0 (by decide) ?_
  refine g_ist X.1.1 X.1.2.1 hl 6 d_Model_order_1 (Nat.le_of_ble_eq_true rfl) rfl (fun ls hl => ?_)
  have loop3 : ∀ (fu : Nat) (i : Nat) (ls : Array Slot), xs.length - i < fu → (i ≤ xs.length) → (i ≤ ys.length) → (∀ j, j < i → xs.getD j 0 = ys.getD j 0) →  gl ls [some (.ref pa), some (.int (nI oa)), some (.int (nI n)), some (.ref pb), some (.int (nI ob)), some (.int (nI m1)), some (.int (nI i))] → W p l e (gR 0 0 0 0) s m ([.ref pa, .int (nI oa), .int (nI n), .ref pb, .int (nI ob), .int (nI m1)] : List Value).toArray below meth c H [] 0 0 (gQ below ([.ref pa, .int (nI oa), .int (nI n), .ref pb, .int (nI ob), .int (nI m1)] : List Value).toArray s (fun v H1 => (∃ r : Int32, v = some (.int r) ∧ r.toInt = t_ord xs ys) ∧ H1 = H) 0 0 (fun _ => False)) (F0 m 3 ls []) := by
    intro fu
    induction fu with
    | zero => intro i ls hmu; omega
    | succ fu ih3 =>
      intro i ls hmu3 hi3_0 hi3_1 hi3_2 hl
      refine lv_iload X.1.1 X.1.2.1 d_Model_order_3 (gl_at hl rfl) ?_
      refine lv_iload_n X.1.1 X.1.2.1 d_Model_order_5 rfl (gl_at hl rfl) ?_
      refine gn_ge X.1.1 X.1.2.1 i n (by omega) (by omega) d_Model_order_6 rfl (fun hc6 => ?_) (fun hc6 => ?_)
      · refine lv_iload_n X.1.1 X.1.2.1 d_Model_order_53 rfl (gl_at hl rfl) ?_
        refine lv_iload X.1.1 X.1.2.1 d_Model_order_54 (gl_at hl rfl) ?_
        refine lv_isub X.1.1 X.1.2.1 d_Model_order_56 ?_
        exact g_iret X B ⟨⟨_, rfl, by
          have e9 := t_lcp_eq xs ys i hi3_0 hi3_1 hi3_2 (by omega)
          rw [pk_sub_toInt (by omega) (by omega), t_ord_end xs ys (by omega), hn, hm1]⟩, rfl⟩ (fun _ h => by cases h) d_Model_order_57 (by omega) (by omega)
      · refine lv_iload X.1.1 X.1.2.1 d_Model_order_9 (gl_at hl rfl) ?_
        refine lv_iload X.1.1 X.1.2.1 d_Model_order_11 (gl_at hl rfl) ?_
        refine gn_ge X.1.1 X.1.2.1 i m1 (by omega) (by omega) d_Model_order_13 rfl (fun hc13 => ?_) (fun hc13 => ?_)
        · refine lv_iload_n X.1.1 X.1.2.1 d_Model_order_53 rfl (gl_at hl rfl) ?_
          refine lv_iload X.1.1 X.1.2.1 d_Model_order_54 (gl_at hl rfl) ?_
          refine lv_isub X.1.1 X.1.2.1 d_Model_order_56 ?_
          exact g_iret X B ⟨⟨_, rfl, by
            have e9 := t_lcp_eq xs ys i hi3_0 hi3_1 hi3_2 (by omega)
            rw [pk_sub_toInt (by omega) (by omega), t_ord_end xs ys (by omega), hn, hm1]⟩, rfl⟩ (fun _ h => by cases h) d_Model_order_57 (by omega) (by omega)
        · refine lv_aload_n X.1.1 X.1.2.1 d_Model_order_16 rfl (gl_at hl rfl) ?_
          refine lv_iload_n X.1.1 X.1.2.1 d_Model_order_17 rfl (gl_at hl rfl) ?_
          refine lv_iload X.1.1 X.1.2.1 d_Model_order_18 (gl_at hl rfl) ?_
          refine lv_iadd X.1.1 X.1.2.1 d_Model_order_20 ?_
          refine g_top (nI (oa + i)) (nI_add _ _) ?_
          refine g_iald X 0 ha rfl (oa + i) (by omega) (by omega) d_Model_order_21 ?_
          have e1 := t_lt hxc i
          refine g_top (nI (xs.getD i 0)) (hxa i (by omega)) ?_
          refine lv_aload_n X.1.1 X.1.2.1 d_Model_order_22 rfl (gl_at hl rfl) ?_
          refine lv_iload X.1.1 X.1.2.1 d_Model_order_23 (gl_at hl rfl) ?_
          refine lv_iload X.1.1 X.1.2.1 d_Model_order_25 (gl_at hl rfl) ?_
          refine lv_iadd X.1.1 X.1.2.1 d_Model_order_27 ?_
          refine g_top (nI (ob + i)) (nI_add _ _) ?_
          refine g_iald X 0 hb rfl (ob + i) (by omega) (by omega) d_Model_order_28 ?_
          have e2 := t_lt hyc i
          refine g_top (nI (ys.getD i 0)) (hyb i (by omega)) ?_
          refine gn_eq X.1.1 X.1.2.1 (xs.getD i 0) (ys.getD i 0) (by omega) (by omega) d_Model_order_29 rfl (fun hc29 => ?_) (fun hc29 => ?_)
          · refine g_iinc X.1.1 X.1.2.1 (nI (i + 1)) hl 6 d_Model_order_47 rfl (nI_1 _) rfl (fun ls hl => ?_)
            refine lv_goto X.1.1 X.1.2.1 d_Model_order_50 rfl ?_
            exact ih3 (i + 1) ls (by omega) (by omega) (by omega) (lt_s hi3_2 hc29) hl
          · refine lv_aload_n X.1.1 X.1.2.1 d_Model_order_32 rfl (gl_at hl rfl) ?_
            refine lv_iload_n X.1.1 X.1.2.1 d_Model_order_33 rfl (gl_at hl rfl) ?_
            refine lv_iload X.1.1 X.1.2.1 d_Model_order_34 (gl_at hl rfl) ?_
            refine lv_iadd X.1.1 X.1.2.1 d_Model_order_36 ?_
            refine g_top (nI (oa + i)) (nI_add _ _) ?_
            refine g_iald X 0 ha rfl (oa + i) (by omega) (by omega) d_Model_order_37 ?_
            refine g_top (nI (xs.getD i 0)) (hxa i (by omega)) ?_
            refine lv_aload_n X.1.1 X.1.2.1 d_Model_order_38 rfl (gl_at hl rfl) ?_
            refine lv_iload X.1.1 X.1.2.1 d_Model_order_39 (gl_at hl rfl) ?_
            refine lv_iload X.1.1 X.1.2.1 d_Model_order_41 (gl_at hl rfl) ?_
            refine lv_iadd X.1.1 X.1.2.1 d_Model_order_43 ?_
            refine g_top (nI (ob + i)) (nI_add _ _) ?_
            refine g_iald X 0 hb rfl (ob + i) (by omega) (by omega) d_Model_order_44 ?_
            refine g_top (nI (ys.getD i 0)) (hyb i (by omega)) ?_
            refine lv_isub X.1.1 X.1.2.1 d_Model_order_45 ?_
            exact g_iret X B ⟨⟨_, rfl, by
              have e9 := t_lcp_eq xs ys i hi3_0 hi3_1 hi3_2 (Or.inr (Or.inr hc29))
              rw [pk_sub_toInt (by omega) (by omega), t_ord_mid xs ys (by omega) (by omega), e9]⟩, rfl⟩ (fun _ h => by cases h) d_Model_order_46 (by omega) (by omega)
  exact loop3 _ 0 ls (Nat.lt_succ_self _) (Nat.zero_le _) (Nat.zero_le _) (fun j hj => absurd hj (Nat.not_lt_zero j)) hl

set_option maxHeartbeats 4000000 in
set_option maxRecDepth 100000 in
/-- begins -/
theorem c_Model_begins (l : Launch) (D : va_G) (q : Nat → ClassId) (H : Heap) (pa la pb lb : Nat) (fa fb : Nat → Int32) (ha : va_at D CL (pa, .inl (q 0, la, .inl fa)) H) (hb : va_at D CL (pb, .inl (q 0, lb, .inl fb)) H) (oa ob n m1 : Nat) (xs ys : List Nat) (hn : n = xs.length) (hm1 : m1 = ys.length) (hxa : tXo fa oa xs) (hyb : tXo fb ob ys) (hxl : oa + xs.length ≤ la) (hyl : ob + ys.length ≤ lb) (hla : la < 60000) (hlb : lb < 60000) (hxc : t16 xs) (hyc : t16 ys) : gC l y_Model_begins (Cond.code y_Model_begins b_Model_begins 6 (some .boolean) :: gWS) (gR 1 26 0 0) D CL (gY q) (fun _ => True) [.ref pa, .int (nI oa), .int (nI n), .ref pb, .int (nI ob), .int (nI m1)] H (fun v H1 => v = some (.int (nI (if t_lcp xs ys = ys.length then 1 else 0))) ∧ H1 = H) 0 0 (fun _ => False) := by
  refine gC.ofW R_Model "begins" (by decide) rfl rfl ?_
  intro p e s m below meth c hadm X hE hH B hne
  refine g_entry [some (.ref pa), some (.int (nI oa)), some (.int (nI n)), some (.ref pb), some (.int (nI ob)), some (.int (nI m1))] rfl rfl (Nat.le_of_ble_eq_true rfl) (fun ls hl => ?_)
  refine lv_iload X.1.1 X.1.2.1 d_Model_begins_0 (gl_at hl rfl) ?_
  refine lv_iload_n X.1.1 X.1.2.1 d_Model_begins_2 rfl (gl_at hl rfl) ?_
  refine gn_gt X.1.1 X.1.2.1 m1 n (by omega) (by omega) d_Model_begins_3 rfl (fun hc3 => ?_) (fun hc3 => ?_)
  · refine lv_iconst (v := nI 0) X.1.1 X.1.2.1 d_Model_begins_25 (by decide) ?_
    exact g_zret X B (by decide) ⟨by rw [if_neg (fun h9 => by first | (have := t_lcp_le1 xs ys; omega) | exact gi_ne hc18 (by rw [hr, (t_take_lcp xs ys).mp h9, t_ord_refl]))], rfl⟩ (fun _ h => by cases h) d_Model_begins_26 (by omega) (by omega)
  · refine lv_aload_n X.1.1 X.1.2.1 d_Model_begins_6 rfl (gl_at hl rfl) ?_
    refine lv_iload_n X.1.1 X.1.2.1 d_Model_begins_7 rfl (gl_at hl rfl) ?_
    refine lv_iload X.1.1 X.1.2.1 d_Model_begins_8 (gl_at hl rfl) ?_
    refine lv_aload_n X.1.1 X.1.2.1 d_Model_begins_10 rfl (gl_at hl rfl) ?_
    refine lv_iload X.1.1 X.1.2.1 d_Model_begins_11 (gl_at hl rfl) ?_
    refine lv_iload X.1.1 X.1.2.1 d_Model_begins_13 (gl_at hl rfl) ?_
    refine g_cs (A := (fun _ => False)) X gWS_good mw_Model_106 (c_Model_order l D q H pa la pb lb fa fb ha hb oa ob m1 m1 (xs.take ys.length) ys (by rw [List.length_take]; omega) hm1 (tXo_take hxa _) hyb (by rw [List.length_take]; omega) hyl hla hlb (t16_take hxc _) hyc) (fun _ _ _ => trivial) gBlind.tt rfl rfl hl.1 (Nat.le_of_ble_eq_true rfl) rfl rfl ⟨by decide, by decide⟩ ⟨by decide, by decide⟩ d_Model_begins_15 (fun _ h => h.elim) (fun _ h => by cases h) (fun v1 H2 locs hp3 hL => ?_)
    obtain ⟨⟨r, rfl, hr⟩, hHe⟩ := hp3
    rw [hHe]
    refine lv_if_ne X.1.1 X.1.2.1 d_Model_begins_18 rfl (fun hc18 => ?_) (fun hc18 => ?_)
    · refine lv_iconst (v := nI 0) X.1.1 X.1.2.1 d_Model_begins_25 (by decide) ?_
      exact g_zret X B (by decide) ⟨by rw [if_neg (fun h9 => by first | (have := t_lcp_le1 xs ys; omega) | exact gi_ne hc18 (by rw [hr, (t_take_lcp xs ys).mp h9, t_ord_refl]))], rfl⟩ hL d_Model_begins_26 (by omega) (by omega)
    · refine lv_iconst (v := nI 1) X.1.1 X.1.2.1 d_Model_begins_21 (by decide) ?_
      refine lv_goto X.1.1 X.1.2.1 d_Model_begins_22 rfl ?_
      exact g_zret X B (by decide) ⟨by rw [if_pos ((t_take_lcp xs ys).mpr (t_ord_eq _ _ (by rw [← hr, hc18]; rfl)))], rfl⟩ hL d_Model_begins_26 (by omega) (by omega)

set_option maxHeartbeats 4000000 in
set_option maxRecDepth 100000 in
/-- orderOf -/
theorem c_Model_orderOf (l : Launch) (D : va_G) (q : Nat → ClassId) (H : Heap) (d : Nat) (w : Nat → Int32) (ar : Nat → Nat → Int32) (hR : dR D q H d w ar) (kk : Nat → List Nat) (hk : pK ar kk) (j : Nat) (hj : j < 192) (pb lb : Nat) (fb : Nat → Int32) (hb : va_at D CL (pb, .inl (q 0, lb, .inl fb)) H) (ob m1 : Nat) (ys : List Nat) (hm1 : m1 = ys.length) (hyb : tXo fb ob ys) (hyl : ob + ys.length ≤ lb) (hlb : lb < 60000) (hyc : t16 ys) : gC l y_Model_orderOf (Cond.code y_Model_orderOf b_Model_orderOf 5 (some .int) :: gWS) (gR 1 26 0 0) D CL (gY q) (fun _ => True) [.ref d, .int (nI j), .ref pb, .int (nI ob), .int (nI m1)] H (fun v H1 => (∃ r : Int32, v = some (.int r) ∧ r.toInt = t_ord (kk j) ys) ∧ H1 = H) 0 0 (fun _ => False) := by
  refine gC.ofW R_Model "orderOf" (by decide) rfl rfl ?_
  intro p e s m below meth c hadm X hE hH B hne
  refine g_entry [some (.ref d), some (.int (nI j)), some (.ref pb), some (.int (nI ob)), some (.int (nI m1))] rfl rfl (Nat.le_of_ble_eq_true rfl) (fun ls hl => ?_)
  obtain ⟨hk1, hk2, hk3, hk4⟩ := hk j hj
  refine lv_aload_n X.1.1 X.1.2.1 d_Model_orderOf_0 rfl (gl_at hl rfl) ?_
  have mo1 : va_at D CL (d, .inr (10, [.int (w 0), .ref (d + 1), .int (w 2), .ref (d + 2), .ref (d + 3), .ref (d + 4), .ref (d + 5), .ref (d + 6), .int (w 8), .ref (d + 7), .ref (d + 8), .ref (d + 9), .ref (d + 10), .ref (d + 11), .ref (d + 12), .ref (d + 13), .ref (d + 14), .ref (d + 15), .ref (d + 16), .ref (d + 17), .int (w 20), .ref (d + 18), .int (w 22), .ref (d + 19), .ref (d + 20), .ref (d + 21), .int (w 26), .int (w 27), .int (w 28), .ref (d + 22), .ref (d + 23), .ref (d + 24), .ref (d + 25), .ref (d + 26), .int (w 34), .ref (d + 27), .ref (d + 28), .int (w 37), .int (w 38)])) H := hR.1
  refine g_get X kc_Model mo1 5 (by decide) lk_Model_19 rfl d_Model_orderOf_1 ?_
  refine lv_bipush (v := nI 8) X.1.1 X.1.2.1 d_Model_orderOf_4 (by decide) ?_
  refine lv_iload_n X.1.1 X.1.2.1 d_Model_orderOf_6 rfl (gl_at hl rfl) ?_
  refine lv_imul X.1.1 X.1.2.1 d_Model_orderOf_7 ?_
  refine g_top (nI (8 * j)) (pk_mul _ _) ?_
  refine lv_aload_n X.1.1 X.1.2.1 d_Model_orderOf_8 rfl (gl_at hl rfl) ?_
  refine g_get X kc_Model mo1 6 (by decide) lk_Model_22 rfl d_Model_orderOf_9 ?_
  refine lv_iload_n X.1.1 X.1.2.1 d_Model_orderOf_12 rfl (gl_at hl rfl) ?_
  have ma2 : va_at D CL (d + 5, .inl (q 0, 192, .inl (ar 5))) H := hR.a5
  refine g_iald X 0 ma2 rfl j (by omega) (by omega) d_Model_orderOf_13 ?_
  refine g_top (nI ((kk j).length)) hk2 ?_
  refine lv_aload_n X.1.1 X.1.2.1 d_Model_orderOf_14 rfl (gl_at hl rfl) ?_
  refine lv_iload_n X.1.1 X.1.2.1 d_Model_orderOf_15 rfl (gl_at hl rfl) ?_
  refine lv_iload X.1.1 X.1.2.1 d_Model_orderOf_16 (gl_at hl rfl) ?_
  refine g_cs (A := (fun _ => False)) X gWS_good mw_Model_106 (c_Model_order l D q H (d + 4) 1536 pb lb (ar 4) fb hR.a4 hb (8 * j) ob _ m1 (kk j) ys rfl hm1 hk1 hyb (by omega) hyl (by omega) hlb hk4 hyc) (fun _ _ _ => trivial) gBlind.tt rfl rfl hl.1 (Nat.le_of_ble_eq_true rfl) rfl rfl ⟨by decide, by decide⟩ ⟨by decide, by decide⟩ d_Model_orderOf_18 (fun _ h => h.elim) (fun _ h => by cases h) (fun v3 H4 locs hp5 hL => ?_)
  obtain ⟨⟨r, rfl, hr⟩, hHe⟩ := hp5
  rw [hHe]
  exact g_iret X B ⟨⟨r, rfl, hr⟩, rfl⟩ hL d_Model_orderOf_21 (by omega) (by omega)

set_option maxHeartbeats 4000000 in
set_option maxRecDepth 100000 in
/-- isView -/
theorem c_Model_isView (l : Launch) (D : va_G) (q : Nat → ClassId) (H : Heap) (d : Nat) (w : Nat → Int32) (ar : Nat → Nat → Int32) (hR : dR D q H d w ar) (c0 : Nat) (hc0 : w 8 = nI c0) (v : Int32) : gC l y_Model_isView (Cond.code y_Model_isView b_Model_isView 2 (some .boolean) :: gWS) (gR 0 0 0 0) D CL (gY q) (fun _ => True) [.ref d, .int v] H (fun v1 H1 => v1 = some (.int (nI (if h_ok c0 v then 1 else 0))) ∧ H1 = H) 0 0 (fun _ => False) := by
  refine gC.ofW R_Model "isView" (by decide) rfl rfl ?_
  intro p e s m below meth c hadm X hE hH B hne
  refine g_entry [some (.ref d), some (.int v)] rfl rfl (Nat.le_of_ble_eq_true rfl) (fun ls hl => ?_)
  refine lv_iload_n X.1.1 X.1.2.1 d_Model_isView_0 rfl (gl_at hl rfl) ?_
  refine lv_if_lt X.1.1 X.1.2.1 d_Model_isView_1 rfl (fun hc1 => ?_) (fun hc1 => ?_)
  · refine lv_iconst (v := nI 0) X.1.1 X.1.2.1 d_Model_isView_16 (by decide) ?_
    exact g_zret X B (by decide) ⟨by rw [if_neg (fun h9 => by first | exact h9.1 hc1 | exact h9.2 (by rw [← hc0]; exact hc9))], rfl⟩ (fun _ h => by cases h) d_Model_isView_17 (by omega) (by omega)
  · refine lv_iload_n X.1.1 X.1.2.1 d_Model_isView_4 rfl (gl_at hl rfl) ?_
    refine lv_aload_n X.1.1 X.1.2.1 d_Model_isView_5 rfl (gl_at hl rfl) ?_
    have mo1 : va_at D CL (d, .inr (10, [.int (w 0), .ref (d + 1), .int (w 2), .ref (d + 2), .ref (d + 3), .ref (d + 4), .ref (d + 5), .ref (d + 6), .int (w 8), .ref (d + 7), .ref (d + 8), .ref (d + 9), .ref (d + 10), .ref (d + 11), .ref (d + 12), .ref (d + 13), .ref (d + 14), .ref (d + 15), .ref (d + 16), .ref (d + 17), .int (w 20), .ref (d + 18), .int (w 22), .ref (d + 19), .ref (d + 20), .ref (d + 21), .int (w 26), .int (w 27), .int (w 28), .ref (d + 22), .ref (d + 23), .ref (d + 24), .ref (d + 25), .ref (d + 26), .int (w 34), .ref (d + 27), .ref (d + 28), .int (w 37), .int (w 38)])) H := hR.1
    refine g_get X kc_Model mo1 8 (by decide) lk_Model_28 rfl d_Model_isView_6 ?_
    refine lv_icmp_ge X.1.1 X.1.2.1 d_Model_isView_9 rfl (fun hc9 => ?_) (fun hc9 => ?_)
    · refine lv_iconst (v := nI 0) X.1.1 X.1.2.1 d_Model_isView_16 (by decide) ?_
      exact g_zret X B (by decide) ⟨by rw [if_neg (fun h9 => by first | exact h9.1 hc1 | exact h9.2 (by rw [← hc0]; exact hc9))], rfl⟩ (fun _ h => by cases h) d_Model_isView_17 (by omega) (by omega)
    · refine lv_iconst (v := nI 1) X.1.1 X.1.2.1 d_Model_isView_12 (by decide) ?_
      refine lv_goto X.1.1 X.1.2.1 d_Model_isView_13 rfl ?_
      exact g_zret X B (by decide) ⟨by rw [if_pos ⟨hc1, by rw [← hc0]; exact hc9⟩], rfl⟩ (fun _ h => by cases h) d_Model_isView_17 (by omega) (by omega)

set_option maxHeartbeats 4000000 in
set_option maxRecDepth 100000 in
/-- mapOf -/
theorem c_Model_mapOf (l : Launch) (D : va_G) (q : Nat → ClassId) (H : Heap) (d : Nat) (w : Nat → Int32) (ar : Nat → Nat → Int32) (hR : dR D q H d w ar) (c0 : Nat) (org : Nat → Option Nat) (srt : Nat → Nat) (bt : Nat → List Nat) (tn mp : Nat → Nat) (hv : pV w ar c0 org srt bt) (hN : pN c0 org srt tn mp) (v : Nat) (hvc : v < c0) : gC l y_Model_mapOf (Cond.code y_Model_mapOf b_Model_mapOf 3 (some .int) :: gWS) (gR 0 0 0 0) D CL (gY q) (fun _ => True) [.ref d, .int (nI v)] H (fun v1 H1 => v1 = some (.int (nI (mp v))) ∧ H1 = H) 0 0 (fun _ => False) := by
  refine gC.ofW R_Model "mapOf" (by decide) rfl rfl ?_
  intro p e s m below meth c hadm X hE hH B hne
  refine g_entry [some (.ref d), some (.int (nI v)), none] rfl rfl (Nat.le_of_ble_eq_true rfl) (fun ls hl => ?_)
  have h12 := hv.2.2.1
  refine lv_iload_n X.1.1 X.1.2.1 d_Model_mapOf_0 rfl (gl_at hl rfl) ?_
  refine g_istn X.1.1 X.1.2.1 hl 2 d_Model_mapOf_1 rfl (Nat.le_of_ble_eq_true rfl) rfl (fun ls hl => ?_)
  have loop2 : ∀ (fu : Nat) (k : Nat) (ls : Array Slot), k < fu → (k < c0) → (mp k = mp v) →  gl ls [some (.ref d), some (.int (nI v)), some (.int (nI k))] → W p l e (gR 0 0 0 0) s m ([.ref d, .int (nI v)] : List Value).toArray below meth c H [] 0 0 (gQ below ([.ref d, .int (nI v)] : List Value).toArray s (fun v1 H1 => v1 = some (.int (nI (mp v))) ∧ H1 = H) 0 0 (fun _ => False)) (F0 m 2 ls []) := by
    intro fu
    induction fu with
    | zero => intro k ls hmu; omega
    | succ fu ih2 =>
      intro k ls hmu2 hi2_0 hi2_1 hl
      refine lv_aload_n X.1.1 X.1.2.1 d_Model_mapOf_2 rfl (gl_at hl rfl) ?_
      have mo1 : va_at D CL (d, .inr (10, [.int (w 0), .ref (d + 1), .int (w 2), .ref (d + 2), .ref (d + 3), .ref (d + 4), .ref (d + 5), .ref (d + 6), .int (w 8), .ref (d + 7), .ref (d + 8), .ref (d + 9), .ref (d + 10), .ref (d + 11), .ref (d + 12), .ref (d + 13), .ref (d + 14), .ref (d + 15), .ref (d + 16), .ref (d + 17), .int (w 20), .ref (d + 18), .int (w 22), .ref (d + 19), .ref (d + 20), .ref (d + 21), .int (w 26), .int (w 27), .int (w 28), .ref (d + 22), .ref (d + 23), .ref (d + 24), .ref (d + 25), .ref (d + 26), .int (w 34), .ref (d + 27), .ref (d + 28), .int (w 37), .int (w 38)])) H := hR.1
      refine g_get X kc_Model mo1 9 (by decide) lk_Model_32 rfl d_Model_mapOf_3 ?_
      refine lv_iload_n X.1.1 X.1.2.1 d_Model_mapOf_6 rfl (gl_at hl rfl) ?_
      have ma2 : va_at D CL (d + 7, .inl (q 0, 12, .inl (ar 7))) H := hR.a7
      refine g_iald X 0 ma2 rfl k (by omega) (by omega) d_Model_mapOf_7 ?_
      refine lv_iconst (v := (-1)) X.1.1 X.1.2.1 d_Model_mapOf_8 (by decide) ?_
      refine lv_icmp_eq X.1.1 X.1.2.1 d_Model_mapOf_9 rfl (fun hc9 => ?_) (fun hc9 => ?_)
      · refine lv_iload_n X.1.1 X.1.2.1 d_Model_mapOf_22 rfl (gl_at hl rfl) ?_
        exact g_iret X B ⟨by rw [← hi2_1, ((hN k hi2_0).2.2.1 (hv.none hN hi2_0 hc9)).1], rfl⟩ (fun _ h => by cases h) d_Model_mapOf_23 (by omega) (by omega)
      · obtain ⟨j, hj, hj7⟩ := hv.some hi2_0 hc9
        have hNk := (hN k hi2_0).2.2.2 j hj
        refine lv_aload_n X.1.1 X.1.2.1 d_Model_mapOf_12 rfl (gl_at hl rfl) ?_
        refine g_get X kc_Model mo1 9 (by decide) lk_Model_32 rfl d_Model_mapOf_13 ?_
        refine lv_iload_n X.1.1 X.1.2.1 d_Model_mapOf_16 rfl (gl_at hl rfl) ?_
        refine g_iald X 0 ma2 rfl k (by omega) (by omega) d_Model_mapOf_17 ?_
        refine g_top (nI j) hj7 ?_
        refine g_istn X.1.1 X.1.2.1 hl 2 d_Model_mapOf_18 rfl (Nat.le_of_ble_eq_true rfl) rfl (fun ls hl => ?_)
        refine lv_goto X.1.1 X.1.2.1 d_Model_mapOf_19 rfl ?_
        exact ih2 j ls (by omega) (by omega) (by rw [← hNk.2.1]; exact hi2_1) hl
  exact loop2 _ v ls (Nat.lt_succ_self _) hvc rfl hl

theorem v_tn_step {t0 tk tj s tv : Nat} (h1 : t0 ≤ 1) (h2 : tj ≤ 1) (e : tk = v_tn s tj) (h : tv = if t0 = tk then 0 else 1) : tv = if (if s = 3 then 1 - t0 else t0) = tj then 0 else 1 := by
  subst e h
  unfold v_tn
  rcases (show t0 = 0 ∨ t0 = 1 by omega) with a | a <;> rcases (show tj = 0 ∨ tj = 1 by omega) with b | b <;> subst a b <;> by_cases c : s = 3 <;> simp [c]

set_option maxHeartbeats 4000000 in
set_option maxRecDepth 100000 in
/-- isTurned -/
theorem c_Model_isTurned (l : Launch) (D : va_G) (q : Nat → ClassId) (H : Heap) (d : Nat) (w : Nat → Int32) (ar : Nat → Nat → Int32) (hR : dR D q H d w ar) (c0 : Nat) (org : Nat → Option Nat) (srt : Nat → Nat) (bt : Nat → List Nat) (tn mp : Nat → Nat) (hv : pV w ar c0 org srt bt) (hN : pN c0 org srt tn mp) (v : Nat) (hvc : v < c0) : gC l y_Model_isTurned (Cond.code y_Model_isTurned b_Model_isTurned 4 (some .boolean) :: gWS) (gR 0 0 0 0) D CL (gY q) (fun _ => True) [.ref d, .int (nI v)] H (fun v1 H1 => v1 = some (.int (nI (tn v))) ∧ H1 = H) 0 0 (fun _ => False) := by
  refine gC.ofW R_Model "isTurned" (by decide) rfl rfl ?_
  intro p e s m below meth c hadm X hE hH B hne
  refine g_entry [some (.ref d), some (.int (nI v)), none, none] rfl rfl (Nat.le_of_ble_eq_true rfl) (fun ls hl => ?_)
  have h12 := hv.2.2.1
  refine lv_iconst (v := nI 0) X.1.1 X.1.2.1 d_Model_isTurned_0 (by decide) ?_
  refine g_istn X.1.1 X.1.2.1 hl 2 d_Model_isTurned_1 rfl (Nat.le_of_ble_eq_true rfl) rfl (fun ls hl => ?_)
  refine lv_iload_n X.1.1 X.1.2.1 d_Model_isTurned_2 rfl (gl_at hl rfl) ?_
  refine g_istn X.1.1 X.1.2.1 hl 3 d_Model_isTurned_3 rfl (Nat.le_of_ble_eq_true rfl) rfl (fun ls hl => ?_)
  have loop4 : ∀ (fu : Nat) (t0 : Nat) (k : Nat) (ls : Array Slot), k < fu → (k < c0) → (t0 ≤ 1) → (tn v = if t0 = tn k then 0 else 1) →  gl ls [some (.ref d), some (.int (nI v)), some (.int (nI t0)), some (.int (nI k))] → W p l e (gR 0 0 0 0) s m ([.ref d, .int (nI v)] : List Value).toArray below meth c H [] 0 0 (gQ below ([.ref d, .int (nI v)] : List Value).toArray s (fun v1 H1 => v1 = some (.int (nI (tn v))) ∧ H1 = H) 0 0 (fun _ => False)) (F0 m 4 ls []) := by
    intro fu
    induction fu with
    | zero => intro t0 k ls hmu; omega
    | succ fu ih4 =>
      intro t0 k ls hmu4 hi4_0 hi4_1 hi4_2 hl
      refine lv_aload_n X.1.1 X.1.2.1 d_Model_isTurned_4 rfl (gl_at hl rfl) ?_
      have mo1 : va_at D CL (d, .inr (10, [.int (w 0), .ref (d + 1), .int (w 2), .ref (d + 2), .ref (d + 3), .ref (d + 4), .ref (d + 5), .ref (d + 6), .int (w 8), .ref (d + 7), .ref (d + 8), .ref (d + 9), .ref (d + 10), .ref (d + 11), .ref (d + 12), .ref (d + 13), .ref (d + 14), .ref (d + 15), .ref (d + 16), .ref (d + 17), .int (w 20), .ref (d + 18), .int (w 22), .ref (d + 19), .ref (d + 20), .ref (d + 21), .int (w 26), .int (w 27), .int (w 28), .ref (d + 22), .ref (d + 23), .ref (d + 24), .ref (d + 25), .ref (d + 26), .int (w 34), .ref (d + 27), .ref (d + 28), .int (w 37), .int (w 38)])) H := hR.1
      refine g_get X kc_Model mo1 9 (by decide) lk_Model_32 rfl d_Model_isTurned_5 ?_
      refine lv_iload_n X.1.1 X.1.2.1 d_Model_isTurned_8 rfl (gl_at hl rfl) ?_
      have ma2 : va_at D CL (d + 7, .inl (q 0, 12, .inl (ar 7))) H := hR.a7
      refine g_iald X 0 ma2 rfl k (by omega) (by omega) d_Model_isTurned_9 ?_
      refine lv_iconst (v := (-1)) X.1.1 X.1.2.1 d_Model_isTurned_10 (by decide) ?_
      refine lv_icmp_eq X.1.1 X.1.2.1 d_Model_isTurned_11 rfl (fun hc11 => ?_) (fun hc11 => ?_)
      · refine lv_iload_n X.1.1 X.1.2.1 d_Model_isTurned_48 rfl (gl_at hl rfl) ?_
        exact g_zret X B (d_bo hi4_1) ⟨by
          have e5 := ((hN k hi4_0).2.2.1 (hv.none hN hi4_0 hc11)).2.1
          rw [hi4_2, e5]
          rcases (show t0 = 0 ∨ t0 = 1 by omega) with e | e <;> subst e <;> rfl, rfl⟩ (fun _ h => by cases h) d_Model_isTurned_49 (by omega) (by omega)
      · obtain ⟨j, hj, hj7⟩ := hv.some hi4_0 hc11
        have hNk := (hN k hi4_0).2.2.2 j hj
        have hsk := (hv.2.2.2 k hi4_0).2.1 j hj
        refine lv_aload_n X.1.1 X.1.2.1 d_Model_isTurned_14 rfl (gl_at hl rfl) ?_
        refine g_get X kc_Model mo1 10 (by decide) lk_Model_35 rfl d_Model_isTurned_15 ?_
        refine lv_iload_n X.1.1 X.1.2.1 d_Model_isTurned_18 rfl (gl_at hl rfl) ?_
        have ma3 : va_at D CL (d + 8, .inl (q 0, 12, .inl (ar 8))) H := hR.a8
        refine g_iald X 0 ma3 rfl k (by omega) (by omega) d_Model_isTurned_19 ?_
        refine g_top (nI (srt k)) hsk.1 ?_
        refine lv_iconst (v := nI 3) X.1.1 X.1.2.1 d_Model_isTurned_20 (by decide) ?_
        refine gn_ne X.1.1 X.1.2.1 (srt k) 3 (by omega) (by omega) d_Model_isTurned_21 rfl (fun hc21 => ?_) (fun hc21 => ?_)
        · refine lv_iload_n X.1.1 X.1.2.1 d_Model_isTurned_36 rfl (gl_at hl rfl) ?_
          refine g_istn X.1.1 X.1.2.1 hl 2 d_Model_isTurned_37 rfl (Nat.le_of_ble_eq_true rfl) rfl (fun ls hl => ?_)
          refine lv_aload_n X.1.1 X.1.2.1 d_Model_isTurned_38 rfl (gl_at hl rfl) ?_
          refine g_get X kc_Model mo1 9 (by decide) lk_Model_32 rfl d_Model_isTurned_39 ?_
          refine lv_iload_n X.1.1 X.1.2.1 d_Model_isTurned_42 rfl (gl_at hl rfl) ?_
          refine g_iald X 0 ma2 rfl k (by omega) (by omega) d_Model_isTurned_43 ?_
          refine g_top (nI j) hj7 ?_
          refine g_istn X.1.1 X.1.2.1 hl 3 d_Model_isTurned_44 rfl (Nat.le_of_ble_eq_true rfl) rfl (fun ls hl => ?_)
          refine lv_goto X.1.1 X.1.2.1 d_Model_isTurned_45 rfl ?_
          exact ih4 t0 j ls (by omega) (by omega) (by omega) (by
            have e9 := v_tn_step hi4_1 (hN j (by omega)).2.1 hNk.2.2.1 hi4_2
            first
            | (rw [if_neg hc21] at e9; exact e9)
            | (rw [if_pos hc21, show 1 - t0 = 1 by omega] at e9; exact e9)
            | (rw [if_pos hc21, show 1 - t0 = 0 by omega] at e9; exact e9)) hl
        · refine lv_iload_n X.1.1 X.1.2.1 d_Model_isTurned_24 rfl (gl_at hl rfl) ?_
          refine gn_ne0 X.1.1 X.1.2.1 t0 (by omega) d_Model_isTurned_25 rfl (fun hc25 => ?_) (fun hc25 => ?_)
          · refine lv_iconst (v := nI 0) X.1.1 X.1.2.1 d_Model_isTurned_32 (by decide) ?_
            refine lv_goto X.1.1 X.1.2.1 d_Model_isTurned_33 rfl ?_
            refine g_istn X.1.1 X.1.2.1 hl 2 d_Model_isTurned_37 rfl (Nat.le_of_ble_eq_true rfl) rfl (fun ls hl => ?_)
            refine lv_aload_n X.1.1 X.1.2.1 d_Model_isTurned_38 rfl (gl_at hl rfl) ?_
            refine g_get X kc_Model mo1 9 (by decide) lk_Model_32 rfl d_Model_isTurned_39 ?_
            refine lv_iload_n X.1.1 X.1.2.1 d_Model_isTurned_42 rfl (gl_at hl rfl) ?_
            refine g_iald X 0 ma2 rfl k (by omega) (by omega) d_Model_isTurned_43 ?_
            refine g_top (nI j) hj7 ?_
            refine g_istn X.1.1 X.1.2.1 hl 3 d_Model_isTurned_44 rfl (Nat.le_of_ble_eq_true rfl) rfl (fun ls hl => ?_)
            refine lv_goto X.1.1 X.1.2.1 d_Model_isTurned_45 rfl ?_
            exact ih4 0 j ls (by omega) (by omega) (by omega) (by
              have e9 := v_tn_step hi4_1 (hN j (by omega)).2.1 hNk.2.2.1 hi4_2
              first
              | (rw [if_neg hc21] at e9; exact e9)
              | (rw [if_pos hc21, show 1 - t0 = 1 by omega] at e9; exact e9)
              | (rw [if_pos hc21, show 1 - t0 = 0 by omega] at e9; exact e9)) hl
          · refine lv_iconst (v := nI 1) X.1.1 X.1.2.1 d_Model_isTurned_28 (by decide) ?_
            refine lv_goto X.1.1 X.1.2.1 d_Model_isTurned_29 rfl ?_
            refine g_istn X.1.1 X.1.2.1 hl 2 d_Model_isTurned_37 rfl (Nat.le_of_ble_eq_true rfl) rfl (fun ls hl => ?_)
            refine lv_aload_n X.1.1 X.1.2.1 d_Model_isTurned_38 rfl (gl_at hl rfl) ?_
            refine g_get X kc_Model mo1 9 (by decide) lk_Model_32 rfl d_Model_isTurned_39 ?_
            refine lv_iload_n X.1.1 X.1.2.1 d_Model_isTurned_42 rfl (gl_at hl rfl) ?_
            refine g_iald X 0 ma2 rfl k (by omega) (by omega) d_Model_isTurned_43 ?_
            refine g_top (nI j) hj7 ?_
            refine g_istn X.1.1 X.1.2.1 hl 3 d_Model_isTurned_44 rfl (Nat.le_of_ble_eq_true rfl) rfl (fun ls hl => ?_)
            refine lv_goto X.1.1 X.1.2.1 d_Model_isTurned_45 rfl ?_
            exact ih4 1 j ls (by omega) (by omega) (by omega) (by
              have e9 := v_tn_step hi4_1 (hN j (by omega)).2.1 hNk.2.2.1 hi4_2
              first
              | (rw [if_neg hc21] at e9; exact e9)
              | (rw [if_pos hc21, show 1 - t0 = 1 by omega] at e9; exact e9)
              | (rw [if_pos hc21, show 1 - t0 = 0 by omega] at e9; exact e9)) hl
  exact loop4 _ 0 v ls (Nat.lt_succ_self _) hvc (by omega) (by have := (hN v hvc).2.1; split <;> omega) hl

set_option maxHeartbeats 4000000 in
set_option maxRecDepth 100000 in
/-- within -/
theorem c_Model_within (l : Launch) (D : va_G) (q : Nat → ClassId) (H : Heap) (d : Nat) (w : Nat → Int32) (ar : Nat → Nat → Int32) (hR : dR D q H d w ar) (c0 : Nat) (org : Nat → Option Nat) (srt : Nat → Nat) (bt : Nat → List Nat) (tn mp : Nat → Nat) (hv : pV w ar c0 org srt bt) (hN : pN c0 org srt tn mp) (v : Nat) (hvc : v < c0) (pa la : Nat) (fa : Nat → Int32) (ha : va_at D CL (pa, .inl (q 0, la, .inl fa)) H) (oa n : Nat) (xs : List Nat) (hn : n = xs.length) (hxa : tXo fa oa xs) (hxl : oa + xs.length ≤ la) (hla : la < 60000) (hxc : t16 xs) : gC l y_Model_within (Cond.code y_Model_within b_Model_within 7 (some .boolean) :: gWS) (gR 2 51 0 0) D CL (gY q) (fun _ => True) [.ref d, .int (nI v), .ref pa, .int (nI oa), .int (nI n)] H (fun v1 H1 => v1 = some (.int (nI (if v_in org srt bt v xs = true then 1 else 0))) ∧ H1 = H) 0 0 (fun _ => False) := by
  refine gC.ofW R_Model "within" (by decide) rfl rfl ?_
  intro p e s m below meth c hadm X hE hH B hne
  refine g_entry [some (.ref d), some (.int (nI v)), some (.ref pa), some (.int (nI oa)), some (.int (nI n)), none, none] rfl rfl (Nat.le_of_ble_eq_true rfl) (fun ls hl => ?_)
  have h12 := hv.2.2.1
  refine lv_iconst (v := nI 1) X.1.1 X.1.2.1 d_Model_within_0 (by decide) ?_
  refine g_ist X.1.1 X.1.2.1 hl 5 d_Model_within_1 (Nat.le_of_ble_eq_true rfl) rfl (fun ls hl => ?_)
  refine lv_iload_n X.1.1 X.1.2.1 d_Model_within_3 rfl (gl_at hl rfl) ?_
  refine g_ist X.1.1 X.1.2.1 hl 6 d_Model_within_4 (Nat.le_of_ble_eq_true rfl) rfl (fun ls hl => ?_)
  have loop6 : ∀ (fu : Nat) (t0 : Nat) (k : Nat) (locs : List Loc) (ls : Array Slot), k < fu → (k < c0) → (t0 ≤ 1) → (v_in org srt bt v xs = true ↔ (t0 = 1 ∧ v_in org srt bt k xs = true)) → (∀ x ∈ locs, (fun _ => False) x.base) → gl ls [some (.ref d), some (.int (nI v)), some (.ref pa), some (.int (nI oa)), some (.int (nI n)), some (.int (nI t0)), some (.int (nI k))] → W p l e (gR 2 51 0 0) s m ([.ref d, .int (nI v), .ref pa, .int (nI oa), .int (nI n)] : List Value).toArray below meth c H locs 0 0 (gQ below ([.ref d, .int (nI v), .ref pa, .int (nI oa), .int (nI n)] : List Value).toArray s (fun v1 H1 => v1 = some (.int (nI (if v_in org srt bt v xs = true then 1 else 0))) ∧ H1 = H) 0 0 (fun _ => False)) (F0 m 6 ls []) := by
    intro fu
    induction fu with
    | zero => intro t0 k locs ls hmu; omega
    | succ fu ih6 =>
      intro t0 k locs ls hmu6 hi6_0 hi6_1 hi6_2 hL hl
      refine lv_aload_n X.1.1 X.1.2.1 d_Model_within_6 rfl (gl_at hl rfl) ?_
      have mo1 : va_at D CL (d, .inr (10, [.int (w 0), .ref (d + 1), .int (w 2), .ref (d + 2), .ref (d + 3), .ref (d + 4), .ref (d + 5), .ref (d + 6), .int (w 8), .ref (d + 7), .ref (d + 8), .ref (d + 9), .ref (d + 10), .ref (d + 11), .ref (d + 12), .ref (d + 13), .ref (d + 14), .ref (d + 15), .ref (d + 16), .ref (d + 17), .int (w 20), .ref (d + 18), .int (w 22), .ref (d + 19), .ref (d + 20), .ref (d + 21), .int (w 26), .int (w 27), .int (w 28), .ref (d + 22), .ref (d + 23), .ref (d + 24), .ref (d + 25), .ref (d + 26), .int (w 34), .ref (d + 27), .ref (d + 28), .int (w 37), .int (w 38)])) H := hR.1
      refine g_get X kc_Model mo1 9 (by decide) lk_Model_32 rfl d_Model_within_7 ?_
      refine lv_iload X.1.1 X.1.2.1 d_Model_within_10 (gl_at hl rfl) ?_
      have ma2 : va_at D CL (d + 7, .inl (q 0, 12, .inl (ar 7))) H := hR.a7
      refine g_iald X 0 ma2 rfl k (by omega) (by omega) d_Model_within_12 ?_
      refine lv_iconst (v := (-1)) X.1.1 X.1.2.1 d_Model_within_13 (by decide) ?_
      refine lv_icmp_eq X.1.1 X.1.2.1 d_Model_within_14 rfl (fun hc14 => ?_) (fun hc14 => ?_)
      · refine lv_iload X.1.1 X.1.2.1 d_Model_within_175 (gl_at hl rfl) ?_
        exact g_zret X B (d_bo hi6_1) ⟨by
          have e5 := v_in_none (bt := bt) (xs := xs) (hv.none hN hi6_0 hc14) ((hN k hi6_0).2.2.1 (hv.none hN hi6_0 hc14)).2.2
          rcases (show t0 = 0 ∨ t0 = 1 by omega) with e | e
          · rw [if_neg (fun h9 => by have := (hi6_2.mp h9).1; omega), e]
          · rw [if_pos (hi6_2.mpr ⟨e, e5⟩), e], rfl⟩ hL d_Model_within_177 (by omega) (by omega)
      · obtain ⟨j, hj, hj7⟩ := hv.some hi6_0 hc14
        have hNk := (hN k hi6_0).2.2.2 j hj
        have hsk := (hv.2.2.2 k hi6_0).2.1 j hj
        have hbk := (hv.2.2.2 k hi6_0).2.2
        rcases (show srt k = 0 ∨ srt k = 1 ∨ srt k = 2 ∨ srt k = 3 by omega) with hs | hs | hs | hs
        · refine lv_aload_n X.1.1 X.1.2.1 d_Model_within_17 rfl (gl_at hl rfl) ?_
          refine g_get X kc_Model mo1 10 (by decide) lk_Model_35 rfl d_Model_within_18 ?_
          refine lv_iload X.1.1 X.1.2.1 d_Model_within_21 (gl_at hl rfl) ?_
          have ma3 : va_at D CL (d + 8, .inl (q 0, 12, .inl (ar 8))) H := hR.a8
          refine g_iald X 0 ma3 rfl k (by omega) (by omega) d_Model_within_23 ?_
          refine g_top (nI 0) (hsk.1.trans (by rw [hs])) ?_
          refine gn_ne0 X.1.1 X.1.2.1 0 (by omega) d_Model_within_24 rfl (fun hc24 => ?_) (fun hc24 => ?_)
          · omega
          · refine lv_iload X.1.1 X.1.2.1 d_Model_within_27 (gl_at hl rfl) ?_
            refine gn_eq0 X.1.1 X.1.2.1 t0 (by omega) d_Model_within_29 rfl (fun hc29 => ?_) (fun hc29 => ?_)
            · refine lv_iconst (v := nI 0) X.1.1 X.1.2.1 d_Model_within_62 (by decide) ?_
              refine g_ist X.1.1 X.1.2.1 hl 5 d_Model_within_63 (Nat.le_of_ble_eq_true rfl) rfl (fun ls hl => ?_)
              refine lv_aload_n X.1.1 X.1.2.1 d_Model_within_65 rfl (gl_at hl rfl) ?_
              refine g_get X kc_Model mo1 10 (by decide) lk_Model_35 rfl d_Model_within_66 ?_
              refine lv_iload X.1.1 X.1.2.1 d_Model_within_69 (gl_at hl rfl) ?_
              refine g_iald X 0 ma3 rfl k (by omega) (by omega) d_Model_within_71 ?_
              refine g_top (nI 0) (hsk.1.trans (by rw [hs])) ?_
              refine lv_iconst (v := nI 1) X.1.1 X.1.2.1 d_Model_within_72 (by decide) ?_
              refine gn_ne X.1.1 X.1.2.1 0 1 (by omega) (by omega) d_Model_within_73 rfl (fun hc73 => ?_) (fun hc73 => ?_)
              · refine lv_aload_n X.1.1 X.1.2.1 d_Model_within_114 rfl (gl_at hl rfl) ?_
                refine g_get X kc_Model mo1 10 (by decide) lk_Model_35 rfl d_Model_within_115 ?_
                refine lv_iload X.1.1 X.1.2.1 d_Model_within_118 (gl_at hl rfl) ?_
                refine g_iald X 0 ma3 rfl k (by omega) (by omega) d_Model_within_120 ?_
                refine g_top (nI 0) (hsk.1.trans (by rw [hs])) ?_
                refine lv_iconst (v := nI 2) X.1.1 X.1.2.1 d_Model_within_121 (by decide) ?_
                refine gn_ne X.1.1 X.1.2.1 0 2 (by omega) (by omega) d_Model_within_122 rfl (fun hc122 => ?_) (fun hc122 => ?_)
                · refine lv_aload_n X.1.1 X.1.2.1 d_Model_within_163 rfl (gl_at hl rfl) ?_
                  refine g_get X kc_Model mo1 9 (by decide) lk_Model_32 rfl d_Model_within_164 ?_
                  refine lv_iload X.1.1 X.1.2.1 d_Model_within_167 (gl_at hl rfl) ?_
                  refine g_iald X 0 ma2 rfl k (by omega) (by omega) d_Model_within_169 ?_
                  refine g_top (nI j) hj7 ?_
                  refine g_ist X.1.1 X.1.2.1 hl 6 d_Model_within_170 (Nat.le_of_ble_eq_true rfl) rfl (fun ls hl => ?_)
                  refine lv_goto X.1.1 X.1.2.1 d_Model_within_172 rfl ?_
                  exact ih6 0 j locs ls (by omega) (by omega) (by omega) (by
                    first
                    | (rw [hi6_2, show t0 = 0 by omega]; simp)
                    | (have e8 : v_ok 0 (bt k) xs = false := decide_eq_false hc55
                       rw [hi6_2, v_in_some (hN.lt hi6_0) hj, hs, e8]; simp)) hL hl
                · omega
              · omega
            · refine lv_aload_n X.1.1 X.1.2.1 d_Model_within_32 rfl (gl_at hl rfl) ?_
              refine lv_iload_n X.1.1 X.1.2.1 d_Model_within_33 rfl (gl_at hl rfl) ?_
              refine lv_iload X.1.1 X.1.2.1 d_Model_within_34 (gl_at hl rfl) ?_
              refine lv_aload_n X.1.1 X.1.2.1 d_Model_within_36 rfl (gl_at hl rfl) ?_
              refine g_get X kc_Model mo1 12 (by decide) lk_Model_41 rfl d_Model_within_37 ?_
              refine lv_bipush (v := nI 8) X.1.1 X.1.2.1 d_Model_within_40 (by decide) ?_
              refine lv_iload X.1.1 X.1.2.1 d_Model_within_42 (gl_at hl rfl) ?_
              refine lv_imul X.1.1 X.1.2.1 d_Model_within_44 ?_
              refine g_top (nI (8 * k)) (pk_mul _ _) ?_
              refine lv_aload_n X.1.1 X.1.2.1 d_Model_within_45 rfl (gl_at hl rfl) ?_
              refine g_get X kc_Model mo1 11 (by decide) lk_Model_38 rfl d_Model_within_46 ?_
              refine lv_iload X.1.1 X.1.2.1 d_Model_within_49 (gl_at hl rfl) ?_
              have ma4 : va_at D CL (d + 9, .inl (q 0, 12, .inl (ar 9))) H := hR.a9
              refine g_iald X 0 ma4 rfl k (by omega) (by omega) d_Model_within_51 ?_
              refine g_top (nI ((bt k).length)) hsk.2.1 ?_
              refine g_cs (A := (fun _ => False)) X gWS_good mw_Model_110 (c_Model_begins l D q H pa la (d + 10) 96 fa (ar 10) ha hR.a10 oa (8 * k) n _ xs (bt k) hn rfl hxa hsk.2.2 hxl (by omega) hla (by omega) hxc hbk.2) (fun _ _ _ => trivial) gBlind.tt rfl rfl hl.1 (Nat.le_of_ble_eq_true rfl) rfl rfl ⟨by decide, by decide⟩ ⟨by decide, by decide⟩ d_Model_within_52 (fun _ h => h.elim) hL (fun v5 H6 locs hp7 hL => ?_)
              obtain ⟨rfl, hHe⟩ := hp7
              rw [hHe]
              refine lv_if_eq X.1.1 X.1.2.1 d_Model_within_55 rfl (fun hc55 => ?_) (fun hc55 => ?_)
              · replace hc55 := gz_f hc55
                refine lv_iconst (v := nI 0) X.1.1 X.1.2.1 d_Model_within_62 (by decide) ?_
                refine g_ist X.1.1 X.1.2.1 hl 5 d_Model_within_63 (Nat.le_of_ble_eq_true rfl) rfl (fun ls hl => ?_)
                refine lv_aload_n X.1.1 X.1.2.1 d_Model_within_65 rfl (gl_at hl rfl) ?_
                refine g_get X kc_Model mo1 10 (by decide) lk_Model_35 rfl d_Model_within_66 ?_
                refine lv_iload X.1.1 X.1.2.1 d_Model_within_69 (gl_at hl rfl) ?_
                refine g_iald X 0 ma3 rfl k (by omega) (by omega) d_Model_within_71 ?_
                refine g_top (nI 0) (hsk.1.trans (by rw [hs])) ?_
                refine lv_iconst (v := nI 1) X.1.1 X.1.2.1 d_Model_within_72 (by decide) ?_
                refine gn_ne X.1.1 X.1.2.1 0 1 (by omega) (by omega) d_Model_within_73 rfl (fun hc73 => ?_) (fun hc73 => ?_)
                · refine lv_aload_n X.1.1 X.1.2.1 d_Model_within_114 rfl (gl_at hl rfl) ?_
                  refine g_get X kc_Model mo1 10 (by decide) lk_Model_35 rfl d_Model_within_115 ?_
                  refine lv_iload X.1.1 X.1.2.1 d_Model_within_118 (gl_at hl rfl) ?_
                  refine g_iald X 0 ma3 rfl k (by omega) (by omega) d_Model_within_120 ?_
                  refine g_top (nI 0) (hsk.1.trans (by rw [hs])) ?_
                  refine lv_iconst (v := nI 2) X.1.1 X.1.2.1 d_Model_within_121 (by decide) ?_
                  refine gn_ne X.1.1 X.1.2.1 0 2 (by omega) (by omega) d_Model_within_122 rfl (fun hc122 => ?_) (fun hc122 => ?_)
                  · refine lv_aload_n X.1.1 X.1.2.1 d_Model_within_163 rfl (gl_at hl rfl) ?_
                    refine g_get X kc_Model mo1 9 (by decide) lk_Model_32 rfl d_Model_within_164 ?_
                    refine lv_iload X.1.1 X.1.2.1 d_Model_within_167 (gl_at hl rfl) ?_
                    refine g_iald X 0 ma2 rfl k (by omega) (by omega) d_Model_within_169 ?_
                    refine g_top (nI j) hj7 ?_
                    refine g_ist X.1.1 X.1.2.1 hl 6 d_Model_within_170 (Nat.le_of_ble_eq_true rfl) rfl (fun ls hl => ?_)
                    refine lv_goto X.1.1 X.1.2.1 d_Model_within_172 rfl ?_
                    exact ih6 0 j locs ls (by omega) (by omega) (by omega) (by
                      first
                      | (rw [hi6_2, show t0 = 0 by omega]; simp)
                      | (have e8 : v_ok 0 (bt k) xs = false := decide_eq_false hc55
                         rw [hi6_2, v_in_some (hN.lt hi6_0) hj, hs, e8]; simp)) hL hl
                  · omega
                · omega
              · replace hc55 := gz_t hc55
                refine lv_iconst (v := nI 1) X.1.1 X.1.2.1 d_Model_within_58 (by decide) ?_
                refine lv_goto X.1.1 X.1.2.1 d_Model_within_59 rfl ?_
                refine g_ist X.1.1 X.1.2.1 hl 5 d_Model_within_63 (Nat.le_of_ble_eq_true rfl) rfl (fun ls hl => ?_)
                refine lv_aload_n X.1.1 X.1.2.1 d_Model_within_65 rfl (gl_at hl rfl) ?_
                refine g_get X kc_Model mo1 10 (by decide) lk_Model_35 rfl d_Model_within_66 ?_
                refine lv_iload X.1.1 X.1.2.1 d_Model_within_69 (gl_at hl rfl) ?_
                refine g_iald X 0 ma3 rfl k (by omega) (by omega) d_Model_within_71 ?_
                refine g_top (nI 0) (hsk.1.trans (by rw [hs])) ?_
                refine lv_iconst (v := nI 1) X.1.1 X.1.2.1 d_Model_within_72 (by decide) ?_
                refine gn_ne X.1.1 X.1.2.1 0 1 (by omega) (by omega) d_Model_within_73 rfl (fun hc73 => ?_) (fun hc73 => ?_)
                · refine lv_aload_n X.1.1 X.1.2.1 d_Model_within_114 rfl (gl_at hl rfl) ?_
                  refine g_get X kc_Model mo1 10 (by decide) lk_Model_35 rfl d_Model_within_115 ?_
                  refine lv_iload X.1.1 X.1.2.1 d_Model_within_118 (gl_at hl rfl) ?_
                  refine g_iald X 0 ma3 rfl k (by omega) (by omega) d_Model_within_120 ?_
                  refine g_top (nI 0) (hsk.1.trans (by rw [hs])) ?_
                  refine lv_iconst (v := nI 2) X.1.1 X.1.2.1 d_Model_within_121 (by decide) ?_
                  refine gn_ne X.1.1 X.1.2.1 0 2 (by omega) (by omega) d_Model_within_122 rfl (fun hc122 => ?_) (fun hc122 => ?_)
                  · refine lv_aload_n X.1.1 X.1.2.1 d_Model_within_163 rfl (gl_at hl rfl) ?_
                    refine g_get X kc_Model mo1 9 (by decide) lk_Model_32 rfl d_Model_within_164 ?_
                    refine lv_iload X.1.1 X.1.2.1 d_Model_within_167 (gl_at hl rfl) ?_
                    refine g_iald X 0 ma2 rfl k (by omega) (by omega) d_Model_within_169 ?_
                    refine g_top (nI j) hj7 ?_
                    refine g_ist X.1.1 X.1.2.1 hl 6 d_Model_within_170 (Nat.le_of_ble_eq_true rfl) rfl (fun ls hl => ?_)
                    refine lv_goto X.1.1 X.1.2.1 d_Model_within_172 rfl ?_
                    exact ih6 1 j locs ls (by omega) (by omega) (by omega) (by
                      have e8 : v_ok 0 (bt k) xs = true := decide_eq_true hc55
                      rw [hi6_2, v_in_some (hN.lt hi6_0) hj, hs, e8, show t0 = 1 by omega]
                      simp) hL hl
                  · omega
                · omega
        · refine lv_aload_n X.1.1 X.1.2.1 d_Model_within_17 rfl (gl_at hl rfl) ?_
          refine g_get X kc_Model mo1 10 (by decide) lk_Model_35 rfl d_Model_within_18 ?_
          refine lv_iload X.1.1 X.1.2.1 d_Model_within_21 (gl_at hl rfl) ?_
          have ma8 : va_at D CL (d + 8, .inl (q 0, 12, .inl (ar 8))) H := hR.a8
          refine g_iald X 0 ma8 rfl k (by omega) (by omega) d_Model_within_23 ?_
          refine g_top (nI 1) (hsk.1.trans (by rw [hs])) ?_
          refine gn_ne0 X.1.1 X.1.2.1 1 (by omega) d_Model_within_24 rfl (fun hc24 => ?_) (fun hc24 => ?_)
          · refine lv_aload_n X.1.1 X.1.2.1 d_Model_within_65 rfl (gl_at hl rfl) ?_
            refine g_get X kc_Model mo1 10 (by decide) lk_Model_35 rfl d_Model_within_66 ?_
            refine lv_iload X.1.1 X.1.2.1 d_Model_within_69 (gl_at hl rfl) ?_
            refine g_iald X 0 ma8 rfl k (by omega) (by omega) d_Model_within_71 ?_
            refine g_top (nI 1) (hsk.1.trans (by rw [hs])) ?_
            refine lv_iconst (v := nI 1) X.1.1 X.1.2.1 d_Model_within_72 (by decide) ?_
            refine gn_ne X.1.1 X.1.2.1 1 1 (by omega) (by omega) d_Model_within_73 rfl (fun hc73 => ?_) (fun hc73 => ?_)
            · omega
            · refine lv_iload X.1.1 X.1.2.1 d_Model_within_76 (gl_at hl rfl) ?_
              refine gn_eq0 X.1.1 X.1.2.1 t0 (by omega) d_Model_within_78 rfl (fun hc78 => ?_) (fun hc78 => ?_)
              · refine lv_iconst (v := nI 0) X.1.1 X.1.2.1 d_Model_within_111 (by decide) ?_
                refine g_ist X.1.1 X.1.2.1 hl 5 d_Model_within_112 (Nat.le_of_ble_eq_true rfl) rfl (fun ls hl => ?_)
                refine lv_aload_n X.1.1 X.1.2.1 d_Model_within_114 rfl (gl_at hl rfl) ?_
                refine g_get X kc_Model mo1 10 (by decide) lk_Model_35 rfl d_Model_within_115 ?_
                refine lv_iload X.1.1 X.1.2.1 d_Model_within_118 (gl_at hl rfl) ?_
                refine g_iald X 0 ma8 rfl k (by omega) (by omega) d_Model_within_120 ?_
                refine g_top (nI 1) (hsk.1.trans (by rw [hs])) ?_
                refine lv_iconst (v := nI 2) X.1.1 X.1.2.1 d_Model_within_121 (by decide) ?_
                refine gn_ne X.1.1 X.1.2.1 1 2 (by omega) (by omega) d_Model_within_122 rfl (fun hc122 => ?_) (fun hc122 => ?_)
                · refine lv_aload_n X.1.1 X.1.2.1 d_Model_within_163 rfl (gl_at hl rfl) ?_
                  refine g_get X kc_Model mo1 9 (by decide) lk_Model_32 rfl d_Model_within_164 ?_
                  refine lv_iload X.1.1 X.1.2.1 d_Model_within_167 (gl_at hl rfl) ?_
                  refine g_iald X 0 ma2 rfl k (by omega) (by omega) d_Model_within_169 ?_
                  refine g_top (nI j) hj7 ?_
                  refine g_ist X.1.1 X.1.2.1 hl 6 d_Model_within_170 (Nat.le_of_ble_eq_true rfl) rfl (fun ls hl => ?_)
                  refine lv_goto X.1.1 X.1.2.1 d_Model_within_172 rfl ?_
                  exact ih6 0 j locs ls (by omega) (by omega) (by omega) (by
                    first
                    | (rw [hi6_2, show t0 = 0 by omega]; simp)
                    | (have e8 : v_ok 1 (bt k) xs = false := decide_eq_false (by rw [← hr]; have := gi_ge hc104; omega)
                       rw [hi6_2, v_in_some (hN.lt hi6_0) hj, hs, e8]; simp)) hL hl
                · omega
              · refine lv_aload_n X.1.1 X.1.2.1 d_Model_within_81 rfl (gl_at hl rfl) ?_
                refine lv_iload_n X.1.1 X.1.2.1 d_Model_within_82 rfl (gl_at hl rfl) ?_
                refine lv_iload X.1.1 X.1.2.1 d_Model_within_83 (gl_at hl rfl) ?_
                refine lv_aload_n X.1.1 X.1.2.1 d_Model_within_85 rfl (gl_at hl rfl) ?_
                refine g_get X kc_Model mo1 12 (by decide) lk_Model_41 rfl d_Model_within_86 ?_
                refine lv_bipush (v := nI 8) X.1.1 X.1.2.1 d_Model_within_89 (by decide) ?_
                refine lv_iload X.1.1 X.1.2.1 d_Model_within_91 (gl_at hl rfl) ?_
                refine lv_imul X.1.1 X.1.2.1 d_Model_within_93 ?_
                refine g_top (nI (8 * k)) (pk_mul _ _) ?_
                refine lv_aload_n X.1.1 X.1.2.1 d_Model_within_94 rfl (gl_at hl rfl) ?_
                refine g_get X kc_Model mo1 11 (by decide) lk_Model_38 rfl d_Model_within_95 ?_
                refine lv_iload X.1.1 X.1.2.1 d_Model_within_98 (gl_at hl rfl) ?_
                have ma9 : va_at D CL (d + 9, .inl (q 0, 12, .inl (ar 9))) H := hR.a9
                refine g_iald X 0 ma9 rfl k (by omega) (by omega) d_Model_within_100 ?_
                refine g_top (nI ((bt k).length)) hsk.2.1 ?_
                refine g_cs (A := (fun _ => False)) X gWS_good mw_Model_106 (c_Model_order l D q H pa la (d + 10) 96 fa (ar 10) ha hR.a10 oa (8 * k) n _ xs (bt k) hn rfl hxa hsk.2.2 hxl (by omega) hla (by omega) hxc hbk.2) (fun _ _ _ => trivial) gBlind.tt rfl rfl hl.1 (Nat.le_of_ble_eq_true rfl) rfl rfl ⟨by decide, by decide⟩ ⟨by decide, by decide⟩ d_Model_within_101 (fun _ h => h.elim) hL (fun v10 H11 locs hp12 hL => ?_)
                obtain ⟨⟨r, rfl, hr⟩, hHe⟩ := hp12
                rw [hHe]
                refine lv_if_ge X.1.1 X.1.2.1 d_Model_within_104 rfl (fun hc104 => ?_) (fun hc104 => ?_)
                · refine lv_iconst (v := nI 0) X.1.1 X.1.2.1 d_Model_within_111 (by decide) ?_
                  refine g_ist X.1.1 X.1.2.1 hl 5 d_Model_within_112 (Nat.le_of_ble_eq_true rfl) rfl (fun ls hl => ?_)
                  refine lv_aload_n X.1.1 X.1.2.1 d_Model_within_114 rfl (gl_at hl rfl) ?_
                  refine g_get X kc_Model mo1 10 (by decide) lk_Model_35 rfl d_Model_within_115 ?_
                  refine lv_iload X.1.1 X.1.2.1 d_Model_within_118 (gl_at hl rfl) ?_
                  refine g_iald X 0 ma8 rfl k (by omega) (by omega) d_Model_within_120 ?_
                  refine g_top (nI 1) (hsk.1.trans (by rw [hs])) ?_
                  refine lv_iconst (v := nI 2) X.1.1 X.1.2.1 d_Model_within_121 (by decide) ?_
                  refine gn_ne X.1.1 X.1.2.1 1 2 (by omega) (by omega) d_Model_within_122 rfl (fun hc122 => ?_) (fun hc122 => ?_)
                  · refine lv_aload_n X.1.1 X.1.2.1 d_Model_within_163 rfl (gl_at hl rfl) ?_
                    refine g_get X kc_Model mo1 9 (by decide) lk_Model_32 rfl d_Model_within_164 ?_
                    refine lv_iload X.1.1 X.1.2.1 d_Model_within_167 (gl_at hl rfl) ?_
                    refine g_iald X 0 ma2 rfl k (by omega) (by omega) d_Model_within_169 ?_
                    refine g_top (nI j) hj7 ?_
                    refine g_ist X.1.1 X.1.2.1 hl 6 d_Model_within_170 (Nat.le_of_ble_eq_true rfl) rfl (fun ls hl => ?_)
                    refine lv_goto X.1.1 X.1.2.1 d_Model_within_172 rfl ?_
                    exact ih6 0 j locs ls (by omega) (by omega) (by omega) (by
                      first
                      | (rw [hi6_2, show t0 = 0 by omega]; simp)
                      | (have e8 : v_ok 1 (bt k) xs = false := decide_eq_false (by rw [← hr]; have := gi_ge hc104; omega)
                         rw [hi6_2, v_in_some (hN.lt hi6_0) hj, hs, e8]; simp)) hL hl
                  · omega
                · refine lv_iconst (v := nI 1) X.1.1 X.1.2.1 d_Model_within_107 (by decide) ?_
                  refine lv_goto X.1.1 X.1.2.1 d_Model_within_108 rfl ?_
                  refine g_ist X.1.1 X.1.2.1 hl 5 d_Model_within_112 (Nat.le_of_ble_eq_true rfl) rfl (fun ls hl => ?_)
                  refine lv_aload_n X.1.1 X.1.2.1 d_Model_within_114 rfl (gl_at hl rfl) ?_
                  refine g_get X kc_Model mo1 10 (by decide) lk_Model_35 rfl d_Model_within_115 ?_
                  refine lv_iload X.1.1 X.1.2.1 d_Model_within_118 (gl_at hl rfl) ?_
                  refine g_iald X 0 ma8 rfl k (by omega) (by omega) d_Model_within_120 ?_
                  refine g_top (nI 1) (hsk.1.trans (by rw [hs])) ?_
                  refine lv_iconst (v := nI 2) X.1.1 X.1.2.1 d_Model_within_121 (by decide) ?_
                  refine gn_ne X.1.1 X.1.2.1 1 2 (by omega) (by omega) d_Model_within_122 rfl (fun hc122 => ?_) (fun hc122 => ?_)
                  · refine lv_aload_n X.1.1 X.1.2.1 d_Model_within_163 rfl (gl_at hl rfl) ?_
                    refine g_get X kc_Model mo1 9 (by decide) lk_Model_32 rfl d_Model_within_164 ?_
                    refine lv_iload X.1.1 X.1.2.1 d_Model_within_167 (gl_at hl rfl) ?_
                    refine g_iald X 0 ma2 rfl k (by omega) (by omega) d_Model_within_169 ?_
                    refine g_top (nI j) hj7 ?_
                    refine g_ist X.1.1 X.1.2.1 hl 6 d_Model_within_170 (Nat.le_of_ble_eq_true rfl) rfl (fun ls hl => ?_)
                    refine lv_goto X.1.1 X.1.2.1 d_Model_within_172 rfl ?_
                    exact ih6 1 j locs ls (by omega) (by omega) (by omega) (by
                      have e8 : v_ok 1 (bt k) xs = true := decide_eq_true (by rw [← hr]; exact gi_nge hc104)
                      rw [hi6_2, v_in_some (hN.lt hi6_0) hj, hs, e8, show t0 = 1 by omega]
                      simp) hL hl
                  · omega
          · omega
        · refine lv_aload_n X.1.1 X.1.2.1 d_Model_within_17 rfl (gl_at hl rfl) ?_
          refine g_get X kc_Model mo1 10 (by decide) lk_Model_35 rfl d_Model_within_18 ?_
          refine lv_iload X.1.1 X.1.2.1 d_Model_within_21 (gl_at hl rfl) ?_
          have ma13 : va_at D CL (d + 8, .inl (q 0, 12, .inl (ar 8))) H := hR.a8
          refine g_iald X 0 ma13 rfl k (by omega) (by omega) d_Model_within_23 ?_
          refine g_top (nI 2) (hsk.1.trans (by rw [hs])) ?_
          refine gn_ne0 X.1.1 X.1.2.1 2 (by omega) d_Model_within_24 rfl (fun hc24 => ?_) (fun hc24 => ?_)
          · refine lv_aload_n X.1.1 X.1.2.1 d_Model_within_65 rfl (gl_at hl rfl) ?_
            refine g_get X kc_Model mo1 10 (by decide) lk_Model_35 rfl d_Model_within_66 ?_
            refine lv_iload X.1.1 X.1.2.1 d_Model_within_69 (gl_at hl rfl) ?_
            refine g_iald X 0 ma13 rfl k (by omega) (by omega) d_Model_within_71 ?_
            refine g_top (nI 2) (hsk.1.trans (by rw [hs])) ?_
            refine lv_iconst (v := nI 1) X.1.1 X.1.2.1 d_Model_within_72 (by decide) ?_
            refine gn_ne X.1.1 X.1.2.1 2 1 (by omega) (by omega) d_Model_within_73 rfl (fun hc73 => ?_) (fun hc73 => ?_)
            · refine lv_aload_n X.1.1 X.1.2.1 d_Model_within_114 rfl (gl_at hl rfl) ?_
              refine g_get X kc_Model mo1 10 (by decide) lk_Model_35 rfl d_Model_within_115 ?_
              refine lv_iload X.1.1 X.1.2.1 d_Model_within_118 (gl_at hl rfl) ?_
              refine g_iald X 0 ma13 rfl k (by omega) (by omega) d_Model_within_120 ?_
              refine g_top (nI 2) (hsk.1.trans (by rw [hs])) ?_
              refine lv_iconst (v := nI 2) X.1.1 X.1.2.1 d_Model_within_121 (by decide) ?_
              refine gn_ne X.1.1 X.1.2.1 2 2 (by omega) (by omega) d_Model_within_122 rfl (fun hc122 => ?_) (fun hc122 => ?_)
              · omega
              · refine lv_iload X.1.1 X.1.2.1 d_Model_within_125 (gl_at hl rfl) ?_
                refine gn_eq0 X.1.1 X.1.2.1 t0 (by omega) d_Model_within_127 rfl (fun hc127 => ?_) (fun hc127 => ?_)
                · refine lv_iconst (v := nI 0) X.1.1 X.1.2.1 d_Model_within_160 (by decide) ?_
                  refine g_ist X.1.1 X.1.2.1 hl 5 d_Model_within_161 (Nat.le_of_ble_eq_true rfl) rfl (fun ls hl => ?_)
                  refine lv_aload_n X.1.1 X.1.2.1 d_Model_within_163 rfl (gl_at hl rfl) ?_
                  refine g_get X kc_Model mo1 9 (by decide) lk_Model_32 rfl d_Model_within_164 ?_
                  refine lv_iload X.1.1 X.1.2.1 d_Model_within_167 (gl_at hl rfl) ?_
                  refine g_iald X 0 ma2 rfl k (by omega) (by omega) d_Model_within_169 ?_
                  refine g_top (nI j) hj7 ?_
                  refine g_ist X.1.1 X.1.2.1 hl 6 d_Model_within_170 (Nat.le_of_ble_eq_true rfl) rfl (fun ls hl => ?_)
                  refine lv_goto X.1.1 X.1.2.1 d_Model_within_172 rfl ?_
                  exact ih6 0 j locs ls (by omega) (by omega) (by omega) (by
                    first
                    | (rw [hi6_2, show t0 = 0 by omega]; simp)
                    | (have e8 : v_ok 2 (bt k) xs = false := decide_eq_false (by rw [← hr]; have := gi_lt hc153; omega)
                       rw [hi6_2, v_in_some (hN.lt hi6_0) hj, hs, e8]; simp)) hL hl
                · refine lv_aload_n X.1.1 X.1.2.1 d_Model_within_130 rfl (gl_at hl rfl) ?_
                  refine lv_iload_n X.1.1 X.1.2.1 d_Model_within_131 rfl (gl_at hl rfl) ?_
                  refine lv_iload X.1.1 X.1.2.1 d_Model_within_132 (gl_at hl rfl) ?_
                  refine lv_aload_n X.1.1 X.1.2.1 d_Model_within_134 rfl (gl_at hl rfl) ?_
                  refine g_get X kc_Model mo1 12 (by decide) lk_Model_41 rfl d_Model_within_135 ?_
                  refine lv_bipush (v := nI 8) X.1.1 X.1.2.1 d_Model_within_138 (by decide) ?_
                  refine lv_iload X.1.1 X.1.2.1 d_Model_within_140 (gl_at hl rfl) ?_
                  refine lv_imul X.1.1 X.1.2.1 d_Model_within_142 ?_
                  refine g_top (nI (8 * k)) (pk_mul _ _) ?_
                  refine lv_aload_n X.1.1 X.1.2.1 d_Model_within_143 rfl (gl_at hl rfl) ?_
                  refine g_get X kc_Model mo1 11 (by decide) lk_Model_38 rfl d_Model_within_144 ?_
                  refine lv_iload X.1.1 X.1.2.1 d_Model_within_147 (gl_at hl rfl) ?_
                  have ma14 : va_at D CL (d + 9, .inl (q 0, 12, .inl (ar 9))) H := hR.a9
                  refine g_iald X 0 ma14 rfl k (by omega) (by omega) d_Model_within_149 ?_
                  refine g_top (nI ((bt k).length)) hsk.2.1 ?_
                  refine g_cs (A := (fun _ => False)) X gWS_good mw_Model_106 (c_Model_order l D q H pa la (d + 10) 96 fa (ar 10) ha hR.a10 oa (8 * k) n _ xs (bt k) hn rfl hxa hsk.2.2 hxl (by omega) hla (by omega) hxc hbk.2) (fun _ _ _ => trivial) gBlind.tt rfl rfl hl.1 (Nat.le_of_ble_eq_true rfl) rfl rfl ⟨by decide, by decide⟩ ⟨by decide, by decide⟩ d_Model_within_150 (fun _ h => h.elim) hL (fun v15 H16 locs hp17 hL => ?_)
                  obtain ⟨⟨r, rfl, hr⟩, hHe⟩ := hp17
                  rw [hHe]
                  refine lv_if_lt X.1.1 X.1.2.1 d_Model_within_153 rfl (fun hc153 => ?_) (fun hc153 => ?_)
                  · refine lv_iconst (v := nI 0) X.1.1 X.1.2.1 d_Model_within_160 (by decide) ?_
                    refine g_ist X.1.1 X.1.2.1 hl 5 d_Model_within_161 (Nat.le_of_ble_eq_true rfl) rfl (fun ls hl => ?_)
                    refine lv_aload_n X.1.1 X.1.2.1 d_Model_within_163 rfl (gl_at hl rfl) ?_
                    refine g_get X kc_Model mo1 9 (by decide) lk_Model_32 rfl d_Model_within_164 ?_
                    refine lv_iload X.1.1 X.1.2.1 d_Model_within_167 (gl_at hl rfl) ?_
                    refine g_iald X 0 ma2 rfl k (by omega) (by omega) d_Model_within_169 ?_
                    refine g_top (nI j) hj7 ?_
                    refine g_ist X.1.1 X.1.2.1 hl 6 d_Model_within_170 (Nat.le_of_ble_eq_true rfl) rfl (fun ls hl => ?_)
                    refine lv_goto X.1.1 X.1.2.1 d_Model_within_172 rfl ?_
                    exact ih6 0 j locs ls (by omega) (by omega) (by omega) (by
                      first
                      | (rw [hi6_2, show t0 = 0 by omega]; simp)
                      | (have e8 : v_ok 2 (bt k) xs = false := decide_eq_false (by rw [← hr]; have := gi_lt hc153; omega)
                         rw [hi6_2, v_in_some (hN.lt hi6_0) hj, hs, e8]; simp)) hL hl
                  · refine lv_iconst (v := nI 1) X.1.1 X.1.2.1 d_Model_within_156 (by decide) ?_
                    refine lv_goto X.1.1 X.1.2.1 d_Model_within_157 rfl ?_
                    refine g_ist X.1.1 X.1.2.1 hl 5 d_Model_within_161 (Nat.le_of_ble_eq_true rfl) rfl (fun ls hl => ?_)
                    refine lv_aload_n X.1.1 X.1.2.1 d_Model_within_163 rfl (gl_at hl rfl) ?_
                    refine g_get X kc_Model mo1 9 (by decide) lk_Model_32 rfl d_Model_within_164 ?_
                    refine lv_iload X.1.1 X.1.2.1 d_Model_within_167 (gl_at hl rfl) ?_
                    refine g_iald X 0 ma2 rfl k (by omega) (by omega) d_Model_within_169 ?_
                    refine g_top (nI j) hj7 ?_
                    refine g_ist X.1.1 X.1.2.1 hl 6 d_Model_within_170 (Nat.le_of_ble_eq_true rfl) rfl (fun ls hl => ?_)
                    refine lv_goto X.1.1 X.1.2.1 d_Model_within_172 rfl ?_
                    exact ih6 1 j locs ls (by omega) (by omega) (by omega) (by
                      have e8 : v_ok 2 (bt k) xs = true := decide_eq_true (by rw [← hr]; exact gi_nlt hc153)
                      rw [hi6_2, v_in_some (hN.lt hi6_0) hj, hs, e8, show t0 = 1 by omega]
                      simp) hL hl
            · omega
          · omega
        · refine lv_aload_n X.1.1 X.1.2.1 d_Model_within_17 rfl (gl_at hl rfl) ?_
          refine g_get X kc_Model mo1 10 (by decide) lk_Model_35 rfl d_Model_within_18 ?_
          refine lv_iload X.1.1 X.1.2.1 d_Model_within_21 (gl_at hl rfl) ?_
          have ma18 : va_at D CL (d + 8, .inl (q 0, 12, .inl (ar 8))) H := hR.a8
          refine g_iald X 0 ma18 rfl k (by omega) (by omega) d_Model_within_23 ?_
          refine g_top (nI 3) (hsk.1.trans (by rw [hs])) ?_
          refine gn_ne0 X.1.1 X.1.2.1 3 (by omega) d_Model_within_24 rfl (fun hc24 => ?_) (fun hc24 => ?_)
          · refine lv_aload_n X.1.1 X.1.2.1 d_Model_within_65 rfl (gl_at hl rfl) ?_
            refine g_get X kc_Model mo1 10 (by decide) lk_Model_35 rfl d_Model_within_66 ?_
            refine lv_iload X.1.1 X.1.2.1 d_Model_within_69 (gl_at hl rfl) ?_
            refine g_iald X 0 ma18 rfl k (by omega) (by omega) d_Model_within_71 ?_
            refine g_top (nI 3) (hsk.1.trans (by rw [hs])) ?_
            refine lv_iconst (v := nI 1) X.1.1 X.1.2.1 d_Model_within_72 (by decide) ?_
            refine gn_ne X.1.1 X.1.2.1 3 1 (by omega) (by omega) d_Model_within_73 rfl (fun hc73 => ?_) (fun hc73 => ?_)
            · refine lv_aload_n X.1.1 X.1.2.1 d_Model_within_114 rfl (gl_at hl rfl) ?_
              refine g_get X kc_Model mo1 10 (by decide) lk_Model_35 rfl d_Model_within_115 ?_
              refine lv_iload X.1.1 X.1.2.1 d_Model_within_118 (gl_at hl rfl) ?_
              refine g_iald X 0 ma18 rfl k (by omega) (by omega) d_Model_within_120 ?_
              refine g_top (nI 3) (hsk.1.trans (by rw [hs])) ?_
              refine lv_iconst (v := nI 2) X.1.1 X.1.2.1 d_Model_within_121 (by decide) ?_
              refine gn_ne X.1.1 X.1.2.1 3 2 (by omega) (by omega) d_Model_within_122 rfl (fun hc122 => ?_) (fun hc122 => ?_)
              · refine lv_aload_n X.1.1 X.1.2.1 d_Model_within_163 rfl (gl_at hl rfl) ?_
                refine g_get X kc_Model mo1 9 (by decide) lk_Model_32 rfl d_Model_within_164 ?_
                refine lv_iload X.1.1 X.1.2.1 d_Model_within_167 (gl_at hl rfl) ?_
                refine g_iald X 0 ma2 rfl k (by omega) (by omega) d_Model_within_169 ?_
                refine g_top (nI j) hj7 ?_
                refine g_ist X.1.1 X.1.2.1 hl 6 d_Model_within_170 (Nat.le_of_ble_eq_true rfl) rfl (fun ls hl => ?_)
                refine lv_goto X.1.1 X.1.2.1 d_Model_within_172 rfl ?_
                exact ih6 t0 j locs ls (by omega) (by omega) (by omega) (by
                  rw [hi6_2, v_in_some (hN.lt hi6_0) hj, hs]
                  have e8 : v_ok 3 (bt k) xs = true := rfl
                  rw [e8]
                  simp) hL hl
              · omega
            · omega
          · omega
  exact loop6 _ 1 v [] ls (Nat.lt_succ_self _) hvc (by omega) (by simp) (fun _ h => by cases h) hl

set_option maxHeartbeats 4000000 in
set_option maxRecDepth 100000 in
/-- has -/
theorem c_Model_has (l : Launch) (D : va_G) (q : Nat → ClassId) (H : Heap) (d : Nat) (w : Nat → Int32) (ar : Nat → Nat → Int32) (hR : dR D q H d w ar) (c0 : Nat) (org : Nat → Option Nat) (srt : Nat → Nat) (bt : Nat → List Nat) (tn mp : Nat → Nat) (hv : pV w ar c0 org srt bt) (hN : pN c0 org srt tn mp) (kk : Nat → List Nat) (hk : pK ar kk) (v : Nat) (hvc : v < c0) (k : Nat) (hk64 : k < 64) : gC l y_Model_has (Cond.code y_Model_has b_Model_has 4 (some .boolean) :: gWS) (gR 3 77 0 0) D CL (gY q) (fun _ => True) [.ref d, .int (nI v), .int (nI k)] H (fun v1 H1 => v1 = some (.int (nI (if v_in org srt bt v (kk (64 * mp v + k)) = true then 1 else 0))) ∧ H1 = H) 0 0 (fun _ => False) := by
  refine gC.ofW R_Model "has" (by decide) rfl rfl ?_
  intro p e s m below meth c hadm X hE hH B hne
  refine g_entry [some (.ref d), some (.int (nI v)), some (.int (nI k)), none] rfl rfl (Nat.le_of_ble_eq_true rfl) (fun ls hl => ?_)
  have hmp := (hN v hvc).1
  obtain ⟨hk1, hk2, hk3, hk4⟩ := hk (64 * mp v + k) (by omega)
  refine lv_bipush (v := nI 64) X.1.1 X.1.2.1 d_Model_has_0 (by decide) ?_
  refine lv_aload_n X.1.1 X.1.2.1 d_Model_has_2 rfl (gl_at hl rfl) ?_
  refine lv_iload_n X.1.1 X.1.2.1 d_Model_has_3 rfl (gl_at hl rfl) ?_
  have mo1 : va_at D CL (d, .inr (10, [.int (w 0), .ref (d + 1), .int (w 2), .ref (d + 2), .ref (d + 3), .ref (d + 4), .ref (d + 5), .ref (d + 6), .int (w 8), .ref (d + 7), .ref (d + 8), .ref (d + 9), .ref (d + 10), .ref (d + 11), .ref (d + 12), .ref (d + 13), .ref (d + 14), .ref (d + 15), .ref (d + 16), .ref (d + 17), .int (w 20), .ref (d + 18), .int (w 22), .ref (d + 19), .ref (d + 20), .ref (d + 21), .int (w 26), .int (w 27), .int (w 28), .ref (d + 22), .ref (d + 23), .ref (d + 24), .ref (d + 25), .ref (d + 26), .int (w 34), .ref (d + 27), .ref (d + 28), .int (w 37), .int (w 38)])) H := hR.1
  refine g_cv (A := (fun _ => False)) X gWS_good mw_Model_114 kc_Model mo1 (c_Model_mapOf l D q H d w ar hR c0 org srt bt tn mp hv hN v hvc) (fun _ _ _ => trivial) gBlind.tt rfl rfl hl.1 (Nat.le_of_ble_eq_true rfl) rfl rfl ⟨by decide, by decide⟩ ⟨by decide, by decide⟩ d_Model_has_4 (fun _ h => h.elim) (fun _ h => by cases h) (fun v2 H3 locs hp4 hL => ?_)
  obtain ⟨rfl, hHe⟩ := hp4
  rw [hHe]
  refine lv_imul X.1.1 X.1.2.1 d_Model_has_7 ?_
  refine g_top (nI (64 * (mp v))) (pk_mul _ _) ?_
  refine lv_iload_n X.1.1 X.1.2.1 d_Model_has_8 rfl (gl_at hl rfl) ?_
  refine lv_iadd X.1.1 X.1.2.1 d_Model_has_9 ?_
  refine g_top (nI ((64 * (mp v)) + k)) (nI_add _ _) ?_
  refine g_istn X.1.1 X.1.2.1 hl 3 d_Model_has_10 rfl (Nat.le_of_ble_eq_true rfl) rfl (fun ls hl => ?_)
  refine lv_aload_n X.1.1 X.1.2.1 d_Model_has_11 rfl (gl_at hl rfl) ?_
  refine lv_iload_n X.1.1 X.1.2.1 d_Model_has_12 rfl (gl_at hl rfl) ?_
  refine lv_aload_n X.1.1 X.1.2.1 d_Model_has_13 rfl (gl_at hl rfl) ?_
  refine g_get X kc_Model mo1 5 (by decide) lk_Model_19 rfl d_Model_has_14 ?_
  refine lv_bipush (v := nI 8) X.1.1 X.1.2.1 d_Model_has_17 (by decide) ?_
  refine lv_iload_n X.1.1 X.1.2.1 d_Model_has_19 rfl (gl_at hl rfl) ?_
  refine lv_imul X.1.1 X.1.2.1 d_Model_has_20 ?_
  refine g_top (nI (8 * ((64 * (mp v)) + k))) (pk_mul _ _) ?_
  refine lv_aload_n X.1.1 X.1.2.1 d_Model_has_21 rfl (gl_at hl rfl) ?_
  refine g_get X kc_Model mo1 6 (by decide) lk_Model_22 rfl d_Model_has_22 ?_
  refine lv_iload_n X.1.1 X.1.2.1 d_Model_has_25 rfl (gl_at hl rfl) ?_
  have ma5 : va_at D CL (d + 5, .inl (q 0, 192, .inl (ar 5))) H := hR.a5
  refine g_iald X 0 ma5 rfl ((64 * (mp v)) + k) (by omega) (by omega) d_Model_has_26 ?_
  refine g_top (nI ((kk (64 * mp v + k)).length)) hk2 ?_
  refine g_cv (A := (fun _ => False)) X gWS_good mw_Model_118 kc_Model mo1 (c_Model_within l D q H d w ar hR c0 org srt bt tn mp hv hN v hvc (d + 4) 1536 (ar 4) hR.a4 (8 * (64 * mp v + k)) _ (kk (64 * mp v + k)) rfl hk1 (by omega) (by omega) hk4) (fun _ _ _ => trivial) gBlind.tt rfl rfl hl.1 (Nat.le_of_ble_eq_true rfl) rfl rfl ⟨by decide, by decide⟩ ⟨by decide, by decide⟩ d_Model_has_27 (fun _ h => h.elim) hL (fun v6 H7 locs hp8 hL => ?_)
  obtain ⟨rfl, hHe⟩ := hp8
  rw [hHe]
  exact g_zret X B (gz_if _) ⟨rfl, rfl⟩ hL d_Model_has_30 (by omega) (by omega)

/-- the place of a key among the first n of map m -/
def d_ky (kk : Nat → List Nat) (m n : Nat) (xs : List Nat) : Option Nat → Prop
  | none => ∀ j, j < n → kk (64 * m + j) ≠ xs
  | some r => ∃ j, j < n ∧ r = 64 * m + j ∧ kk r = xs

set_option maxHeartbeats 4000000 in
set_option maxRecDepth 100000 in
/-- keyOf -/
theorem c_Model_keyOf (l : Launch) (D : va_G) (q : Nat → ClassId) (H : Heap) (d : Nat) (w : Nat → Int32) (ar : Nat → Nat → Int32) (hR : dR D q H d w ar) (kk : Nat → List Nat) (hk : pK ar kk) (n chg : Nat → Nat) (hm : pM ar n chg) (mm : Nat) (hmm : mm < 3) (pb lb : Nat) (fb : Nat → Int32) (hb : va_at D CL (pb, .inl (q 0, lb, .inl fb)) H) (ob m1 : Nat) (ys : List Nat) (hm1 : m1 = ys.length) (hyb : tXo fb ob ys) (hyl : ob + ys.length ≤ lb) (hlb : lb < 60000) (hyc : t16 ys) : gC l y_Model_keyOf (Cond.code y_Model_keyOf b_Model_keyOf 6 (some .int) :: gWS) (gR 2 50 0 0) D CL (gY q) (fun _ => True) [.ref d, .int (nI mm), .ref pb, .int (nI ob), .int (nI m1)] H (fun v1 H1 => (∃ o : Option Nat, v1 = some (.int (gm1 o)) ∧ d_ky kk mm (n mm) ys o) ∧ H1 = H) 0 0 (fun _ => False) := by
  refine gC.ofW R_Model "keyOf" (by decide) rfl rfl ?_
  intro p e s m below meth c hadm X hE hH B hne
  refine g_entry [some (.ref d), some (.int (nI mm)), some (.ref pb), some (.int (nI ob)), some (.int (nI m1)), none] rfl rfl (Nat.le_of_ble_eq_true rfl) (fun ls hl => ?_)
  obtain ⟨hm1a, hm2, hm3⟩ := hm mm hmm
  refine lv_iconst (v := nI 0) X.1.1 X.1.2.1 d_Model_keyOf_0 (by decide) ?_
  refine g_ist X.1.1 X.1.2.1 hl 5 d_Model_keyOf_1 (Nat.le_of_ble_eq_true rfl) rfl (fun ls hl => ?_)
  have loop3 : ∀ (fu : Nat) (i : Nat) (locs : List Loc) (ls : Array Slot), n mm - i < fu → (i ≤ n mm) → (∀ j, j < i → kk (64 * mm + j) ≠ ys) → (∀ x ∈ locs, (fun _ => False) x.base) → gl ls [some (.ref d), some (.int (nI mm)), some (.ref pb), some (.int (nI ob)), some (.int (nI m1)), some (.int (nI i))] → W p l e (gR 2 50 0 0) s m ([.ref d, .int (nI mm), .ref pb, .int (nI ob), .int (nI m1)] : List Value).toArray below meth c H locs 0 0 (gQ below ([.ref d, .int (nI mm), .ref pb, .int (nI ob), .int (nI m1)] : List Value).toArray s (fun v1 H1 => (∃ o : Option Nat, v1 = some (.int (gm1 o)) ∧ d_ky kk mm (n mm) ys o) ∧ H1 = H) 0 0 (fun _ => False)) (F0 m 3 ls []) := by
    intro fu
    induction fu with
    | zero => intro i locs ls hmu; omega
    | succ fu ih3 =>
      intro i locs ls hmu3 hi3_0 hi3_1 hL hl
      refine lv_iload X.1.1 X.1.2.1 d_Model_keyOf_3 (gl_at hl rfl) ?_
      refine lv_aload_n X.1.1 X.1.2.1 d_Model_keyOf_5 rfl (gl_at hl rfl) ?_
      have mo1 : va_at D CL (d, .inr (10, [.int (w 0), .ref (d + 1), .int (w 2), .ref (d + 2), .ref (d + 3), .ref (d + 4), .ref (d + 5), .ref (d + 6), .int (w 8), .ref (d + 7), .ref (d + 8), .ref (d + 9), .ref (d + 10), .ref (d + 11), .ref (d + 12), .ref (d + 13), .ref (d + 14), .ref (d + 15), .ref (d + 16), .ref (d + 17), .int (w 20), .ref (d + 18), .int (w 22), .ref (d + 19), .ref (d + 20), .ref (d + 21), .int (w 26), .int (w 27), .int (w 28), .ref (d + 22), .ref (d + 23), .ref (d + 24), .ref (d + 25), .ref (d + 26), .int (w 34), .ref (d + 27), .ref (d + 28), .int (w 37), .int (w 38)])) H := hR.1
      refine g_get X kc_Model mo1 3 (by decide) lk_Model_13 rfl d_Model_keyOf_6 ?_
      refine lv_iload_n X.1.1 X.1.2.1 d_Model_keyOf_9 rfl (gl_at hl rfl) ?_
      have ma2 : va_at D CL (d + 2, .inl (q 0, 3, .inl (ar 2))) H := hR.a2
      refine g_iald X 0 ma2 rfl mm (by omega) (by omega) d_Model_keyOf_10 ?_
      refine g_top (nI (n mm)) hm1a ?_
      refine gn_ge X.1.1 X.1.2.1 i (n mm) (by omega) (by omega) d_Model_keyOf_11 rfl (fun hc11 => ?_) (fun hc11 => ?_)
      · refine lv_iconst (v := (-1)) X.1.1 X.1.2.1 d_Model_keyOf_46 (by decide) ?_
        exact g_iret X B ⟨⟨none, rfl, fun j hj => hi3_1 j (by omega)⟩, rfl⟩ hL d_Model_keyOf_47 (by omega) (by omega)
      · refine lv_aload_n X.1.1 X.1.2.1 d_Model_keyOf_14 rfl (gl_at hl rfl) ?_
        refine lv_bipush (v := nI 64) X.1.1 X.1.2.1 d_Model_keyOf_15 (by decide) ?_
        refine lv_iload_n X.1.1 X.1.2.1 d_Model_keyOf_17 rfl (gl_at hl rfl) ?_
        refine lv_imul X.1.1 X.1.2.1 d_Model_keyOf_18 ?_
        refine g_top (nI (64 * mm)) (pk_mul _ _) ?_
        refine lv_iload X.1.1 X.1.2.1 d_Model_keyOf_19 (gl_at hl rfl) ?_
        refine lv_iadd X.1.1 X.1.2.1 d_Model_keyOf_21 ?_
        refine g_top (nI ((64 * mm) + i)) (nI_add _ _) ?_
        refine lv_aload_n X.1.1 X.1.2.1 d_Model_keyOf_22 rfl (gl_at hl rfl) ?_
        refine lv_iload_n X.1.1 X.1.2.1 d_Model_keyOf_23 rfl (gl_at hl rfl) ?_
        refine lv_iload X.1.1 X.1.2.1 d_Model_keyOf_24 (gl_at hl rfl) ?_
        refine g_cv (A := (fun _ => False)) X gWS_good mw_Model_129 kc_Model mo1 (c_Model_orderOf l D q H d w ar hR kk hk (64 * mm + i) (by omega) pb lb fb hb ob m1 ys hm1 hyb hyl hlb hyc) (fun _ _ _ => trivial) gBlind.tt rfl rfl hl.1 (Nat.le_of_ble_eq_true rfl) rfl rfl ⟨by decide, by decide⟩ ⟨by decide, by decide⟩ d_Model_keyOf_26 (fun _ h => h.elim) hL (fun v3 H4 locs hp5 hL => ?_)
        obtain ⟨⟨r, rfl, hr⟩, hHe⟩ := hp5
        rw [hHe]
        refine lv_if_ne X.1.1 X.1.2.1 d_Model_keyOf_29 rfl (fun hc29 => ?_) (fun hc29 => ?_)
        · refine g_iinc X.1.1 X.1.2.1 (nI (i + 1)) hl 5 d_Model_keyOf_40 rfl (nI_1 _) rfl (fun ls hl => ?_)
          refine lv_goto X.1.1 X.1.2.1 d_Model_keyOf_43 rfl ?_
          exact ih3 (i + 1) locs ls (by omega) (by omega) (lt_s hi3_1 (fun h9 => gi_ne hc29 (by rw [hr, h9, t_ord_refl]))) hL hl
        · refine lv_bipush (v := nI 64) X.1.1 X.1.2.1 d_Model_keyOf_32 (by decide) ?_
          refine lv_iload_n X.1.1 X.1.2.1 d_Model_keyOf_34 rfl (gl_at hl rfl) ?_
          refine lv_imul X.1.1 X.1.2.1 d_Model_keyOf_35 ?_
          refine g_top (nI (64 * mm)) (pk_mul _ _) ?_
          refine lv_iload X.1.1 X.1.2.1 d_Model_keyOf_36 (gl_at hl rfl) ?_
          refine lv_iadd X.1.1 X.1.2.1 d_Model_keyOf_38 ?_
          refine g_top (nI ((64 * mm) + i)) (nI_add _ _) ?_
          exact g_iret X B ⟨⟨some (64 * mm + i), rfl, i, by omega, rfl, t_ord_eq _ _ (by rw [← hr, hc29]; rfl)⟩, rfl⟩ hL d_Model_keyOf_39 (by omega) (by omega)
  exact loop3 _ 0 [] ls (Nat.lt_succ_self _) (Nat.zero_le _) (fun j hj => absurd hj (Nat.not_lt_zero j)) (fun _ h => by cases h) hl

/-- the order as a view has it -/
def d_s (tn : Nat) (xs ys : List Nat) : Int := if tn ≠ 0 then - t_ord xs ys else t_ord xs ys

set_option maxHeartbeats 4000000 in
set_option maxRecDepth 100000 in
/-- side -/
theorem c_Model_side (l : Launch) (D : va_G) (q : Nat → ClassId) (H : Heap) (d : Nat) (w : Nat → Int32) (ar : Nat → Nat → Int32) (hR : dR D q H d w ar) (c0 : Nat) (org : Nat → Option Nat) (srt : Nat → Nat) (bt : Nat → List Nat) (tn mp : Nat → Nat) (hv : pV w ar c0 org srt bt) (hN : pN c0 org srt tn mp) (kk : Nat → List Nat) (hk : pK ar kk) (v : Nat) (hvc : v < c0) (j : Nat) (hj : j < 192) (pb lb : Nat) (fb : Nat → Int32) (hb : va_at D CL (pb, .inl (q 0, lb, .inl fb)) H) (ob m1 : Nat) (ys : List Nat) (hm1 : m1 = ys.length) (hyb : tXo fb ob ys) (hyl : ob + ys.length ≤ lb) (hlb : lb < 60000) (hyc : t16 ys) : gC l y_Model_side (Cond.code y_Model_side b_Model_side 6 (some .int) :: gWS) (gR 2 50 0 0) D CL (gY q) (fun _ => True) [.ref d, .int (nI v), .int (nI j), .ref pb, .int (nI ob), .int (nI m1)] H (fun v1 H1 => (∃ r : Int32, v1 = some (.int r) ∧ r.toInt = d_s (tn v) (kk j) ys) ∧ H1 = H) 0 0 (fun _ => False) := by
  refine gC.ofW R_Model "side" (by decide) rfl rfl ?_
  intro p e s m below meth c hadm X hE hH B hne
  refine g_entry [some (.ref d), some (.int (nI v)), some (.int (nI j)), some (.ref pb), some (.int (nI ob)), some (.int (nI m1))] rfl rfl (Nat.le_of_ble_eq_true rfl) (fun ls hl => ?_)
  have hN1 := (hN v hvc).2.1
  obtain ⟨hk1, hk2, hk3, hk4⟩ := hk j hj
  refine lv_aload_n X.1.1 X.1.2.1 d_Model_side_0 rfl (gl_at hl rfl) ?_
  refine lv_iload_n X.1.1 X.1.2.1 d_Model_side_1 rfl (gl_at hl rfl) ?_
  have mo1 : va_at D CL (d, .inr (10, [.int (w 0), .ref (d + 1), .int (w 2), .ref (d + 2), .ref (d + 3), .ref (d + 4), .ref (d + 5), .ref (d + 6), .int (w 8), .ref (d + 7), .ref (d + 8), .ref (d + 9), .ref (d + 10), .ref (d + 11), .ref (d + 12), .ref (d + 13), .ref (d + 14), .ref (d + 15), .ref (d + 16), .ref (d + 17), .int (w 20), .ref (d + 18), .int (w 22), .ref (d + 19), .ref (d + 20), .ref (d + 21), .int (w 26), .int (w 27), .int (w 28), .ref (d + 22), .ref (d + 23), .ref (d + 24), .ref (d + 25), .ref (d + 26), .int (w 34), .ref (d + 27), .ref (d + 28), .int (w 37), .int (w 38)])) H := hR.1
  refine g_cv (A := (fun _ => False)) X gWS_good mw_Model_147 kc_Model mo1 (c_Model_isTurned l D q H d w ar hR c0 org srt bt tn mp hv hN v hvc) (fun _ _ _ => trivial) gBlind.tt rfl rfl hl.1 (Nat.le_of_ble_eq_true rfl) rfl rfl ⟨by decide, by decide⟩ ⟨by decide, by decide⟩ d_Model_side_2 (fun _ h => h.elim) (fun _ h => by cases h) (fun v2 H3 locs hp4 hL => ?_)
  obtain ⟨rfl, hHe⟩ := hp4
  rw [hHe]
  refine gn_eq0 X.1.1 X.1.2.1 (tn v) (by omega) d_Model_side_5 rfl (fun hc5 => ?_) (fun hc5 => ?_)
  · refine lv_aload_n X.1.1 X.1.2.1 d_Model_side_22 rfl (gl_at hl rfl) ?_
    refine lv_iload_n X.1.1 X.1.2.1 d_Model_side_23 rfl (gl_at hl rfl) ?_
    refine lv_aload_n X.1.1 X.1.2.1 d_Model_side_24 rfl (gl_at hl rfl) ?_
    refine lv_iload X.1.1 X.1.2.1 d_Model_side_25 (gl_at hl rfl) ?_
    refine lv_iload X.1.1 X.1.2.1 d_Model_side_27 (gl_at hl rfl) ?_
    refine g_cv (A := (fun _ => False)) X gWS_good mw_Model_129 kc_Model mo1 (c_Model_orderOf l D q H d w ar hR kk hk j hj pb lb fb hb ob m1 ys hm1 hyb hyl hlb hyc) (fun _ _ _ => trivial) gBlind.tt rfl rfl hl.1 (Nat.le_of_ble_eq_true rfl) rfl rfl ⟨by decide, by decide⟩ ⟨by decide, by decide⟩ d_Model_side_29 (fun _ h => h.elim) hL (fun v5 H6 locs hp7 hL => ?_)
    obtain ⟨⟨r, rfl, hr⟩, hHe⟩ := hp7
    rw [hHe]
    exact g_iret X B ⟨⟨_, rfl, by
      unfold d_s
      rw [if_neg (by omega), hr]⟩, rfl⟩ hL d_Model_side_32 (by omega) (by omega)
  · refine lv_aload_n X.1.1 X.1.2.1 d_Model_side_8 rfl (gl_at hl rfl) ?_
    refine lv_iload_n X.1.1 X.1.2.1 d_Model_side_9 rfl (gl_at hl rfl) ?_
    refine lv_aload_n X.1.1 X.1.2.1 d_Model_side_10 rfl (gl_at hl rfl) ?_
    refine lv_iload X.1.1 X.1.2.1 d_Model_side_11 (gl_at hl rfl) ?_
    refine lv_iload X.1.1 X.1.2.1 d_Model_side_13 (gl_at hl rfl) ?_
    refine g_cv (A := (fun _ => False)) X gWS_good mw_Model_129 kc_Model mo1 (c_Model_orderOf l D q H d w ar hR kk hk j hj pb lb fb hb ob m1 ys hm1 hyb hyl hlb hyc) (fun _ _ _ => trivial) gBlind.tt rfl rfl hl.1 (Nat.le_of_ble_eq_true rfl) rfl rfl ⟨by decide, by decide⟩ ⟨by decide, by decide⟩ d_Model_side_15 (fun _ h => h.elim) hL (fun v8 H9 locs hp10 hL => ?_)
    obtain ⟨⟨r, rfl, hr⟩, hHe⟩ := hp10
    rw [hHe]
    refine lv_ineg X.1.1 X.1.2.1 d_Model_side_18 ?_
    refine lv_goto X.1.1 X.1.2.1 d_Model_side_19 rfl ?_
    exact g_iret X B ⟨⟨_, rfl, by
      unfold d_s
      rw [if_pos hc5, ← hr]
      have := t_ord_small (xs := kk j) (ys := ys) (by omega) (by omega) hk4 hyc
      exact d_neg (by omega) (by omega)⟩, rfl⟩ hL d_Model_side_32 (by omega) (by omega)
