/-! the class Key: printed by wip/specs/key.py -/
set_option maxHeartbeats 4000000 in
set_option maxRecDepth 100000 in
/-- clear(): the empty text -/
theorem c_Key_clear (l : Launch) (D : va_G) (q : Nat → ClassId) (H : Heap) (a : Nat) (xs : List Nat) (hxs : kA D q H a xs) : gC l y_Key_clear (Cond.code y_Key_clear b_Key_clear 1 none :: gWS) (gR 0 0 0 0) D CL (gY q) (fun _ => True) [.ref a] H (fun v H1 => v = none ∧ kA D q H1 a [] ∧ H1.size = H.size ∧ ∀ p : Nat, p ≠ a → H1[p]? = H[p]?) 0 0 (fun p => p = a) := by
  refine gC.ofW R_Key "clear" (by decide) rfl rfl ?_
  intro p e s m below meth c hadm X hE hH B hne
  refine g_entry [some (.ref a)] rfl rfl (Nat.le_of_ble_eq_true rfl) (fun ls hl => ?_)
  obtain ⟨ha, ⟨fa, hla, hfa⟩, hxl, hxc⟩ := hxs
  refine lv_aload_n X.1.1 X.1.2.1 d_Key_clear_0 rfl (gl_at hl rfl) ?_
  refine lv_iconst (v := nI 0) X.1.1 X.1.2.1 d_Key_clear_1 (by decide) ?_
  refine g_put (A := (fun p => p = a)) X kc_Key ha 1 (by decide) lk_Key_15 rfl rfl rfl (Nat.le_of_ble_eq_true rfl) d_Key_clear_2 rfl (fun _ h => by cases h) (fun H1 locs h2 z3 oq4 hL => ?_)
  replace hla := hla.kept (oq4 _ (by omega))
  exact g_vret X B ⟨rfl, ⟨h2, ⟨fa, hla, fun j hj => absurd hj (Nat.not_lt_zero j)⟩, by simp, by simp⟩, z3, oq4⟩ hL d_Key_clear_5 (by omega) (by omega)

set_option maxHeartbeats 4000000 in
set_option maxRecDepth 100000 in
/-- append(x): a text that is not full -/
theorem c_Key_append (l : Launch) (D : va_G) (q : Nat → ClassId) (H : Heap) (a : Nat) (xs : List Nat) (hxs : kA D q H a xs) (x : Nat) (hx : x < 65536) (hlt : xs.length < 8) : gC l y_Key_append (Cond.code y_Key_append b_Key_append 2 none :: gWS) (gR 0 0 0 0) D CL (gY q) (fun _ => True) [.ref a, .int (nI x)] H (fun v H1 => v = none ∧ kA D q H1 a (xs ++ [x]) ∧ H1.size = H.size ∧ ∀ p : Nat, ¬ (p = a ∨ p = a + 1) → H1[p]? = H[p]?) 0 0 (fun p => p = a ∨ p = a + 1) := by
  refine gC.ofW R_Key "append" (by decide) rfl rfl ?_
  intro p e s m below meth c hadm X hE hH B hne
  refine g_entry [some (.ref a), some (.int (nI x))] rfl rfl (Nat.le_of_ble_eq_true rfl) (fun ls hl => ?_)
  obtain ⟨ha, ⟨fa, hla, hfa⟩, hxl, hxc⟩ := hxs
  refine lv_aload_n X.1.1 X.1.2.1 d_Key_append_0 rfl (gl_at hl rfl) ?_
  refine g_get X kc_Key ha 1 (by decide) lk_Key_15 rfl d_Key_append_1 ?_
  refine lv_bipush (v := nI 8) X.1.1 X.1.2.1 d_Key_append_4 (by decide) ?_
  refine gn_ge X.1.1 X.1.2.1 xs.length 8 (by omega) (by omega) d_Key_append_6 rfl (fun hc6 => ?_) (fun hc6 => ?_)
  · omega
  · refine lv_aload_n X.1.1 X.1.2.1 d_Key_append_9 rfl (gl_at hl rfl) ?_
    refine g_get X kc_Key ha 0 (by decide) lk_Key_9 rfl d_Key_append_10 ?_
    refine lv_aload_n X.1.1 X.1.2.1 d_Key_append_13 rfl (gl_at hl rfl) ?_
    refine g_get X kc_Key ha 1 (by decide) lk_Key_15 rfl d_Key_append_14 ?_
    refine lv_iload_n X.1.1 X.1.2.1 d_Key_append_17 rfl (gl_at hl rfl) ?_
    refine g_iast (A := (fun p => p = a ∨ p = a + 1)) X 0 hla rfl xs.length (by omega) (by decide) d_Key_append_18 (Or.inr rfl) (fun _ h => by cases h) (fun H1 locs h2 z3 oq4 hL => ?_)
    replace ha := ha.kept (oq4 _ (by omega))
    refine lv_aload_n X.1.1 X.1.2.1 d_Key_append_19 rfl (gl_at hl rfl) ?_
    refine lv_dup X.1.1 X.1.2.1 d_Key_append_20 rfl ?_
    refine g_get X kc_Key ha 1 (by decide) lk_Key_15 rfl d_Key_append_21 ?_
    refine lv_iconst (v := nI 1) X.1.1 X.1.2.1 d_Key_append_24 (by decide) ?_
    refine lv_iadd X.1.1 X.1.2.1 d_Key_append_25 ?_
    refine g_top (nI (xs.length + 1)) (nI_add _ _) ?_
    refine g_put (A := (fun p => p = a ∨ p = a + 1)) X kc_Key ha 1 (by decide) lk_Key_15 rfl rfl rfl (Nat.le_of_ble_eq_true rfl) d_Key_append_26 (Or.inl rfl) hL (fun H5 locs h6 z7 oq8 hL => ?_)
    replace h2 := h2.kept (oq8 _ (by omega))
    exact g_vret X B ⟨rfl, ⟨by rw [List.length_append]; exact h6, ⟨_, h2, fun j hj => by
          rw [List.length_append, List.length_singleton] at hj
          by_cases h9 : j = xs.length
          · subst h9
            rw [t_get_last, pk_us]
          · rw [t_get_app (by omega), pk_un h9, hfa j (by omega)]⟩, by rw [List.length_append, List.length_singleton]; omega, fun z hz => by
          rcases List.mem_append.mp hz with h9 | h9
          · exact hxc z h9
          · rw [List.mem_singleton.mp h9]
            exact hx⟩, z7.trans z3, fun p hp => (oq8 p (fun h9 => hp (Or.inl h9))).trans (oq4 p (fun h9 => hp (Or.inr h9)))⟩ hL d_Key_append_29 (by omega) (by omega)

set_option maxHeartbeats 4000000 in
set_option maxRecDepth 100000 in
/-- become(b): the text of b -/
theorem c_Key_become (l : Launch) (D : va_G) (q : Nat → ClassId) (H : Heap) (a b : Nat) (xs ys : List Nat) (hxs : kA D q H a xs) (hys : kA D q H b ys) (hab : a + 1 < b ∨ b + 1 < a) : gC l y_Key_become (Cond.code y_Key_become b_Key_become 2 none :: gWS) (gR 1 18 0 0) D CL (gY q) (fun _ => True) [.ref a, .ref b] H (fun v H1 => v = none ∧ kA D q H1 a ys ∧ H1.size = H.size ∧ ∀ p : Nat, ¬ (p = a ∨ p = a + 1) → H1[p]? = H[p]?) 0 0 (fun p => p = a ∨ p = a + 1) := by
  refine gC.ofW R_Key "become" (by decide) rfl rfl ?_
  intro p e s m below meth c hadm X hE hH B hne
  refine g_entry [some (.ref a), some (.ref b)] rfl rfl (Nat.le_of_ble_eq_true rfl) (fun ls hl => ?_)
  obtain ⟨ha, ⟨fa, hla, hfa⟩, hxl, hxc⟩ := hxs
  obtain ⟨hb, ⟨fb, hlb, hfb⟩, hyl, hyc⟩ := hys
  refine lv_aload_n X.1.1 X.1.2.1 d_Key_become_0 rfl (gl_at hl rfl) ?_
  refine g_get X kc_Key hb 0 (by decide) lk_Key_9 rfl d_Key_become_1 ?_
  refine lv_iconst (v := nI 0) X.1.1 X.1.2.1 d_Key_become_4 (by decide) ?_
  refine lv_aload_n X.1.1 X.1.2.1 d_Key_become_5 rfl (gl_at hl rfl) ?_
  refine g_get X kc_Key ha 0 (by decide) lk_Key_9 rfl d_Key_become_6 ?_
  refine lv_iconst (v := nI 0) X.1.1 X.1.2.1 d_Key_become_9 (by decide) ?_
  refine lv_aload_n X.1.1 X.1.2.1 d_Key_become_10 rfl (gl_at hl rfl) ?_
  refine g_get X kc_Key hb 1 (by decide) lk_Key_15 rfl d_Key_become_11 ?_
  refine g_copyi (A := (fun p => p = a ∨ p = a + 1)) X hl.1 mq_Key_19.1 mq_Key_19.2.1 mq_Key_19.2.2.1 mq_Key_19.2.2.2 0 hlb hla rfl 0 0 ys.length (by omega) (by omega) (by decide) (by decide) (by decide) (by decide) d_Key_become_14 (Or.inr rfl) (fun _ h => by cases h) (fun H1 locs h2 z3 oq4 hL => ?_)
  replace ha := ha.kept (oq4 _ (by omega))
  replace hb := hb.kept (oq4 _ (by omega))
  replace hlb := hlb.kept (oq4 _ (by omega))
  refine lv_aload_n X.1.1 X.1.2.1 d_Key_become_17 rfl (gl_at hl rfl) ?_
  refine lv_aload_n X.1.1 X.1.2.1 d_Key_become_18 rfl (gl_at hl rfl) ?_
  refine g_get X kc_Key hb 1 (by decide) lk_Key_15 rfl d_Key_become_19 ?_
  refine g_put (A := (fun p => p = a ∨ p = a + 1)) X kc_Key ha 1 (by decide) lk_Key_15 rfl rfl rfl (Nat.le_of_ble_eq_true rfl) d_Key_become_22 (Or.inl rfl) hL (fun H5 locs h6 z7 oq8 hL => ?_)
  replace h2 := h2.kept (oq8 _ (by omega))
  replace hb := hb.kept (oq8 _ (by omega))
  replace hlb := hlb.kept (oq8 _ (by omega))
  exact g_vret X B ⟨rfl, ⟨h6, ⟨_, h2, fun j hj => by rw [pk_cpy_in (Nat.zero_le _) (by omega), Nat.zero_add, Nat.sub_zero]; exact hfb j hj⟩, hyl, hyc⟩, z7.trans z3, fun p hp => (oq8 p (fun h9 => hp (Or.inl h9))).trans (oq4 p (fun h9 => hp (Or.inr h9)))⟩ hL d_Key_become_25 (by omega) (by omega)

set_option maxHeartbeats 4000000 in
set_option maxRecDepth 100000 in
/-- shared(b): how many characters both have in common -/
theorem c_Key_shared (l : Launch) (D : va_G) (q : Nat → ClassId) (H : Heap) (a b : Nat) (xs ys : List Nat) (hxs : kA D q H a xs) (hys : kA D q H b ys) : gC l y_Key_shared (Cond.code y_Key_shared b_Key_shared 3 (some .int) :: gWS) (gR 0 0 0 0) D CL (gY q) (fun _ => True) [.ref a, .ref b] H (fun v H1 => v = some (.int (nI (t_lcp xs ys))) ∧ H1 = H) 0 0 (fun _ => False) := by
  refine gC.ofW R_Key "shared" (by decide) rfl rfl ?_
  intro p e s m below meth c hadm X hE hH B hne
  refine g_entry [some (.ref a), some (.ref b), none] rfl rfl (Nat.le_of_ble_eq_true rfl) (fun ls hl => ?_)
  obtain ⟨ha, ⟨fa, hla, hfa⟩, hxl, hxc⟩ := hxs
  obtain ⟨hb, ⟨fb, hlb, hfb⟩, hyl, hyc⟩ := hys
  refine lv_iconst (v := nI 0) X.1.1 X.1.2.1 d_Key_shared_0 (by decide) ?_
  refine g_istn X.1.1 X.1.2.1 hl 2 d_Key_shared_1 rfl (Nat.le_of_ble_eq_true rfl) rfl (fun ls hl => ?_)
  have loop2 : ∀ (n : Nat) (i : Nat) (ls : Array Slot), xs.length - i < n → (i ≤ xs.length) → (i ≤ ys.length) → (∀ j, j < i → xs.getD j 0 = ys.getD j 0) →  gl ls [some (.ref a), some (.ref b), some (.int (nI i))] → W p l e (gR 0 0 0 0) s m ([.ref a, .ref b] : List Value).toArray below meth c H [] 0 0 (gQ below ([.ref a, .ref b] : List Value).toArray s (fun v H1 => v = some (.int (nI (t_lcp xs ys))) ∧ H1 = H) 0 0 (fun _ => False)) (F0 m 2 ls []) := by
    intro n
    induction n with
    | zero => intro i ls hmu; omega
    | succ n ih2 =>
      intro i ls hmu2 hi2_0 hi2_1 hi2_2 hl
      refine lv_iload_n X.1.1 X.1.2.1 d_Key_shared_2 rfl (gl_at hl rfl) ?_
      refine lv_aload_n X.1.1 X.1.2.1 d_Key_shared_3 rfl (gl_at hl rfl) ?_
      refine g_get X kc_Key ha 1 (by decide) lk_Key_15 rfl d_Key_shared_4 ?_
      refine gn_ge X.1.1 X.1.2.1 i xs.length (by omega) (by omega) d_Key_shared_7 rfl (fun hc7 => ?_) (fun hc7 => ?_)
      · refine lv_iload_n X.1.1 X.1.2.1 d_Key_shared_39 rfl (gl_at hl rfl) ?_
        exact g_iret X B ⟨by rw [t_lcp_eq xs ys i (by omega) (by omega) hi2_2 (by first | exact Or.inl (by omega) | exact Or.inr (Or.inl (by omega)) | exact Or.inr (Or.inr (by assumption)))], rfl⟩ (fun _ h => by cases h) d_Key_shared_40 (by omega) (by omega)
      · refine lv_iload_n X.1.1 X.1.2.1 d_Key_shared_10 rfl (gl_at hl rfl) ?_
        refine lv_aload_n X.1.1 X.1.2.1 d_Key_shared_11 rfl (gl_at hl rfl) ?_
        refine g_get X kc_Key hb 1 (by decide) lk_Key_15 rfl d_Key_shared_12 ?_
        refine gn_ge X.1.1 X.1.2.1 i ys.length (by omega) (by omega) d_Key_shared_15 rfl (fun hc15 => ?_) (fun hc15 => ?_)
        · refine lv_iload_n X.1.1 X.1.2.1 d_Key_shared_39 rfl (gl_at hl rfl) ?_
          exact g_iret X B ⟨by rw [t_lcp_eq xs ys i (by omega) (by omega) hi2_2 (by first | exact Or.inl (by omega) | exact Or.inr (Or.inl (by omega)) | exact Or.inr (Or.inr (by assumption)))], rfl⟩ (fun _ h => by cases h) d_Key_shared_40 (by omega) (by omega)
        · refine lv_aload_n X.1.1 X.1.2.1 d_Key_shared_18 rfl (gl_at hl rfl) ?_
          refine g_get X kc_Key ha 0 (by decide) lk_Key_9 rfl d_Key_shared_19 ?_
          refine lv_iload_n X.1.1 X.1.2.1 d_Key_shared_22 rfl (gl_at hl rfl) ?_
          refine g_iald X 0 hla rfl i (by omega) (by decide) d_Key_shared_23 ?_
          have e1 := t_lt hxc i
          refine g_top (nI (xs.getD i 0)) (hfa i (by omega)) ?_
          refine lv_aload_n X.1.1 X.1.2.1 d_Key_shared_24 rfl (gl_at hl rfl) ?_
          refine g_get X kc_Key hb 0 (by decide) lk_Key_9 rfl d_Key_shared_25 ?_
          refine lv_iload_n X.1.1 X.1.2.1 d_Key_shared_28 rfl (gl_at hl rfl) ?_
          refine g_iald X 0 hlb rfl i (by omega) (by decide) d_Key_shared_29 ?_
          have e2 := t_lt hyc i
          refine g_top (nI (ys.getD i 0)) (hfb i (by omega)) ?_
          refine gn_ne X.1.1 X.1.2.1 (xs.getD i 0) (ys.getD i 0) (by omega) (by omega) d_Key_shared_30 rfl (fun hc30 => ?_) (fun hc30 => ?_)
          · refine lv_iload_n X.1.1 X.1.2.1 d_Key_shared_39 rfl (gl_at hl rfl) ?_
            exact g_iret X B ⟨by rw [t_lcp_eq xs ys i (by omega) (by omega) hi2_2 (by first | exact Or.inl (by omega) | exact Or.inr (Or.inl (by omega)) | exact Or.inr (Or.inr (by assumption)))], rfl⟩ (fun _ h => by cases h) d_Key_shared_40 (by omega) (by omega)
          · refine g_iinc X.1.1 X.1.2.1 (nI (i + 1)) hl 2 d_Key_shared_33 rfl (nI_1 _) rfl (fun ls hl => ?_)
            refine lv_goto X.1.1 X.1.2.1 d_Key_shared_36 rfl ?_
            exact ih2 (i + 1) ls (by omega) hc7 hc15 (lt_s hi2_2 hc30) hl
  exact loop2 _ 0 ls (Nat.lt_succ_self _) (Nat.zero_le _) (Nat.zero_le _) (fun j hj => absurd hj (Nat.not_lt_zero j)) hl

set_option maxHeartbeats 4000000 in
set_option maxRecDepth 100000 in
/-- order(b) -/
theorem c_Key_order (l : Launch) (D : va_G) (q : Nat → ClassId) (H : Heap) (a b : Nat) (xs ys : List Nat) (hxs : kA D q H a xs) (hys : kA D q H b ys) : gC l y_Key_order (Cond.code y_Key_order b_Key_order 3 (some .int) :: gWS) (gR 1 22 0 0) D CL (gY q) (fun _ => True) [.ref a, .ref b] H (fun v H1 => ∃ r : Int32, v = some (.int r) ∧ r.toInt = t_ord xs ys ∧ H1 = H) 0 0 (fun _ => False) := by
  refine gC.ofW R_Key "order" (by decide) rfl rfl ?_
  intro p e s m below meth c hadm X hE hH B hne
  refine g_entry [some (.ref a), some (.ref b), none] rfl rfl (Nat.le_of_ble_eq_true rfl) (fun ls hl => ?_)
  have hxs0 := hxs
  have hys0 := hys
  obtain ⟨ha, ⟨fa, hla, hfa⟩, hxl, hxc⟩ := hxs
  obtain ⟨hb, ⟨fb, hlb, hfb⟩, hyl, hyc⟩ := hys
  have hxs := hxs0
  have hys := hys0
  have i1 := t_lcp_le1 xs ys
  have i2 := t_lcp_le2 xs ys
  refine lv_aload_n X.1.1 X.1.2.1 d_Key_order_0 rfl (gl_at hl rfl) ?_
  refine lv_aload_n X.1.1 X.1.2.1 d_Key_order_1 rfl (gl_at hl rfl) ?_
  refine g_cv (A := (fun _ => False)) X gWS_good mw_Key_25 kc_Key ha (c_Key_shared l D q H a b xs ys hxs hys) (fun _ _ _ => trivial) gBlind.tt rfl rfl hl.1 (by decide) rfl rfl ⟨by decide, by decide⟩ ⟨by decide, by decide⟩ d_Key_order_2 (fun _ h => h.elim) (fun _ h => by cases h) (fun v1 H2 locs hp3 hL => ?_)
  obtain ⟨rfl, rfl⟩ := hp3
  refine g_istn X.1.1 X.1.2.1 hl 2 d_Key_order_5 rfl (Nat.le_of_ble_eq_true rfl) rfl (fun ls hl => ?_)
  refine lv_iload_n X.1.1 X.1.2.1 d_Key_order_6 rfl (gl_at hl rfl) ?_
  refine lv_aload_n X.1.1 X.1.2.1 d_Key_order_7 rfl (gl_at hl rfl) ?_
  refine g_get X kc_Key ha 1 (by decide) lk_Key_15 rfl d_Key_order_8 ?_
  refine gn_eq X.1.1 X.1.2.1 (t_lcp xs ys) xs.length (by omega) (by omega) d_Key_order_11 rfl (fun hc11 => ?_) (fun hc11 => ?_)
  · refine lv_aload_n X.1.1 X.1.2.1 d_Key_order_22 rfl (gl_at hl rfl) ?_
    refine g_get X kc_Key ha 1 (by decide) lk_Key_15 rfl d_Key_order_23 ?_
    refine lv_aload_n X.1.1 X.1.2.1 d_Key_order_26 rfl (gl_at hl rfl) ?_
    refine g_get X kc_Key hb 1 (by decide) lk_Key_15 rfl d_Key_order_27 ?_
    refine lv_isub X.1.1 X.1.2.1 d_Key_order_30 ?_
    exact g_iret X B ⟨_, rfl, by rw [pk_sub_toInt (by omega) (by omega), t_ord_end xs ys (by omega)], rfl⟩ hL d_Key_order_31 (by omega) (by omega)
  · refine lv_iload_n X.1.1 X.1.2.1 d_Key_order_14 rfl (gl_at hl rfl) ?_
    refine lv_aload_n X.1.1 X.1.2.1 d_Key_order_15 rfl (gl_at hl rfl) ?_
    refine g_get X kc_Key hb 1 (by decide) lk_Key_15 rfl d_Key_order_16 ?_
    refine gn_ne X.1.1 X.1.2.1 (t_lcp xs ys) ys.length (by omega) (by omega) d_Key_order_19 rfl (fun hc19 => ?_) (fun hc19 => ?_)
    · refine lv_aload_n X.1.1 X.1.2.1 d_Key_order_32 rfl (gl_at hl rfl) ?_
      refine g_get X kc_Key ha 0 (by decide) lk_Key_9 rfl d_Key_order_33 ?_
      refine lv_iload_n X.1.1 X.1.2.1 d_Key_order_36 rfl (gl_at hl rfl) ?_
      refine g_iald X 0 hla rfl (t_lcp xs ys) (by omega) (by decide) d_Key_order_37 ?_
      have e1 := t_lt hxc (t_lcp xs ys)
      refine g_top (nI (xs.getD (t_lcp xs ys) 0)) (hfa _ (by omega)) ?_
      refine lv_aload_n X.1.1 X.1.2.1 d_Key_order_38 rfl (gl_at hl rfl) ?_
      refine g_get X kc_Key hb 0 (by decide) lk_Key_9 rfl d_Key_order_39 ?_
      refine lv_iload_n X.1.1 X.1.2.1 d_Key_order_42 rfl (gl_at hl rfl) ?_
      refine g_iald X 0 hlb rfl (t_lcp xs ys) (by omega) (by decide) d_Key_order_43 ?_
      have e2 := t_lt hyc (t_lcp xs ys)
      refine g_top (nI (ys.getD (t_lcp xs ys) 0)) (hfb _ (by omega)) ?_
      refine lv_isub X.1.1 X.1.2.1 d_Key_order_44 ?_
      exact g_iret X B ⟨_, rfl, by rw [pk_sub_toInt (by omega) (by omega), t_ord_mid xs ys (by omega) (by omega)], rfl⟩ hL d_Key_order_45 (by omega) (by omega)
    · refine lv_aload_n X.1.1 X.1.2.1 d_Key_order_22 rfl (gl_at hl rfl) ?_
      refine g_get X kc_Key ha 1 (by decide) lk_Key_15 rfl d_Key_order_23 ?_
      refine lv_aload_n X.1.1 X.1.2.1 d_Key_order_26 rfl (gl_at hl rfl) ?_
      refine g_get X kc_Key hb 1 (by decide) lk_Key_15 rfl d_Key_order_27 ?_
      refine lv_isub X.1.1 X.1.2.1 d_Key_order_30 ?_
      exact g_iret X B ⟨_, rfl, by rw [pk_sub_toInt (by omega) (by omega), t_ord_end xs ys (by omega)], rfl⟩ hL d_Key_order_31 (by omega) (by omega)

set_option maxHeartbeats 4000000 in
set_option maxRecDepth 100000 in
/-- beginsWith(b) -/
theorem c_Key_beginsWith (l : Launch) (D : va_G) (q : Nat → ClassId) (H : Heap) (a b : Nat) (xs ys : List Nat) (hxs : kA D q H a xs) (hys : kA D q H b ys) : gC l y_Key_beginsWith (Cond.code y_Key_beginsWith b_Key_beginsWith 2 (some .boolean) :: gWS) (gR 1 22 0 0) D CL (gY q) (fun _ => True) [.ref a, .ref b] H (fun v H1 => v = some (.int (nI (if t_lcp xs ys = ys.length then 1 else 0))) ∧ H1 = H) 0 0 (fun _ => False) := by
  refine gC.ofW R_Key "beginsWith" (by decide) rfl rfl ?_
  intro p e s m below meth c hadm X hE hH B hne
  refine g_entry [some (.ref a), some (.ref b)] rfl rfl (Nat.le_of_ble_eq_true rfl) (fun ls hl => ?_)
  have hxs0 := hxs
  have hys0 := hys
  obtain ⟨ha, ⟨fa, hla, hfa⟩, hxl, hxc⟩ := hxs
  obtain ⟨hb, ⟨fb, hlb, hfb⟩, hyl, hyc⟩ := hys
  have hxs := hxs0
  have hys := hys0
  have i1 := t_lcp_le1 xs ys
  have i2 := t_lcp_le2 xs ys
  refine lv_aload_n X.1.1 X.1.2.1 d_Key_beginsWith_0 rfl (gl_at hl rfl) ?_
  refine lv_aload_n X.1.1 X.1.2.1 d_Key_beginsWith_1 rfl (gl_at hl rfl) ?_
  refine g_cv (A := (fun _ => False)) X gWS_good mw_Key_25 kc_Key ha (c_Key_shared l D q H a b xs ys hxs hys) (fun _ _ _ => trivial) gBlind.tt rfl rfl hl.1 (by decide) rfl rfl ⟨by decide, by decide⟩ ⟨by decide, by decide⟩ d_Key_beginsWith_2 (fun _ h => h.elim) (fun _ h => by cases h) (fun v1 H2 locs hp3 hL => ?_)
  obtain ⟨rfl, rfl⟩ := hp3
  refine lv_aload_n X.1.1 X.1.2.1 d_Key_beginsWith_5 rfl (gl_at hl rfl) ?_
  refine g_get X kc_Key hb 1 (by decide) lk_Key_15 rfl d_Key_beginsWith_6 ?_
  refine gn_ne X.1.1 X.1.2.1 (t_lcp xs ys) ys.length (by omega) (by omega) d_Key_beginsWith_9 rfl (fun hc9 => ?_) (fun hc9 => ?_)
  · refine lv_iconst (v := nI 0) X.1.1 X.1.2.1 d_Key_beginsWith_16 (by decide) ?_
    exact g_zret X B (by decide) ⟨by rw [if_neg (by assumption)], rfl⟩ hL d_Key_beginsWith_17 (by omega) (by omega)
  · refine lv_iconst (v := nI 1) X.1.1 X.1.2.1 d_Key_beginsWith_12 (by decide) ?_
    refine lv_goto X.1.1 X.1.2.1 d_Key_beginsWith_13 rfl ?_
    exact g_zret X B (by decide) ⟨by rw [if_pos (by assumption)], rfl⟩ hL d_Key_beginsWith_17 (by omega) (by omega)

set_option maxHeartbeats 4000000 in
set_option maxRecDepth 100000 in
/-- hasTail -/
theorem c_Key_hasTail (l : Launch) (D : va_G) (q : Nat → ClassId) (H : Heap) (a b : Nat) (xs ys : List Nat) (hxs : kA D q H a xs) (hys : kA D q H b ys) (i0 j0 : Nat) (hi0 : i0 ≤ xs.length) (hj0 : j0 ≤ ys.length) : gC l y_Key_hasTail (Cond.code y_Key_hasTail b_Key_hasTail 5 (some .boolean) :: gWS) (gR 0 0 0 0) D CL (gY q) (fun _ => True) [.ref a, .int (nI i0), .ref b, .int (nI j0)] H (fun v H1 => v = some (.int (nI (if xs.drop i0 = ys.drop j0 then 1 else 0))) ∧ H1 = H) 0 0 (fun _ => False) := by
  refine gC.ofW R_Key "hasTail" (by decide) rfl rfl ?_
  intro p e s m below meth c hadm X hE hH B hne
  refine g_entry [some (.ref a), some (.int (nI i0)), some (.ref b), some (.int (nI j0)), none] rfl rfl (Nat.le_of_ble_eq_true rfl) (fun ls hl => ?_)
  obtain ⟨ha, ⟨fa, hla, hfa⟩, hxl, hxc⟩ := hxs
  obtain ⟨hb, ⟨fb, hlb, hfb⟩, hyl, hyc⟩ := hys
  refine lv_aload_n X.1.1 X.1.2.1 d_Key_hasTail_0 rfl (gl_at hl rfl) ?_
  refine g_get X kc_Key ha 1 (by decide) lk_Key_15 rfl d_Key_hasTail_1 ?_
  refine lv_iload_n X.1.1 X.1.2.1 d_Key_hasTail_4 rfl (gl_at hl rfl) ?_
  refine lv_isub X.1.1 X.1.2.1 d_Key_hasTail_5 ?_
  refine g_top (nI (xs.length - i0)) (pk_sub (by omega)) ?_
  refine lv_aload_n X.1.1 X.1.2.1 d_Key_hasTail_6 rfl (gl_at hl rfl) ?_
  refine g_get X kc_Key hb 1 (by decide) lk_Key_15 rfl d_Key_hasTail_7 ?_
  refine lv_iload_n X.1.1 X.1.2.1 d_Key_hasTail_10 rfl (gl_at hl rfl) ?_
  refine lv_isub X.1.1 X.1.2.1 d_Key_hasTail_11 ?_
  refine g_top (nI (ys.length - j0)) (pk_sub (by omega)) ?_
  refine gn_eq X.1.1 X.1.2.1 (xs.length - i0) (ys.length - j0) (by omega) (by omega) d_Key_hasTail_12 rfl (fun hc12 => ?_) (fun hc12 => ?_)
  · refine lv_iload_n X.1.1 X.1.2.1 d_Key_hasTail_17 rfl (gl_at hl rfl) ?_
    refine g_ist X.1.1 X.1.2.1 hl 4 d_Key_hasTail_18 (Nat.le_of_ble_eq_true rfl) rfl (fun ls hl => ?_)
    have loop20 : ∀ (n : Nat) (i : Nat) (ls : Array Slot), xs.length - i < n → (i0 ≤ i) → (i ≤ xs.length) → (∀ k, i0 ≤ k → k < i → xs.getD k 0 = ys.getD (k - i0 + j0) 0) →  gl ls [some (.ref a), some (.int (nI i0)), some (.ref b), some (.int (nI j0)), some (.int (nI i))] → W p l e (gR 0 0 0 0) s m ([.ref a, .int (nI i0), .ref b, .int (nI j0)] : List Value).toArray below meth c H [] 0 0 (gQ below ([.ref a, .int (nI i0), .ref b, .int (nI j0)] : List Value).toArray s (fun v H1 => v = some (.int (nI (if xs.drop i0 = ys.drop j0 then 1 else 0))) ∧ H1 = H) 0 0 (fun _ => False)) (F0 m 20 ls []) := by
      intro n
      induction n with
      | zero => intro i ls hmu; omega
      | succ n ih20 =>
        intro i ls hmu20 hi20_0 hi20_1 hi20_2 hl
        refine lv_iload X.1.1 X.1.2.1 d_Key_hasTail_20 (gl_at hl rfl) ?_
        refine lv_aload_n X.1.1 X.1.2.1 d_Key_hasTail_22 rfl (gl_at hl rfl) ?_
        refine g_get X kc_Key ha 1 (by decide) lk_Key_15 rfl d_Key_hasTail_23 ?_
        refine gn_ge X.1.1 X.1.2.1 i xs.length (by omega) (by omega) d_Key_hasTail_26 rfl (fun hc26 => ?_) (fun hc26 => ?_)
        · refine lv_iconst (v := nI 1) X.1.1 X.1.2.1 d_Key_hasTail_58 (by decide) ?_
          exact g_zret X B (by decide) ⟨by rw [if_pos (t_drop_eq hi0 hj0 hc12 (fun k h1 h2 => hi20_2 k h1 (by omega)))], rfl⟩ (fun _ h => by cases h) d_Key_hasTail_59 (by omega) (by omega)
        · refine lv_aload_n X.1.1 X.1.2.1 d_Key_hasTail_29 rfl (gl_at hl rfl) ?_
          refine g_get X kc_Key ha 0 (by decide) lk_Key_9 rfl d_Key_hasTail_30 ?_
          refine lv_iload X.1.1 X.1.2.1 d_Key_hasTail_33 (gl_at hl rfl) ?_
          refine g_iald X 0 hla rfl i (by omega) (by decide) d_Key_hasTail_35 ?_
          have e1 := t_lt hxc i
          refine g_top (nI (xs.getD i 0)) (hfa i (by omega)) ?_
          refine lv_aload_n X.1.1 X.1.2.1 d_Key_hasTail_36 rfl (gl_at hl rfl) ?_
          refine g_get X kc_Key hb 0 (by decide) lk_Key_9 rfl d_Key_hasTail_37 ?_
          refine lv_iload X.1.1 X.1.2.1 d_Key_hasTail_40 (gl_at hl rfl) ?_
          refine lv_iload_n X.1.1 X.1.2.1 d_Key_hasTail_42 rfl (gl_at hl rfl) ?_
          refine lv_isub X.1.1 X.1.2.1 d_Key_hasTail_43 ?_
          refine g_top (nI (i - i0)) (pk_sub (by omega)) ?_
          refine lv_iload_n X.1.1 X.1.2.1 d_Key_hasTail_44 rfl (gl_at hl rfl) ?_
          refine lv_iadd X.1.1 X.1.2.1 d_Key_hasTail_45 ?_
          refine g_top (nI ((i - i0) + j0)) (nI_add _ _) ?_
          refine g_iald X 0 hlb rfl ((i - i0) + j0) (by omega) (by decide) d_Key_hasTail_46 ?_
          have e2 := t_lt hyc (i - i0 + j0)
          refine g_top (nI (ys.getD (i - i0 + j0) 0)) (hfb _ (by omega)) ?_
          refine gn_eq X.1.1 X.1.2.1 (xs.getD i 0) (ys.getD (i - i0 + j0) 0) (by omega) (by omega) d_Key_hasTail_47 rfl (fun hc47 => ?_) (fun hc47 => ?_)
          · refine g_iinc X.1.1 X.1.2.1 (nI (i + 1)) hl 4 d_Key_hasTail_52 rfl (nI_1 _) rfl (fun ls hl => ?_)
            refine lv_goto X.1.1 X.1.2.1 d_Key_hasTail_55 rfl ?_
            exact ih20 (i + 1) ls (by omega) (by omega) (by omega) (fun k h1 h2 => by
              by_cases h9 : k = i
              · subst h9
                exact hc47
              · exact hi20_2 k h1 (by omega)) hl
          · refine lv_iconst (v := nI 0) X.1.1 X.1.2.1 d_Key_hasTail_50 (by decide) ?_
            exact g_zret X B (by decide) ⟨by rw [if_neg (t_drop_ne hi20_0 hc47)], rfl⟩ (fun _ h => by cases h) d_Key_hasTail_51 (by omega) (by omega)
    exact loop20 _ i0 ls (Nat.lt_succ_self _) (Nat.le_refl _) hi0 (fun k h1 h2 => by omega) hl
  · refine lv_iconst (v := nI 0) X.1.1 X.1.2.1 d_Key_hasTail_15 (by decide) ?_
    exact g_zret X B (by decide) ⟨by rw [if_neg (t_drop_len hc12)], rfl⟩ (fun _ h => by cases h) d_Key_hasTail_16 (by omega) (by omega)

set_option maxHeartbeats 4000000 in
set_option maxRecDepth 100000 in
/-- matches -/
theorem c_Key_matches (l : Launch) (D : va_G) (q : Nat → ClassId) (H : Heap) (a b : Nat) (xs ys : List Nat) (hxs : kA D q H a xs) (hys : kA D q H b ys) (d : Nat) (hd : d < 2 ^ 31) : gC l y_Key_matches (Cond.code y_Key_matches b_Key_matches 5 (some .boolean) :: gWS) (gR 0 0 0 0) D CL (gY q) (fun _ => True) [.ref a, .ref b, .int (nI d)] H (fun v H1 => v = some (.int (nI (if ys.length = xs.length ∧ t_diff xs ys xs.length ≤ d then 1 else 0))) ∧ H1 = H) 0 0 (fun _ => False) := by
  refine gC.ofW R_Key "matches" (by decide) rfl rfl ?_
  intro p e s m below meth c hadm X hE hH B hne
  refine g_entry [some (.ref a), some (.ref b), some (.int (nI d)), none, none] rfl rfl (Nat.le_of_ble_eq_true rfl) (fun ls hl => ?_)
  obtain ⟨ha, ⟨fa, hla, hfa⟩, hxl, hxc⟩ := hxs
  obtain ⟨hb, ⟨fb, hlb, hfb⟩, hyl, hyc⟩ := hys
  refine lv_aload_n X.1.1 X.1.2.1 d_Key_matches_0 rfl (gl_at hl rfl) ?_
  refine g_get X kc_Key hb 1 (by decide) lk_Key_15 rfl d_Key_matches_1 ?_
  refine lv_aload_n X.1.1 X.1.2.1 d_Key_matches_4 rfl (gl_at hl rfl) ?_
  refine g_get X kc_Key ha 1 (by decide) lk_Key_15 rfl d_Key_matches_5 ?_
  refine gn_eq X.1.1 X.1.2.1 ys.length xs.length (by omega) (by omega) d_Key_matches_8 rfl (fun hc8 => ?_) (fun hc8 => ?_)
  · refine lv_iconst (v := nI 0) X.1.1 X.1.2.1 d_Key_matches_13 (by decide) ?_
    refine g_istn X.1.1 X.1.2.1 hl 3 d_Key_matches_14 rfl (Nat.le_of_ble_eq_true rfl) rfl (fun ls hl => ?_)
    refine lv_iconst (v := nI 0) X.1.1 X.1.2.1 d_Key_matches_15 (by decide) ?_
    refine g_ist X.1.1 X.1.2.1 hl 4 d_Key_matches_16 (Nat.le_of_ble_eq_true rfl) rfl (fun ls hl => ?_)
    have loop18 : ∀ (n : Nat) (i : Nat) (k : Nat) (ls : Array Slot), xs.length - i < n → (i ≤ xs.length) → (k = t_diff xs ys i) →  gl ls [some (.ref a), some (.ref b), some (.int (nI d)), some (.int (nI k)), some (.int (nI i))] → W p l e (gR 0 0 0 0) s m ([.ref a, .ref b, .int (nI d)] : List Value).toArray below meth c H [] 0 0 (gQ below ([.ref a, .ref b, .int (nI d)] : List Value).toArray s (fun v H1 => v = some (.int (nI (if ys.length = xs.length ∧ t_diff xs ys xs.length ≤ d then 1 else 0))) ∧ H1 = H) 0 0 (fun _ => False)) (F0 m 18 ls []) := by
      intro n
      induction n with
      | zero => intro i k ls hmu; omega
      | succ n ih18 =>
        intro i k ls hmu18 hi18_0 hi18_1 hl
        have hk9 := t_diff_le xs ys i
        refine lv_iload X.1.1 X.1.2.1 d_Key_matches_18 (gl_at hl rfl) ?_
        refine lv_aload_n X.1.1 X.1.2.1 d_Key_matches_20 rfl (gl_at hl rfl) ?_
        refine g_get X kc_Key ha 1 (by decide) lk_Key_15 rfl d_Key_matches_21 ?_
        refine gn_ge X.1.1 X.1.2.1 i xs.length (by omega) (by omega) d_Key_matches_24 rfl (fun hc24 => ?_) (fun hc24 => ?_)
        · have e9 : i = xs.length := by omega
          subst e9
          refine lv_iload_n X.1.1 X.1.2.1 d_Key_matches_65 rfl (gl_at hl rfl) ?_
          refine lv_iload_n X.1.1 X.1.2.1 d_Key_matches_66 rfl (gl_at hl rfl) ?_
          refine gn_gt X.1.1 X.1.2.1 k d (by omega) (by omega) d_Key_matches_67 rfl (fun hc67 => ?_) (fun hc67 => ?_)
          · refine lv_iconst (v := nI 0) X.1.1 X.1.2.1 d_Key_matches_74 (by decide) ?_
            exact g_zret X B (by decide) ⟨by rw [if_neg (fun h => by have := h.2; omega)], rfl⟩ (fun _ h => by cases h) d_Key_matches_75 (by omega) (by omega)
          · refine lv_iconst (v := nI 1) X.1.1 X.1.2.1 d_Key_matches_70 (by decide) ?_
            refine lv_goto X.1.1 X.1.2.1 d_Key_matches_71 rfl ?_
            exact g_zret X B (by decide) ⟨by rw [if_pos ⟨hc8, by omega⟩], rfl⟩ (fun _ h => by cases h) d_Key_matches_75 (by omega) (by omega)
        · refine lv_aload_n X.1.1 X.1.2.1 d_Key_matches_27 rfl (gl_at hl rfl) ?_
          refine g_get X kc_Key ha 0 (by decide) lk_Key_9 rfl d_Key_matches_28 ?_
          refine lv_iload X.1.1 X.1.2.1 d_Key_matches_31 (gl_at hl rfl) ?_
          refine g_iald X 0 hla rfl i (by omega) (by decide) d_Key_matches_33 ?_
          have e1 := t_lt hxc i
          refine g_top (nI (xs.getD i 0)) (hfa i (by omega)) ?_
          refine lv_bipush (v := nI 63) X.1.1 X.1.2.1 d_Key_matches_34 (by decide) ?_
          refine gn_eq X.1.1 X.1.2.1 (xs.getD i 0) 63 (by omega) (by omega) d_Key_matches_36 rfl (fun hc36 => ?_) (fun hc36 => ?_)
          · refine g_iinc X.1.1 X.1.2.1 (nI (i + 1)) hl 4 d_Key_matches_59 rfl (nI_1 _) rfl (fun ls hl => ?_)
            refine lv_goto X.1.1 X.1.2.1 d_Key_matches_62 rfl ?_
            exact ih18 (i + 1) k ls (by omega) (by omega) (by unfold t_diff; first | (rw [if_pos (by first | exact Or.inl (by assumption) | exact Or.inr (by assumption))]; omega) | (rw [if_neg (fun h => h.elim hc36 hc53)]; omega)) hl
          · refine lv_aload_n X.1.1 X.1.2.1 d_Key_matches_39 rfl (gl_at hl rfl) ?_
            refine g_get X kc_Key ha 0 (by decide) lk_Key_9 rfl d_Key_matches_40 ?_
            refine lv_iload X.1.1 X.1.2.1 d_Key_matches_43 (gl_at hl rfl) ?_
            refine g_iald X 0 hla rfl i (by omega) (by decide) d_Key_matches_45 ?_
            refine g_top (nI (xs.getD i 0)) (hfa i (by omega)) ?_
            refine lv_aload_n X.1.1 X.1.2.1 d_Key_matches_46 rfl (gl_at hl rfl) ?_
            refine g_get X kc_Key hb 0 (by decide) lk_Key_9 rfl d_Key_matches_47 ?_
            refine lv_iload X.1.1 X.1.2.1 d_Key_matches_50 (gl_at hl rfl) ?_
            refine g_iald X 0 hlb rfl i (by omega) (by decide) d_Key_matches_52 ?_
            have e2 := t_lt hyc i
            refine g_top (nI (ys.getD i 0)) (hfb i (by omega)) ?_
            refine gn_eq X.1.1 X.1.2.1 (xs.getD i 0) (ys.getD i 0) (by omega) (by omega) d_Key_matches_53 rfl (fun hc53 => ?_) (fun hc53 => ?_)
            · refine g_iinc X.1.1 X.1.2.1 (nI (i + 1)) hl 4 d_Key_matches_59 rfl (nI_1 _) rfl (fun ls hl => ?_)
              refine lv_goto X.1.1 X.1.2.1 d_Key_matches_62 rfl ?_
              exact ih18 (i + 1) k ls (by omega) (by omega) (by unfold t_diff; first | (rw [if_pos (by first | exact Or.inl (by assumption) | exact Or.inr (by assumption))]; omega) | (rw [if_neg (fun h => h.elim hc36 hc53)]; omega)) hl
            · refine g_iinc X.1.1 X.1.2.1 (nI (k + 1)) hl 3 d_Key_matches_56 rfl (nI_1 _) rfl (fun ls hl => ?_)
              refine g_iinc X.1.1 X.1.2.1 (nI (i + 1)) hl 4 d_Key_matches_59 rfl (nI_1 _) rfl (fun ls hl => ?_)
              refine lv_goto X.1.1 X.1.2.1 d_Key_matches_62 rfl ?_
              exact ih18 (i + 1) (k + 1) ls (by omega) (by omega) (by unfold t_diff; first | (rw [if_pos (by first | exact Or.inl (by assumption) | exact Or.inr (by assumption))]; omega) | (rw [if_neg (fun h => h.elim hc36 hc53)]; omega)) hl
    exact loop18 _ 0 0 ls (Nat.lt_succ_self _) (Nat.zero_le _) rfl hl
  · refine lv_iconst (v := nI 0) X.1.1 X.1.2.1 d_Key_matches_11 (by decide) ?_
    exact g_zret X B (by decide) ⟨by rw [if_neg (fun h => hc8 h.1)], rfl⟩ (fun _ h => by cases h) d_Key_matches_12 (by omega) (by omega)

set_option maxHeartbeats 4000000 in
set_option maxRecDepth 100000 in
/-- Key(): the empty text -/
theorem c_Key_init (l : Launch) (D : va_G) (q : Nat → ClassId) (H : Heap) (a : Nat) (hz : H.size = a + 1) (ha : va_at D CL (a, .inr (0, [.null, .int 0])) H) : gC l y_Key_init (Cond.code y_Key_init b_Key_init 1 none :: gWS) (gR 1 12 1 8) D CL (gY q) (fun _ => True) [.ref a] H (fun v H1 => v = none ∧ kA D q H1 a [] ∧ H1.size = a + 2 ∧ ∀ p : Nat, p < a → H1[p]? = H[p]?) 1 8 (fun p => a ≤ p) := by
  refine gC.ofW R_Key "<init>" (by decide) rfl rfl ?_
  intro p e s m below meth c hadm X hE hH B hne
  refine g_entry [some (.ref a)] rfl rfl (Nat.le_of_ble_eq_true rfl) (fun ls hl => ?_)
  refine lv_aload_n X.1.1 X.1.2.1 d_Key_init_0 rfl (gl_at hl rfl) ?_
  refine W.objInit X.1.1 X.1.2.1 X.1.2.2.2.1 (X.1.2.2.2.2 _ mo_Key_3.1) (X.1.2.2.2.2 _ mo_Key_3.2.1) (X.1.2.2.2.2 _ mo_Key_3.2.2) rfl (by rw [X.1.2.2.1]; exact hl.1) rfl d_Key_init_1 (Nat.le_of_ble_eq_true rfl) (Nat.le_of_ble_eq_true rfl) ?_
  refine W.eq (g2 := F0 m 4 ls []) rfl ?_
  refine lv_aload_n X.1.1 X.1.2.1 d_Key_init_4 rfl (gl_at hl rfl) ?_
  refine lv_bipush (v := nI 8) X.1.1 X.1.2.1 d_Key_init_5 (by decide) ?_
  refine g_newi X 0 rfl ka_int 8 (by decide) (Nat.le_of_ble_eq_true rfl) (Nat.le_of_ble_eq_true rfl) d_Key_init_7 (fun H1 h2 z3 o4 => ?_)
  rw [hz] at h2 z3 o4 ⊢
  replace ha := ha.kept (o4 _ (by omega))
  refine g_putF (A := (fun p => a ≤ p)) X B.2.2 kc_Key ha 0 (by decide) lk_Key_9 rfl rfl rfl rfl (Nat.le_of_ble_eq_true rfl) d_Key_init_9 (Nat.le_refl _) (fun _ h => by cases h) (fun H5 locs h6 z7 oq8 hL => ?_)
  replace h2 := h2.kept (oq8 _ (by omega))
  exact g_vret X B ⟨rfl, ⟨h6, ⟨_, h2, fun j hj => absurd hj (Nat.not_lt_zero j)⟩, by simp, by simp⟩, by omega, fun p hp => (oq8 p (by omega)).trans (o4 p (by omega))⟩ hL d_Key_init_12 (by omega) (by omega)
