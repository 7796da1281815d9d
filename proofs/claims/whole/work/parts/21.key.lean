/-! the class Key: printed by wip/specs/key.py -/
set_option maxHeartbeats 4000000 in
set_option maxRecDepth 100000 in
/-- clear(): the empty text -/
theorem c_Key_clear (l : Launch) (D : va_G) (q : Nat → ClassId) (H : Heap) (a : Nat) (xs : List Nat) (hxs : kA D q H a xs) : gC l y_Key_clear (Cond.code y_Key_clear b_Key_clear 1 none :: gWS) (gR 0 0 0 0) D CL (gY q) (fun _ => True) [.ref a] H (fun v H1 => v = none ∧ kA D q H1 a [] ∧ H1.size = H.size ∧ ∀ p : Nat, p ≠ a → H1[p]? = H[p]?) 0 0 (fun p => p = a) := by
  refine gC.ofW R_Key "clear" (by decide) rfl rfl ?_
  intro p e s m below meth c hadm X hE hH B hne
  refine g_entry [some (.ref a)] rfl rfl (Nat.le_of_ble_eq_true rfl) (fun ls hl => ?_)
  obtain ⟨ha, ⟨fa, hla, hfa⟩, hxl, hxc⟩ := hxs
  refine lv_aload_n X.1.1 X.1.2.1 d_Key_clear_0 rfl (gl_at hl rfl) ?_
  refine lv_iconst (v := nI 0) X.1.1 X.1.2.1 d_Key_clear_1 (by decide) ?_
  refine g_put (A := (fun p => p = a)) X kc_Key ha 1 (by decide) lk_Key_15 rfl rfl rfl (Nat.le_of_ble_eq_true rfl) d_Key_clear_2 rfl (fun _ h => by cases h) (fun H1 locs h2 z3 oq4 hL => ?_)
  replace hla := hla.kept (oq4 _ (by omega))
  exact g_vret X B ⟨rfl, ⟨h2, ⟨fa, hla, fun j hj => absurd hj (Nat.not_lt_zero j)⟩, by simp, by simp⟩, z3, oq4⟩ hL d_Key_clear_5 (by omega) (by omega)

set_option maxHeartbeats 4000000 in
set_option maxRecDepth 100000 in
/-- append(x): a text that is not full -/
theorem c_Key_append (l : Launch) (D : va_G) (q : Nat → ClassId) (H : Heap) (a : Nat) (xs : List Nat) (hxs : kA D q H a xs) (x : Nat) (hx : x < 65536) (hlt : xs.length < 8) : gC l y_Key_append (Cond.code y_Key_append b_Key_append 2 none :: gWS) (gR 0 0 0 0) D CL (gY q) (fun _ => True) [.ref a, .int (nI x)] H (fun v H1 => v = none ∧ kA D q H1 a (xs ++ [x]) ∧ H1.size = H.size ∧ ∀ p : Nat, ¬ (p = a ∨ p = a + 1) → H1[p]? = H[p]?) 0 0 (fun p => p = a ∨ p = a + 1) := by
  refine gC.ofW R_Key "append" (by decide) rfl rfl ?_
  intro p e s m below meth c hadm X hE hH B hne
  refine g_entry [some (.ref a), some (.int (nI x))] rfl rfl (Nat.le_of_ble_eq_true rfl) (fun ls hl => ?_)
  obtain ⟨ha, ⟨fa, hla, hfa⟩, hxl, hxc⟩ := hxs
  refine lv_aload_n X.1.1 X.1.2.1 d_Key_append_0 rfl (gl_at hl rfl) ?_
  refine g_get X kc_Key ha 1 (by decide) lk_Key_15 rfl d_Key_append_1 ?_
  refine lv_bipush (v := nI 8) X.1.1 X.1.2.1 d_Key_append_4 (by decide) ?_
  refine gn_ge X.1.1 X.1.2.1 xs.length 8 (by omega) (by omega) d_Key_append_6 rfl (fun hc6 => ?_) (fun hc6 => ?_)
  · omega
  · refine lv_aload_n X.1.1 X.1.2.1 d_Key_append_9 rfl (gl_at hl rfl) ?_
    refine g_get X kc_Key ha 0 (by decide) lk_Key_9 rfl d_Key_append_10 ?_
    refine lv_aload_n X.1.1 X.1.2.1 d_Key_append_13 rfl (gl_at hl rfl) ?_
    refine g_get X kc_Key ha 1 (by decide) lk_Key_15 rfl d_Key_append_14 ?_
    refine lv_iload_n X.1.1 X.1.2.1 d_Key_append_17 rfl (gl_at hl rfl) ?_
    refine g_iast (A := (fun p => p = a ∨ p = a + 1)) X 0 hla rfl xs.length (by omega) (by decide) d_Key_append_18 (Or.inr rfl) (fun _ h => by cases h) (fun H1 locs h2 z3 oq4 hL => ?_)
    replace ha := ha.kept (oq4 _ (by omega))
    refine lv_aload_n X.1.1 X.1.2.1 d_Key_append_19 rfl (gl_at hl rfl) ?_
    refine lv_dup X.1.1 X.1.2.1 d_Key_append_20 rfl ?_
    refine g_get X kc_Key ha 1 (by decide) lk_Key_15 rfl d_Key_append_21 ?_
    refine lv_iconst (v := nI 1) X.1.1 X.1.2.1 d_Key_append_24 (by decide) ?_
    refine lv_iadd X.1.1 X.1.2.1 d_Key_append_25 ?_
    refine g_top (nI (xs.length + 1)) (nI_add _ _) ?_
    refine g_put (A := (fun p => p = a ∨ p = a + 1)) X kc_Key ha 1 (by decide) lk_Key_15 rfl rfl rfl (Nat.le_of_ble_eq_true rfl) d_Key_append_26 (Or.inl rfl) hL (fun H5 locs h6 z7 oq8 hL => ?_)
    replace h2 := h2.kept (oq8 _ (by omega))
    exact g_vret X B ⟨rfl, ⟨by rw [List.length_append]; exact h6, ⟨_, h2, fun j hj => by
          rw [List.length_append, List.length_singleton] at hj
          by_cases h9 : j = xs.length
          · subst h9
            rw [t_get_last, pk_us]
          · rw [t_get_app (by omega), pk_un h9, hfa j (by omega)]⟩, by rw [List.length_append, List.length_singleton]; omega, fun z hz => by
          rcases List.mem_append.mp hz with h9 | h9
          · exact hxc z h9
          · rw [List.mem_singleton.mp h9]
            exact hx⟩, z7.trans z3, fun p hp => (oq8 p (fun h9 => hp (Or.inl h9))).trans (oq4 p (fun h9 => hp (Or.inr h9)))⟩ hL d_Key_append_29 (by omega) (by omega)

set_option maxHeartbeats 4000000 in
set_option maxRecDepth 100000 in
/-- become(b): the text of b -/
theorem c_Key_become (l : Launch) (D : va_G) (q : Nat → ClassId) (H : Heap) (a b : Nat) (xs ys : List Nat) (hxs : kA D q H a xs) (hys : kA D q H b ys) (hab : a + 1 < b ∨ b + 1 < a) : gC l y_Key_become (Cond.code y_Key_become b_Key_become 2 none :: gWS) (gR 1 18 0 0) D CL (gY q) (fun _ => True) [.ref a, .ref b] H (fun v H1 => v = none ∧ kA D q H1 a ys ∧ H1.size = H.size ∧ ∀ p : Nat, ¬ (p = a ∨ p = a + 1) → H1[p]? = H[p]?) 0 0 (fun p => p = a ∨ p = a + 1) := by
  refine gC.ofW R_Key "become" (by decide) rfl rfl ?_
  intro p e s m below meth c hadm X hE hH B hne
  refine g_entry [some (.ref a), some (.ref b)] rfl rfl (Nat.le_of_ble_eq_true rfl) (fun ls hl => ?_)
  obtain ⟨ha, ⟨fa, hla, hfa⟩, hxl, hxc⟩ := hxs
  obtain ⟨hb, ⟨fb, hlb, hfb⟩, hyl, hyc⟩ := hys
  refine lv_aload_n X.1.1 X.1.2.1 d_Key_become_0 rfl (gl_at hl rfl) ?_
  refine g_get X kc_Key hb 0 (by decide) lk_Key_9 rfl d_Key_become_1 ?_
  refine lv_iconst (v := nI 0) X.1.1 X.1.2.1 d_Key_become_4 (by decide) ?_
  refine lv_aload_n X.1.1 X.1.2.1 d_Key_become_5 rfl (gl_at hl rfl) ?_
  refine g_get X kc_Key ha 0 (by decide) lk_Key_9 rfl d_Key_become_6 ?_
  refine lv_iconst (v := nI 0) X.1.1 X.1.2.1 d_Key_become_9 (by decide) ?_
  refine lv_aload_n X.1.1 X.1.2.1 d_Key_become_10 rfl (gl_at hl rfl) ?_
  refine g_get X kc_Key hb 1 (by decide) lk_Key_15 rfl d_Key_become_11 ?_
  refine g_copyi (A := (fun p => p = a ∨ p = a + 1)) X hl.1 mq_Key_19.1 mq_Key_19.2.1 mq_Key_19.2.2.1 mq_Key_19.2.2.2 0 hlb hla rfl 0 0 ys.length (by omega) (by omega) (by decide) (by decide) (by decide) (by decide) d_Key_become_14 (Or.inr rfl) (fun _ h => by cases h) (fun H1 locs h2 z3 oq4 hL => ?_)
  replace ha := ha.kept (oq4 _ (by omega))
  replace hb := hb.kept (oq4 _ (by omega))
  replace hlb := hlb.kept (oq4 _ (by omega))
  refine lv_aload_n X.1.1 X.1.2.1 d_Key_become_17 rfl (gl_at hl rfl) ?_
  refine lv_aload_n X.1.1 X.1.2.1 d_Key_become_18 rfl (gl_at hl rfl) ?_
  refine g_get X kc_Key hb 1 (by decide) lk_Key_15 rfl d_Key_become_19 ?_
  refine g_put (A := (fun p => p = a ∨ p = a + 1)) X kc_Key ha 1 (by decide) lk_Key_15 rfl rfl rfl (Nat.le_of_ble_eq_true rfl) d_Key_become_22 (Or.inl rfl) hL (fun H5 locs h6 z7 oq8 hL => ?_)
  replace h2 := h2.kept (oq8 _ (by omega))
  replace hb := hb.kept (oq8 _ (by omega))
  replace hlb := hlb.kept (oq8 _ (by omega))
  exact g_vret X B ⟨rfl, ⟨h6, ⟨_, h2, fun j hj => by rw [pk_cpy_in (Nat.zero_le _) (by omega), Nat.zero_add, Nat.sub_zero]; exact hfb j hj⟩, hyl, hyc⟩, z7.trans z3, fun p hp => (oq8 p (fun h9 => hp (Or.inl h9))).trans (oq4 p (fun h9 => hp (Or.inr h9)))⟩ hL d_Key_become_25 (by omega) (by omega)

set_option maxHeartbeats 4000000 in
set_option maxRecDepth 100000 in
/-- shared(b): how many characters both have in common -/
theorem c_Key_shared (l : Launch) (D : va_G) (q : Nat → ClassId) (H : Heap) (a b : Nat) (xs ys : List Nat) (hxs : kA D q H a xs) (hys : kA D q H b ys) : gC l y_Key_shared (Cond.code y_Key_shared b_Key_shared 3 (some .int) :: gWS) (gR 0 0 0 0) D CL (gY q) (fun _ => True) [.ref a, .ref b] H (fun v H1 => v = some (.int (nI (t_lcp xs ys))) ∧ H1 = H) 0 0 (fun _ => False) := by
  refine gC.ofW R_Key "shared" (by decide) rfl rfl ?_
  intro p e s m below meth c hadm X hE hH B hne
  refine g_entry [some (.ref a), some (.ref b), none] rfl rfl (Nat.le_of_ble_eq_true rfl) (fun ls hl => ?_)
  obtain ⟨ha, ⟨fa, hla, hfa⟩, hxl, hxc⟩ := hxs
  obtain ⟨hb, ⟨fb, hlb, hfb⟩, hyl, hyc⟩ := hys
  refine lv_iconst (v := nI 0) X.1.1 X.1.2.1 d_Key_shared_0 (by decide) ?_
  refine g_istn X.1.1 X.1.2.1 hl 2 d_Key_shared_1 rfl (Nat.le_of_ble_eq_true rfl) rfl (fun ls hl => ?_)
  have loop2 : ∀ (n : Nat) (i : Nat) (ls : Array Slot), xs.length - i < n → (i ≤ xs.length) → (i ≤ ys.length) → (∀ j, j < i → xs.getD j 0 = ys.getD j 0) → gl ls [some (.ref a), some (.ref b), some (.int (nI i))] → W p l e (gR 0 0 0 0) s m ([.ref a, .ref b] : List Value).toArray below meth c H [] 0 0 (gQ below ([.ref a, .ref b] : List Value).toArray s (fun v H1 => v = some (.int (nI (t_lcp xs ys))) ∧ H1 = H) 0 0 (fun _ => False)) (F0 m 2 ls []) := by
    intro n
    induction n with
    | zero => intro i ls hmu; omega
    | succ n ih2 =>
      intro i ls hmu2 hi2_0 hi2_1 hi2_2 hl
      refine lv_iload_n X.1.1 X.1.2.1 d_Key_shared_2 rfl (gl_at hl rfl) ?_
      refine lv_aload_n X.1.1 X.1.2.1 d_Key_shared_3 rfl (gl_at hl rfl) ?_
      refine g_get X kc_Key ha 1 (by decide) lk_Key_15 rfl d_Key_shared_4 ?_
      refine gn_ge X.1.1 X.1.2.1 i xs.length (by omega) (by omega) d_Key_shared_7 rfl (fun hc7 => ?_) (fun hc7 => ?_)
      · refine lv_iload_n X.1.1 X.1.2.1 d_Key_shared_39 rfl (gl_at hl rfl) ?_
        exact g_iret X B ⟨by rw [t_lcp_eq xs ys i (by omega) (by omega) hi2_2 (by first | exact Or.inl (by omega) | exact Or.inr (Or.inl (by omega)) | exact Or.inr (Or.inr (by assumption)))], rfl⟩ (fun _ h => by cases h) d_Key_shared_40 (by omega) (by omega)
      · refine lv_iload_n X.1.1 X.1.2.1 d_Key_shared_10 rfl (gl_at hl rfl) ?_
        refine lv_aload_n X.1.1 X.1.2.1 d_Key_shared_11 rfl (gl_at hl rfl) ?_
        refine g_get X kc_Key hb 1 (by decide) lk_Key_15 rfl d_Key_shared_12 ?_
        refine gn_ge X.1.1 X.1.2.1 i ys.length (by omega) (by omega) d_Key_shared_15 rfl (fun hc15 => ?_) (fun hc15 => ?_)
        · refine lv_iload_n X.1.1 X.1.2.1 d_Key_shared_39 rfl (gl_at hl rfl) ?_
          exact g_iret X B ⟨by rw [t_lcp_eq xs ys i (by omega) (by omega) hi2_2 (by first | exact Or.inl (by omega) | exact Or.inr (Or.inl (by omega)) | exact Or.inr (Or.inr (by assumption)))], rfl⟩ (fun _ h => by cases h) d_Key_shared_40 (by omega) (by omega)
        · refine lv_aload_n X.1.1 X.1.2.1 d_Key_shared_18 rfl (gl_at hl rfl) ?_
          refine g_get X kc_Key ha 0 (by decide) lk_Key_9 rfl d_Key_shared_19 ?_
          refine lv_iload_n X.1.1 X.1.2.1 d_Key_shared_22 rfl (gl_at hl rfl) ?_
          refine g_iald X 0 hla rfl i (by omega) (by decide) d_Key_shared_23 ?_
          have e1 := t_lt hxc i
          refine g_top (nI (xs.getD i 0)) (hfa i (by omega)) ?_
          refine lv_aload_n X.1.1 X.1.2.1 d_Key_shared_24 rfl (gl_at hl rfl) ?_
          refine g_get X kc_Key hb 0 (by decide) lk_Key_9 rfl d_Key_shared_25 ?_
          refine lv_iload_n X.1.1 X.1.2.1 d_Key_shared_28 rfl (gl_at hl rfl) ?_
          refine g_iald X 0 hlb rfl i (by omega) (by decide) d_Key_shared_29 ?_
          have e2 := t_lt hyc i
          refine g_top (nI (ys.getD i 0)) (hfb i (by omega)) ?_
          refine gn_ne X.1.1 X.1.2.1 (xs.getD i 0) (ys.getD i 0) (by omega) (by omega) d_Key_shared_30 rfl (fun hc30 => ?_) (fun hc30 => ?_)
          · refine lv_iload_n X.1.1 X.1.2.1 d_Key_shared_39 rfl (gl_at hl rfl) ?_
            exact g_iret X B ⟨by rw [t_lcp_eq xs ys i (by omega) (by omega) hi2_2 (by first | exact Or.inl (by omega) | exact Or.inr (Or.inl (by omega)) | exact Or.inr (Or.inr (by assumption)))], rfl⟩ (fun _ h => by cases h) d_Key_shared_40 (by omega) (by omega)
          · refine g_iinc X.1.1 X.1.2.1 (nI (i + 1)) hl 2 d_Key_shared_33 rfl (nI_1 _) rfl (fun ls hl => ?_)
            refine lv_goto X.1.1 X.1.2.1 d_Key_shared_36 rfl ?_
            exact ih2 (i + 1) ls (by omega) hc7 hc15 (lt_s hi2_2 hc30) hl
  exact loop2 _ 0 ls (Nat.lt_succ_self _) (Nat.zero_le _) (Nat.zero_le _) (fun j hj => absurd hj (Nat.not_lt_zero j)) hl

set_option maxHeartbeats 4000000 in
set_option maxRecDepth 100000 in
/-- order(b) -/
theorem c_Key_order (l : Launch) (D : va_G) (q : Nat → ClassId) (H : Heap) (a b : Nat) (xs ys : List Nat) (hxs : kA D q H a xs) (hys : kA D q H b ys) : gC l y_Key_order (Cond.code y_Key_order b_Key_order 3 (some .int) :: gWS) (gR 1 22 0 0) D CL (gY q) (fun _ => True) [.ref a, .ref b] H (fun v H1 => ∃ r : Int32, v = some (.int r) ∧ r.toInt = t_ord xs ys ∧ H1 = H) 0 0 (fun _ => False) := by
  refine gC.ofW R_Key "order" (by decide) rfl rfl ?_
  intro p e s m below meth c hadm X hE hH B hne
  refine g_entry [some (.ref a), some (.ref b), none] rfl rfl (Nat.le_of_ble_eq_true rfl) (fun ls hl => ?_)
  have hxs0 := hxs
  have hys0 := hys
  obtain ⟨ha, ⟨fa, hla, hfa⟩, hxl, hxc⟩ := hxs
  obtain ⟨hb, ⟨fb, hlb, hfb⟩, hyl, hyc⟩ := hys
  have hxs := hxs0
  have hys := hys0
  have i1 := t_lcp_le1 xs ys
  have i2 := t_lcp_le2 xs ys
  refine lv_aload_n X.1.1 X.1.2.1 d_Key_order_0 rfl (gl_at hl rfl) ?_
  refine lv_aload_n X.1.1 X.1.2.1 d_Key_order_1 rfl (gl_at hl rfl) ?_
  refine g_cv (A := (fun _ => False)) X gWS_good mw_Key_25 kc_Key ha (c_Key_shared l D q H a b xs ys hxs hys) (fun _ _ _ => trivial) gBlind.tt rfl rfl hl.1 (by decide) rfl rfl ⟨by decide, by decide⟩ ⟨by decide, by decide⟩ d_Key_order_2 (fun _ h => h.elim) (fun _ h => by cases h) (fun v1 H2 locs hp3 hL => ?_)
  obtain ⟨rfl, rfl⟩ := hp3
  refine g_istn X.1.1 X.1.2.1 hl 2 d_Key_order_5 rfl (Nat.le_of_ble_eq_true rfl) rfl (fun ls hl => ?_)
  refine lv_iload_n X.1.1 X.1.2.1 d_Key_order_6 rfl (gl_at hl rfl) ?_
  refine lv_aload_n X.1.1 X.1.2.1 d_Key_order_7 rfl (gl_at hl rfl) ?_
  refine g_get X kc_Key ha 1 (by decide) lk_Key_15 rfl d_Key_order_8 ?_
  refine gn_eq X.1.1 X.1.2.1 (t_lcp xs ys) xs.length (by omega) (by omega) d_Key_order_11 rfl (fun hc11 => ?_) (fun hc11 => ?_)
  · refine lv_aload_n X.1.1 X.1.2.1 d_Key_order_22 rfl (gl_at hl rfl) ?_
    refine g_get X kc_Key ha 1 (by decide) lk_Key_15 rfl d_Key_order_23 ?_
    refine lv_aload_n X.1.1 X.1.2.1 d_Key_order_26 rfl (gl_at hl rfl) ?_
    refine g_get X kc_Key hb 1 (by decide) lk_Key_15 rfl d_Key_order_27 ?_
    refine lv_isub X.1.1 X.1.2.1 d_Key_order_30 ?_
    exact g_iret X B ⟨_, rfl, by rw [pk_sub_toInt (by omega) (by omega), t_ord_end xs ys (by omega)], rfl⟩ hL d_Key_order_31 (by omega) (by omega)
  · refine lv_iload_n X.1.1 X.1.2.1 d_Key_order_14 rfl (gl_at hl rfl) ?_
    refine lv_aload_n X.1.1 X.1.2.1 d_Key_order_15 rfl (gl_at hl rfl) ?_
    refine g_get X kc_Key hb 1 (by decide) lk_Key_15 rfl d_Key_order_16 ?_
    refine gn_ne X.1.1 X.1.2.1 (t_lcp xs ys) ys.length (by omega) (by omega) d_Key_order_19 rfl (fun hc19 => ?_) (fun hc19 => ?_)
    · refine lv_aload_n X.1.1 X.1.2.1 d_Key_order_32 rfl (gl_at hl rfl) ?_
      refine g_get X kc_Key ha 0 (by decide) lk_Key_9 rfl d_Key_order_33 ?_
      refine lv_iload_n X.1.1 X.1.2.1 d_Key_order_36 rfl (gl_at hl rfl) ?_
      refine g_iald X 0 hla rfl (t_lcp xs ys) (by omega) (by decide) d_Key_order_37 ?_
      have e1 := t_lt hxc (t_lcp xs ys)
      refine g_top (nI (xs.getD (t_lcp xs ys) 0)) (hfa _ (by omega)) ?_
      refine lv_aload_n X.1.1 X.1.2.1 d_Key_order_38 rfl (gl_at hl rfl) ?_
      refine g_get X kc_Key hb 0 (by decide) lk_Key_9 rfl d_Key_order_39 ?_
      refine lv_iload_n X.1.1 X.1.2.1 d_Key_order_42 rfl (gl_at hl rfl) ?_
      refine g_iald X 0 hlb rfl (t_lcp xs ys) (by omega) (by decide) d_Key_order_43 ?_
      have e2 := t_lt hyc (t_lcp xs ys)
      refine g_top (nI (ys.getD (t_lcp xs ys) 0)) (hfb _ (by omega)) ?_
      refine lv_isub X.1.1 X.1.2.1 d_Key_order_44 ?_
      exact g_iret X B ⟨_, rfl, by rw [pk_sub_toInt (by omega) (by omega), t_ord_mid xs ys (by omega) (by omega)], rfl⟩ hL d_Key_order_45 (by omega) (by omega)
    · refine lv_aload_n X.1.1 X.1.2.1 d_Key_order_22 rfl (gl_at hl rfl) ?_
      refine g_get X kc_Key ha 1 (by decide) lk_Key_15 rfl d_Key_order_23 ?_
      refine lv_aload_n X.1.1 X.1.2.1 d_Key_order_26 rfl (gl_at hl rfl) ?_
      refine g_get X kc_Key hb 1 (by decide) lk_Key_15 rfl d_Key_order_27 ?_
      refine lv_isub X.1.1 X.1.2.1 d_Key_order_30 ?_
      exact g_iret X B ⟨_, rfl, by rw [pk_sub_toInt (by omega) (by omega), t_ord_end xs ys (by omega)], rfl⟩ hL d_Key_order_31 (by omega) (by omega)

set_option maxHeartbeats 4000000 in
set_option maxRecDepth 100000 in
/-- beginsWith(b) -/
theorem c_Key_beginsWith (l : Launch) (D : va_G) (q : Nat → ClassId) (H : Heap) (a b : Nat) (xs ys : List Nat) (hxs : kA D q H a xs) (hys : kA D q H b ys) : gC l y_Key_beginsWith (Cond.code y_Key_beginsWith b_Key_beginsWith 2 (some .boolean) :: gWS) (gR 1 22 0 0) D CL (gY q) (fun _ => True) [.ref a, .ref b] H (fun v H1 => v = some (.int (nI (if t_lcp xs ys = ys.length then 1 else 0))) ∧ H1 = H) 0 0 (fun _ => False) := by
  refine gC.ofW R_Key "beginsWith" (by decide) rfl rfl ?_
  intro p e s m below meth c hadm X hE hH B hne
  refine g_entry [some (.ref a), some (.ref b)] rfl rfl (Nat.le_of_ble_eq_true rfl) (fun ls hl => ?_)
  have hxs0 := hxs
  have hys0 := hys
  obtain ⟨ha, ⟨fa, hla, hfa⟩, hxl, hxc⟩ := hxs
  obtain ⟨hb, ⟨fb, hlb, hfb⟩, hyl, hyc⟩ := hys
  have hxs := hxs0
  have hys := hys0
  have i1 := t_lcp_le1 xs ys
  have i2 := t_lcp_le2 xs ys
  refine lv_aload_n X.1.1 X.1.2.1 d_Key_beginsWith_0 rfl (gl_at hl rfl) ?_
  refine lv_aload_n X.1.1 X.1.2.1 d_Key_beginsWith_1 rfl (gl_at hl rfl) ?_
  refine g_cv (A := (fun _ => False)) X gWS_good mw_Key_25 kc_Key ha (c_Key_shared l D q H a b xs ys hxs hys) (fun _ _ _ => trivial) gBlind.tt rfl rfl hl.1 (by decide) rfl rfl ⟨by decide, by decide⟩ ⟨by decide, by decide⟩ d_Key_beginsWith_2 (fun _ h => h.elim) (fun _ h => by cases h) (fun v1 H2 locs hp3 hL => ?_)
  obtain ⟨rfl, rfl⟩ := hp3
  refine lv_aload_n X.1.1 X.1.2.1 d_Key_beginsWith_5 rfl (gl_at hl rfl) ?_
  refine g_get X kc_Key hb 1 (by decide) lk_Key_15 rfl d_Key_beginsWith_6 ?_
  refine gn_ne X.1.1 X.1.2.1 (t_lcp xs ys) ys.length (by omega) (by omega) d_Key_beginsWith_9 rfl (fun hc9 => ?_) (fun hc9 => ?_)
  · refine lv_iconst (v := nI 0) X.1.1 X.1.2.1 d_Key_beginsWith_16 (by decide) ?_
    exact g_zret X B (by decide) ⟨by rw [if_neg (by assumption)], rfl⟩ hL d_Key_beginsWith_17 (by omega) (by omega)
  · refine lv_iconst (v := nI 1) X.1.1 X.1.2.1 d_Key_beginsWith_12 (by decide) ?_
    refine lv_goto X.1.1 X.1.2.1 d_Key_beginsWith_13 rfl ?_
    exact g_zret X B (by decide) ⟨by rw [if_pos (by assumption)], rfl⟩ hL d_Key_beginsWith_17 (by omega) (by omega)
