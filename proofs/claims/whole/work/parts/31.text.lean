/-! the classes History, SuffixOrder, EditedText: printed by wip/specs/text.py -/
set_option maxHeartbeats 4000000 in
set_option maxRecDepth 100000 in
theorem c_History_keep (l : Launch) (D : va_G) (q : Nat → ClassId) (H : Heap) (hb : Nat) (us : List (List Nat)) (hh : hisA D q H hb us) (ca : Nat) (f : Nat → Int32) (hca : va_at D CL (ca, .inl (q 0, 120, .inl f)) H) (hcb : ca < hb ∨ hb + 2 < ca) (xs : List Nat) (hx : xs.length ≤ 120) (hxc : ∀ x ∈ xs, x < 65536) (hf : tX f xs) : gC l y_History_keep (Cond.code y_History_keep b_History_keep 3 none :: gWS) (gR 1 18 0 0) D CL (gY q) (fun _ => True) [.ref hb, .ref ca, .int (nI xs.length)] H (fun v H1 => v = none ∧ hisA D q H1 hb ((xs :: us).take 20) ∧ H1.size = H.size ∧ ∀ p : Nat, ¬ (hb ≤ p ∧ p ≤ hb + 2) → H1[p]? = H[p]?) 0 0 (fun p => hb ≤ p ∧ p ≤ hb + 2) := by
  refine gC.ofW R_History "keep" (by decide) rfl rfl ?_
  intro p e s m below meth c hadm X hE hH B hne
  refine g_entry [some (.ref hb), some (.ref ca), some (.int (nI xs.length))] rfl rfl (Nat.le_of_ble_eq_true rfl) (fun ls hl => ?_)
  obtain ⟨nw, h, ln, ho, hlt, hln, hnw, hus, hr⟩ := hh
  refine lv_aload_n X.1.1 X.1.2.1 d_History_keep_0 rfl (gl_at hl rfl) ?_
  refine lv_aload_n X.1.1 X.1.2.1 d_History_keep_1 rfl (gl_at hl rfl) ?_
  refine g_get X kc_History ho 2 (by decide) lk_History_18 rfl d_History_keep_2 ?_
  refine lv_iconst (v := nI 1) X.1.1 X.1.2.1 d_History_keep_5 (by decide) ?_
  refine lv_iadd X.1.1 X.1.2.1 d_History_keep_6 ?_
  refine g_top (nI (nw + 1)) (nI_add _ _) ?_
  refine lv_bipush (v := nI 20) X.1.1 X.1.2.1 d_History_keep_7 (by decide) ?_
  refine gn_ge X.1.1 X.1.2.1 (nw + 1) 20 (by omega) (by omega) d_History_keep_9 rfl (fun hc9 => ?_) (fun hc9 => ?_)
  · refine lv_iconst (v := nI 0) X.1.1 X.1.2.1 d_History_keep_21 (by decide) ?_
    obtain ⟨nw1, hnw1⟩ : ∃ z, z = (nw + 1) % 20 := ⟨_, rfl⟩
    refine g_top (nI nw1) (by rw [hnw1]; congr 1; omega) ?_
    have hnw2 : nw1 < 20 := by omega
    refine g_put (A := (fun p => hb ≤ p ∧ p ≤ hb + 2)) X kc_History ho 2 (by decide) lk_History_18 rfl rfl rfl (Nat.le_of_ble_eq_true rfl) d_History_keep_22 (show _ ∧ _ by omega) (fun _ h => by cases h) (fun H1 locs h2 z3 oq4 hL => ?_)
    replace hlt := hlt.kept (oq4 _ (by omega))
    replace hln := hln.kept (oq4 _ (by omega))
    replace hca := hca.kept (oq4 _ (by omega))
    refine lv_aload_n X.1.1 X.1.2.1 d_History_keep_25 rfl (gl_at hl rfl) ?_
    refine lv_iconst (v := nI 0) X.1.1 X.1.2.1 d_History_keep_26 (by decide) ?_
    refine lv_aload_n X.1.1 X.1.2.1 d_History_keep_27 rfl (gl_at hl rfl) ?_
    refine g_get X kc_History h2 0 (by decide) lk_History_9 rfl d_History_keep_28 ?_
    refine lv_aload_n X.1.1 X.1.2.1 d_History_keep_31 rfl (gl_at hl rfl) ?_
    refine g_get X kc_History h2 2 (by decide) lk_History_18 rfl d_History_keep_32 ?_
    refine lv_bipush (v := nI 120) X.1.1 X.1.2.1 d_History_keep_35 (by decide) ?_
    refine lv_imul X.1.1 X.1.2.1 d_History_keep_37 ?_
    refine g_top (nI (nw1 * 120)) (pk_mul _ _) ?_
    refine lv_iload_n X.1.1 X.1.2.1 d_History_keep_38 rfl (gl_at hl rfl) ?_
    refine g_copyi (A := (fun p => hb ≤ p ∧ p ≤ hb + 2)) X hl.1 mq_History_22.1 mq_History_22.2.1 mq_History_22.2.2.1 mq_History_22.2.2.2 0 hca hlt rfl 0 (nw1 * 120) xs.length (by omega) (by omega) (by decide) (by decide) (by decide) (by decide) d_History_keep_39 (show _ ∧ _ by omega) hL (fun H5 locs h6 z7 oq8 hL => ?_)
    replace h2 := h2.kept (oq8 _ (by omega))
    replace hln := hln.kept (oq8 _ (by omega))
    replace hca := hca.kept (oq8 _ (by omega))
    refine lv_aload_n X.1.1 X.1.2.1 d_History_keep_42 rfl (gl_at hl rfl) ?_
    refine g_get X kc_History h2 1 (by decide) lk_History_15 rfl d_History_keep_43 ?_
    refine lv_aload_n X.1.1 X.1.2.1 d_History_keep_46 rfl (gl_at hl rfl) ?_
    refine g_get X kc_History h2 2 (by decide) lk_History_18 rfl d_History_keep_47 ?_
    refine lv_iload_n X.1.1 X.1.2.1 d_History_keep_50 rfl (gl_at hl rfl) ?_
    refine g_iast (A := (fun p => hb ≤ p ∧ p ≤ hb + 2)) X 0 hln rfl nw1 (by omega) (by decide) d_History_keep_51 (show _ ∧ _ by omega) hL (fun H9 locs h10 z11 oq12 hL => ?_)
    replace h2 := h2.kept (oq12 _ (by omega))
    replace h6 := h6.kept (oq12 _ (by omega))
    replace hca := hca.kept (oq12 _ (by omega))
    refine lv_aload_n X.1.1 X.1.2.1 d_History_keep_52 rfl (gl_at hl rfl) ?_
    refine lv_aload_n X.1.1 X.1.2.1 d_History_keep_53 rfl (gl_at hl rfl) ?_
    refine g_get X kc_History h2 3 (by decide) lk_History_28 rfl d_History_keep_54 ?_
    refine lv_iconst (v := nI 1) X.1.1 X.1.2.1 d_History_keep_57 (by decide) ?_
    refine lv_iadd X.1.1 X.1.2.1 d_History_keep_58 ?_
    refine g_top (nI (us.length + 1)) (nI_add _ _) ?_
    refine lv_bipush (v := nI 20) X.1.1 X.1.2.1 d_History_keep_59 (by decide) ?_
    refine va_mmin X.1.1 X.1.2.1 (by rw [X.1.2.2.1]; exact hl.1.symm) X.1.2.2.2.1 (X.1.2.2.2.2 _ mm_History_31.1) (X.1.2.2.2.2 _ mm_History_31.2.1) (X.1.2.2.2.2 _ mm_History_31.2.2.1) (X.1.2.2.2.2 _ mm_History_31.2.2.2) (by decide) (Nat.le_of_ble_eq_true rfl) (by decide) (by decide) d_History_keep_61 ?_
    refine g_top (nI (if 20 < us.length + 1 then 20 else us.length + 1)) (gn_min (by omega) (by omega)) ?_
    refine g_put (A := (fun p => hb ≤ p ∧ p ≤ hb + 2)) X kc_History h2 3 (by decide) lk_History_28 rfl rfl rfl (Nat.le_of_ble_eq_true rfl) d_History_keep_64 (show _ ∧ _ by omega) hL (fun H13 locs h14 z15 oq16 hL => ?_)
    replace h6 := h6.kept (oq16 _ (by omega))
    replace h10 := h10.kept (oq16 _ (by omega))
    replace hca := hca.kept (oq16 _ (by omega))
    exact g_vret X B ⟨rfl, ⟨nw1, _, _, (by rw [his_len]; exact h14), h6, h10, hnw2, by rw [his_len]; split <;> omega, his_push hnw hus rfl hx hxc hf hr nw1 hnw1⟩, (z15.trans (z11.trans (z7.trans z3))), fun p hp => ((oq16 p (by omega)).trans ((oq12 p (by omega)).trans ((oq8 p (by omega)).trans (oq4 p (by omega)))))⟩ hL d_History_keep_67 (by omega) (by omega)
  · refine lv_aload_n X.1.1 X.1.2.1 d_History_keep_12 rfl (gl_at hl rfl) ?_
    refine g_get X kc_History ho 2 (by decide) lk_History_18 rfl d_History_keep_13 ?_
    refine lv_iconst (v := nI 1) X.1.1 X.1.2.1 d_History_keep_16 (by decide) ?_
    refine lv_iadd X.1.1 X.1.2.1 d_History_keep_17 ?_
    refine g_top (nI (nw + 1)) (nI_add _ _) ?_
    refine lv_goto X.1.1 X.1.2.1 d_History_keep_18 rfl ?_
    obtain ⟨nw1, hnw1⟩ : ∃ z, z = (nw + 1) % 20 := ⟨_, rfl⟩
    refine g_top (nI nw1) (by rw [hnw1]; congr 1; omega) ?_
    have hnw2 : nw1 < 20 := by omega
    refine g_put (A := (fun p => hb ≤ p ∧ p ≤ hb + 2)) X kc_History ho 2 (by decide) lk_History_18 rfl rfl rfl (Nat.le_of_ble_eq_true rfl) d_History_keep_22 (show _ ∧ _ by omega) (fun _ h => by cases h) (fun H17 locs h18 z19 oq20 hL => ?_)
    replace hlt := hlt.kept (oq20 _ (by omega))
    replace hln := hln.kept (oq20 _ (by omega))
    replace hca := hca.kept (oq20 _ (by omega))
    refine lv_aload_n X.1.1 X.1.2.1 d_History_keep_25 rfl (gl_at hl rfl) ?_
    refine lv_iconst (v := nI 0) X.1.1 X.1.2.1 d_History_keep_26 (by decide) ?_
    refine lv_aload_n X.1.1 X.1.2.1 d_History_keep_27 rfl (gl_at hl rfl) ?_
    refine g_get X kc_History h18 0 (by decide) lk_History_9 rfl d_History_keep_28 ?_
    refine lv_aload_n X.1.1 X.1.2.1 d_History_keep_31 rfl (gl_at hl rfl) ?_
    refine g_get X kc_History h18 2 (by decide) lk_History_18 rfl d_History_keep_32 ?_
    refine lv_bipush (v := nI 120) X.1.1 X.1.2.1 d_History_keep_35 (by decide) ?_
    refine lv_imul X.1.1 X.1.2.1 d_History_keep_37 ?_
    refine g_top (nI (nw1 * 120)) (pk_mul _ _) ?_
    refine lv_iload_n X.1.1 X.1.2.1 d_History_keep_38 rfl (gl_at hl rfl) ?_
    refine g_copyi (A := (fun p => hb ≤ p ∧ p ≤ hb + 2)) X hl.1 mq_History_22.1 mq_History_22.2.1 mq_History_22.2.2.1 mq_History_22.2.2.2 0 hca hlt rfl 0 (nw1 * 120) xs.length (by omega) (by omega) (by decide) (by decide) (by decide) (by decide) d_History_keep_39 (show _ ∧ _ by omega) hL (fun H21 locs h22 z23 oq24 hL => ?_)
    replace h18 := h18.kept (oq24 _ (by omega))
    replace hln := hln.kept (oq24 _ (by omega))
    replace hca := hca.kept (oq24 _ (by omega))
    refine lv_aload_n X.1.1 X.1.2.1 d_History_keep_42 rfl (gl_at hl rfl) ?_
    refine g_get X kc_History h18 1 (by decide) lk_History_15 rfl d_History_keep_43 ?_
    refine lv_aload_n X.1.1 X.1.2.1 d_History_keep_46 rfl (gl_at hl rfl) ?_
    refine g_get X kc_History h18 2 (by decide) lk_History_18 rfl d_History_keep_47 ?_
    refine lv_iload_n X.1.1 X.1.2.1 d_History_keep_50 rfl (gl_at hl rfl) ?_
    refine g_iast (A := (fun p => hb ≤ p ∧ p ≤ hb + 2)) X 0 hln rfl nw1 (by omega) (by decide) d_History_keep_51 (show _ ∧ _ by omega) hL (fun H25 locs h26 z27 oq28 hL => ?_)
    replace h18 := h18.kept (oq28 _ (by omega))
    replace h22 := h22.kept (oq28 _ (by omega))
    replace hca := hca.kept (oq28 _ (by omega))
    refine lv_aload_n X.1.1 X.1.2.1 d_History_keep_52 rfl (gl_at hl rfl) ?_
    refine lv_aload_n X.1.1 X.1.2.1 d_History_keep_53 rfl (gl_at hl rfl) ?_
    refine g_get X kc_History h18 3 (by decide) lk_History_28 rfl d_History_keep_54 ?_
    refine lv_iconst (v := nI 1) X.1.1 X.1.2.1 d_History_keep_57 (by decide) ?_
    refine lv_iadd X.1.1 X.1.2.1 d_History_keep_58 ?_
    refine g_top (nI (us.length + 1)) (nI_add _ _) ?_
    refine lv_bipush (v := nI 20) X.1.1 X.1.2.1 d_History_keep_59 (by decide) ?_
    refine va_mmin X.1.1 X.1.2.1 (by rw [X.1.2.2.1]; exact hl.1.symm) X.1.2.2.2.1 (X.1.2.2.2.2 _ mm_History_31.1) (X.1.2.2.2.2 _ mm_History_31.2.1) (X.1.2.2.2.2 _ mm_History_31.2.2.1) (X.1.2.2.2.2 _ mm_History_31.2.2.2) (by decide) (Nat.le_of_ble_eq_true rfl) (by decide) (by decide) d_History_keep_61 ?_
    refine g_top (nI (if 20 < us.length + 1 then 20 else us.length + 1)) (gn_min (by omega) (by omega)) ?_
    refine g_put (A := (fun p => hb ≤ p ∧ p ≤ hb + 2)) X kc_History h18 3 (by decide) lk_History_28 rfl rfl rfl (Nat.le_of_ble_eq_true rfl) d_History_keep_64 (show _ ∧ _ by omega) hL (fun H29 locs h30 z31 oq32 hL => ?_)
    replace h22 := h22.kept (oq32 _ (by omega))
    replace h26 := h26.kept (oq32 _ (by omega))
    replace hca := hca.kept (oq32 _ (by omega))
    exact g_vret X B ⟨rfl, ⟨nw1, _, _, (by rw [his_len]; exact h30), h22, h26, hnw2, by rw [his_len]; split <;> omega, his_push hnw hus rfl hx hxc hf hr nw1 hnw1⟩, (z31.trans (z27.trans (z23.trans z19))), fun p hp => ((oq32 p (by omega)).trans ((oq28 p (by omega)).trans ((oq24 p (by omega)).trans (oq20 p (by omega)))))⟩ hL d_History_keep_67 (by omega) (by omega)

set_option maxHeartbeats 4000000 in
set_option maxRecDepth 100000 in
theorem c_History_giveBack (l : Launch) (D : va_G) (q : Nat → ClassId) (H : Heap) (hb : Nat) (u : List Nat) (us : List (List Nat)) (hh : hisA D q H hb (u :: us)) (ca : Nat) (f : Nat → Int32) (hca : va_at D CL (ca, .inl (q 0, 120, .inl f)) H) (hcb : ca < hb ∨ hb + 2 < ca) : gC l y_History_giveBack (Cond.code y_History_giveBack b_History_giveBack 3 (some .int) :: gWS) (gR 1 18 0 0) D CL (gY q) (fun _ => True) [.ref hb, .ref ca] H (fun v H1 => v = some (.int (nI u.length)) ∧ u.length ≤ 120 ∧ (∀ x ∈ u, x < 65536) ∧ (∃ f1, va_at D CL (ca, .inl (q 0, 120, .inl f1)) H1 ∧ tX f1 u) ∧ hisA D q H1 hb us ∧ H1.size = H.size ∧ ∀ p : Nat, ¬ ((hb ≤ p ∧ p ≤ hb + 2) ∨ p = ca) → H1[p]? = H[p]?) 0 0 (fun p => (hb ≤ p ∧ p ≤ hb + 2) ∨ p = ca) := by
  refine gC.ofW R_History "giveBack" (by decide) rfl rfl ?_
  intro p e s m below meth c hadm X hE hH B hne
  refine g_entry [some (.ref hb), some (.ref ca), none] rfl rfl (Nat.le_of_ble_eq_true rfl) (fun ls hl => ?_)
  obtain ⟨nw, h, ln, ho, hlt, hln, hnw, hus, hr⟩ := hh
  obtain ⟨u1, u2, u3, u4⟩ := hr 0 (by simp)
  have e0 : (u :: us).getD 0 [] = u := rfl
  rw [e0] at u1 u2 u3 u4
  rw [show (nw + 20 - 0) % 20 = nw by omega] at u3 u4
  have ho : va_at D CL (hb, .inr (7, [.ref (hb + 1), .ref (hb + 2), .int (nI nw), .int (nI (us.length + 1))])) H := ho
  have hus1 : us.length + 1 ≤ 20 := hus
  refine lv_aload_n X.1.1 X.1.2.1 d_History_giveBack_0 rfl (gl_at hl rfl) ?_
  refine g_get X kc_History ho 1 (by decide) lk_History_15 rfl d_History_giveBack_1 ?_
  refine lv_aload_n X.1.1 X.1.2.1 d_History_giveBack_4 rfl (gl_at hl rfl) ?_
  refine g_get X kc_History ho 2 (by decide) lk_History_18 rfl d_History_giveBack_5 ?_
  refine g_iald X 0 hln rfl nw (by omega) (by decide) d_History_giveBack_8 ?_
  refine g_top (nI u.length) u3 ?_
  refine g_istn X.1.1 X.1.2.1 hl 2 d_History_giveBack_9 rfl (Nat.le_of_ble_eq_true rfl) rfl (fun ls hl => ?_)
  refine lv_aload_n X.1.1 X.1.2.1 d_History_giveBack_10 rfl (gl_at hl rfl) ?_
  refine g_get X kc_History ho 0 (by decide) lk_History_9 rfl d_History_giveBack_11 ?_
  refine lv_aload_n X.1.1 X.1.2.1 d_History_giveBack_14 rfl (gl_at hl rfl) ?_
  refine g_get X kc_History ho 2 (by decide) lk_History_18 rfl d_History_giveBack_15 ?_
  refine lv_bipush (v := nI 120) X.1.1 X.1.2.1 d_History_giveBack_18 (by decide) ?_
  refine lv_imul X.1.1 X.1.2.1 d_History_giveBack_20 ?_
  refine g_top (nI (nw * 120)) (pk_mul _ _) ?_
  refine lv_aload_n X.1.1 X.1.2.1 d_History_giveBack_21 rfl (gl_at hl rfl) ?_
  refine lv_iconst (v := nI 0) X.1.1 X.1.2.1 d_History_giveBack_22 (by decide) ?_
  refine lv_iload_n X.1.1 X.1.2.1 d_History_giveBack_23 rfl (gl_at hl rfl) ?_
  refine g_copyi (A := (fun p => (hb ≤ p ∧ p ≤ hb + 2) ∨ p = ca)) X hl.1 mq_History_22.1 mq_History_22.2.1 mq_History_22.2.2.1 mq_History_22.2.2.2 0 hlt hca rfl (nw * 120) 0 u.length (by omega) (by omega) (by decide) (by decide) (by decide) (by decide) d_History_giveBack_24 (Or.inr rfl) (fun _ h => by cases h) (fun H1 locs h2 z3 oq4 hL => ?_)
  replace ho := ho.kept (oq4 _ (by omega))
  replace hlt := hlt.kept (oq4 _ (by omega))
  replace hln := hln.kept (oq4 _ (by omega))
  refine lv_aload_n X.1.1 X.1.2.1 d_History_giveBack_27 rfl (gl_at hl rfl) ?_
  refine lv_aload_n X.1.1 X.1.2.1 d_History_giveBack_28 rfl (gl_at hl rfl) ?_
  refine g_get X kc_History ho 2 (by decide) lk_History_18 rfl d_History_giveBack_29 ?_
  refine gn_le0 X.1.1 X.1.2.1 nw (by omega) d_History_giveBack_32 rfl (fun hc32 => ?_) (fun hc32 => ?_)
  · refine lv_bipush (v := nI 19) X.1.1 X.1.2.1 d_History_giveBack_44 (by decide) ?_
    obtain ⟨nw1, hnw1⟩ : ∃ z, z = (nw + 19) % 20 := ⟨_, rfl⟩
    refine g_top (nI nw1) (by rw [hnw1]; congr 1; omega) ?_
    have hnw2 : nw1 < 20 := by omega
    refine g_put (A := (fun p => (hb ≤ p ∧ p ≤ hb + 2) ∨ p = ca)) X kc_History ho 2 (by decide) lk_History_18 rfl rfl rfl (Nat.le_of_ble_eq_true rfl) d_History_giveBack_46 (Or.inl (show _ ∧ _ by omega)) hL (fun H5 locs h6 z7 oq8 hL => ?_)
    replace hlt := hlt.kept (oq8 _ (by omega))
    replace hln := hln.kept (oq8 _ (by omega))
    replace h2 := h2.kept (oq8 _ (by omega))
    refine lv_aload_n X.1.1 X.1.2.1 d_History_giveBack_49 rfl (gl_at hl rfl) ?_
    refine lv_dup X.1.1 X.1.2.1 d_History_giveBack_50 rfl ?_
    refine g_get X kc_History h6 3 (by decide) lk_History_28 rfl d_History_giveBack_51 ?_
    refine lv_iconst (v := nI 1) X.1.1 X.1.2.1 d_History_giveBack_54 (by decide) ?_
    refine lv_isub X.1.1 X.1.2.1 d_History_giveBack_55 ?_
    refine g_top (nI ((us.length + 1) - 1)) (pk_sub (by omega)) ?_
    refine g_top (nI us.length) rfl ?_
    refine g_put (A := (fun p => (hb ≤ p ∧ p ≤ hb + 2) ∨ p = ca)) X kc_History h6 3 (by decide) lk_History_28 rfl rfl rfl (Nat.le_of_ble_eq_true rfl) d_History_giveBack_56 (Or.inl (show _ ∧ _ by omega)) hL (fun H9 locs h10 z11 oq12 hL => ?_)
    replace hlt := hlt.kept (oq12 _ (by omega))
    replace hln := hln.kept (oq12 _ (by omega))
    replace h2 := h2.kept (oq12 _ (by omega))
    refine lv_iload_n X.1.1 X.1.2.1 d_History_giveBack_59 rfl (gl_at hl rfl) ?_
    exact g_iret X B ⟨rfl, u1, u2, ⟨_, h2, fun j hj => by rw [pk_cpy_in (Nat.zero_le _) (by omega), Nat.sub_zero]; exact u4 j hj⟩, ⟨nw1, h, ln, h10, hlt, hln, hnw2, by (have h9 : (u :: us).length = us.length + 1 := rfl); omega, his_pop hnw hus hr nw1 hnw1⟩, (z11.trans (z7.trans z3)), fun p hp => ((oq12 p (by omega)).trans ((oq8 p (by omega)).trans (oq4 p (by omega))))⟩ hL d_History_giveBack_60 (by omega) (by omega)
  · refine lv_aload_n X.1.1 X.1.2.1 d_History_giveBack_35 rfl (gl_at hl rfl) ?_
    refine g_get X kc_History ho 2 (by decide) lk_History_18 rfl d_History_giveBack_36 ?_
    refine lv_iconst (v := nI 1) X.1.1 X.1.2.1 d_History_giveBack_39 (by decide) ?_
    refine lv_isub X.1.1 X.1.2.1 d_History_giveBack_40 ?_
    refine g_top (nI (nw - 1)) (pk_sub (by omega)) ?_
    refine lv_goto X.1.1 X.1.2.1 d_History_giveBack_41 rfl ?_
    obtain ⟨nw1, hnw1⟩ : ∃ z, z = (nw + 19) % 20 := ⟨_, rfl⟩
    refine g_top (nI nw1) (by rw [hnw1]; congr 1; omega) ?_
    have hnw2 : nw1 < 20 := by omega
    refine g_put (A := (fun p => (hb ≤ p ∧ p ≤ hb + 2) ∨ p = ca)) X kc_History ho 2 (by decide) lk_History_18 rfl rfl rfl (Nat.le_of_ble_eq_true rfl) d_History_giveBack_46 (Or.inl (show _ ∧ _ by omega)) hL (fun H13 locs h14 z15 oq16 hL => ?_)
    replace hlt := hlt.kept (oq16 _ (by omega))
    replace hln := hln.kept (oq16 _ (by omega))
    replace h2 := h2.kept (oq16 _ (by omega))
    refine lv_aload_n X.1.1 X.1.2.1 d_History_giveBack_49 rfl (gl_at hl rfl) ?_
    refine lv_dup X.1.1 X.1.2.1 d_History_giveBack_50 rfl ?_
    refine g_get X kc_History h14 3 (by decide) lk_History_28 rfl d_History_giveBack_51 ?_
    refine lv_iconst (v := nI 1) X.1.1 X.1.2.1 d_History_giveBack_54 (by decide) ?_
    refine lv_isub X.1.1 X.1.2.1 d_History_giveBack_55 ?_
    refine g_top (nI ((us.length + 1) - 1)) (pk_sub (by omega)) ?_
    refine g_top (nI us.length) rfl ?_
    refine g_put (A := (fun p => (hb ≤ p ∧ p ≤ hb + 2) ∨ p = ca)) X kc_History h14 3 (by decide) lk_History_28 rfl rfl rfl (Nat.le_of_ble_eq_true rfl) d_History_giveBack_56 (Or.inl (show _ ∧ _ by omega)) hL (fun H17 locs h18 z19 oq20 hL => ?_)
    replace hlt := hlt.kept (oq20 _ (by omega))
    replace hln := hln.kept (oq20 _ (by omega))
    replace h2 := h2.kept (oq20 _ (by omega))
    refine lv_iload_n X.1.1 X.1.2.1 d_History_giveBack_59 rfl (gl_at hl rfl) ?_
    exact g_iret X B ⟨rfl, u1, u2, ⟨_, h2, fun j hj => by rw [pk_cpy_in (Nat.zero_le _) (by omega), Nat.sub_zero]; exact u4 j hj⟩, ⟨nw1, h, ln, h18, hlt, hln, hnw2, by (have h9 : (u :: us).length = us.length + 1 := rfl); omega, his_pop hnw hus hr nw1 hnw1⟩, (z19.trans (z15.trans z3)), fun p hp => ((oq20 p (by omega)).trans ((oq16 p (by omega)).trans (oq4 p (by omega))))⟩ hL d_History_giveBack_60 (by omega) (by omega)

set_option maxHeartbeats 4000000 in
set_option maxRecDepth 100000 in
theorem c_History_init (l : Launch) (D : va_G) (q : Nat → ClassId) (H : Heap) (hb : Nat) (hz : H.size = hb + 1) (ho : va_at D CL (hb, .inr (7, [.null, .null, .int 0, .int 0])) H) : gC l y_History_init (Cond.code y_History_init b_History_init 1 none :: gWS) (gR 1 12 2 2420) D CL (gY q) (fun _ => True) [.ref hb] H (fun v H1 => v = none ∧ hisA D q H1 hb [] ∧ H1.size = hb + 3 ∧ ∀ p : Nat, p < hb → H1[p]? = H[p]?) 2 2420 (fun p => hb ≤ p) := by
  refine gC.ofW R_History "<init>" (by decide) rfl rfl ?_
  intro p e s m below meth c hadm X hE hH B hne
  refine g_entry [some (.ref hb)] rfl rfl (Nat.le_of_ble_eq_true rfl) (fun ls hl => ?_)
  refine lv_aload_n X.1.1 X.1.2.1 d_History_init_0 rfl (gl_at hl rfl) ?_
  refine W.objInit X.1.1 X.1.2.1 X.1.2.2.2.1 (X.1.2.2.2.2 _ mo_History_3.1) (X.1.2.2.2.2 _ mo_History_3.2.1) (X.1.2.2.2.2 _ mo_History_3.2.2) rfl (by rw [X.1.2.2.1]; exact hl.1) rfl d_History_init_1 (Nat.le_of_ble_eq_true rfl) (Nat.le_of_ble_eq_true rfl) ?_
  refine W.eq (g2 := F0 m 4 ls []) rfl ?_
  refine lv_aload_n X.1.1 X.1.2.1 d_History_init_4 rfl (gl_at hl rfl) ?_
  refine lv_sipush (v := nI 2400) X.1.1 X.1.2.1 d_History_init_5 (by decide) ?_
  refine g_newi X 0 rfl ka_int 2400 (by decide) (Nat.le_of_ble_eq_true rfl) (Nat.le_of_ble_eq_true rfl) d_History_init_8 (fun H1 h2 z3 o4 => ?_)
  rw [hz] at h2 z3 o4 ⊢
  replace ho := ho.kept (o4 _ (by omega))
  refine g_putF (A := (fun p => hb ≤ p)) X B.2.2 kc_History ho 0 (by decide) lk_History_9 rfl rfl rfl rfl (Nat.le_of_ble_eq_true rfl) d_History_init_10 (show hb ≤ _ by omega) (fun _ h => by cases h) (fun H5 locs h6 z7 oq8 hL => ?_)
  replace h2 := h2.kept (oq8 _ (by omega))
  have hz9 := z7.trans z3
  refine lv_aload_n X.1.1 X.1.2.1 d_History_init_13 rfl (gl_at hl rfl) ?_
  refine lv_bipush (v := nI 20) X.1.1 X.1.2.1 d_History_init_14 (by decide) ?_
  refine g_newi X 0 rfl ka_int 20 (by decide) (Nat.le_of_ble_eq_true rfl) (Nat.le_of_ble_eq_true rfl) d_History_init_16 (fun H10 h11 z12 o13 => ?_)
  rw [hz9] at h11 z12 o13 ⊢
  replace h6 := h6.kept (o13 _ (by omega))
  replace h2 := h2.kept (o13 _ (by omega))
  refine g_putF (A := (fun p => hb ≤ p)) X B.2.2 kc_History h6 1 (by decide) lk_History_15 rfl rfl rfl rfl (Nat.le_of_ble_eq_true rfl) d_History_init_18 (show hb ≤ _ by omega) hL (fun H14 locs h15 z16 oq17 hL => ?_)
  replace h2 := h2.kept (oq17 _ (by omega))
  replace h11 := h11.kept (oq17 _ (by omega))
  have hz18 := z16.trans z12
  exact g_vret X B ⟨rfl, ⟨0, _, _, h15, h2, h11, by omega, by simp, fun i hi => absurd hi (Nat.not_lt_zero i)⟩, by omega, fun p hp => ((oq17 p (by omega)).trans ((o13 p (by omega)).trans ((oq8 p (by omega)).trans (o4 p (by omega)))))⟩ hL d_History_init_21 (by omega) (by omega)
