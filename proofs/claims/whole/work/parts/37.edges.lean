/-! the class Edges: printed by wip/specs/edges.py -/
set_option maxHeartbeats 4000000 in
set_option maxRecDepth 100000 in
theorem c_Edges_countSharedBytes (l : Launch) (D : va_G) (q : Nat → ClassId) (H : Heap) (eb : Nat) (a b : Nat) (xs ys : List Nat) (hxs : kA D q H a xs) (hys : kA D q H b ys) : gC l y_Edges_countSharedBytes (Cond.code y_Edges_countSharedBytes b_Edges_countSharedBytes 5 (some .int) :: gWS) (gR 1 22 0 0) D CL (gY q) (fun _ => True) [.ref eb, .ref a, .ref b] H (fun v H1 => v = some (.int (nI (e_sb xs ys))) ∧ H1 = H) 0 0 (fun _ => False) := by
  refine gC.ofW R_Edges "countSharedBytes" (by decide) rfl rfl ?_
  intro p e s m below meth c hadm X hE hH B hne
  refine g_entry [some (.ref eb), some (.ref a), some (.ref b), none, none] rfl rfl (Nat.le_of_ble_eq_true rfl) (fun ls hl => ?_)
  have hxs0 := hxs
  have hys0 := hys
  obtain ⟨ha, ⟨fa, hla, hfa⟩, hxl, hxc⟩ := hxs
  obtain ⟨hb, ⟨fb, hlb, hfb⟩, hyl, hyc⟩ := hys
  have i1 := t_lcp_le1 xs ys
  have i2 := t_lcp_le2 xs ys
  have e1 := t_lt hxc (t_lcp xs ys)
  have e2 := t_lt hyc (t_lcp xs ys)
  refine lv_aload_n X.1.1 X.1.2.1 d_Edges_countSharedBytes_0 rfl (gl_at hl rfl) ?_
  refine lv_aload_n X.1.1 X.1.2.1 d_Edges_countSharedBytes_1 rfl (gl_at hl rfl) ?_
  refine g_cv (A := (fun _ => False)) X gWS_good mw_Edges_41 kc_Key ha (c_Key_shared l D q H a b xs ys hxs0 hys0) (fun _ _ _ => trivial) gBlind.tt rfl rfl hl.1 (Nat.le_of_ble_eq_true rfl) rfl rfl ⟨by decide, by decide⟩ ⟨by decide, by decide⟩ d_Edges_countSharedBytes_2 (fun _ h => h.elim) (fun _ h => by cases h) (fun v1 H2 locs hp3 hL => ?_)
  obtain ⟨rfl, hHe⟩ := hp3
  rw [hHe]
  refine g_istn X.1.1 X.1.2.1 hl 3 d_Edges_countSharedBytes_5 rfl (Nat.le_of_ble_eq_true rfl) rfl (fun ls hl => ?_)
  refine lv_iload_n X.1.1 X.1.2.1 d_Edges_countSharedBytes_6 rfl (gl_at hl rfl) ?_
  refine lv_aload_n X.1.1 X.1.2.1 d_Edges_countSharedBytes_7 rfl (gl_at hl rfl) ?_
  refine g_get X kc_Key ha 1 (by decide) lk_Edges_47 rfl d_Edges_countSharedBytes_8 ?_
  refine gn_eq X.1.1 X.1.2.1 (t_lcp xs ys) xs.length (by omega) (by omega) d_Edges_countSharedBytes_11 rfl (fun hc11 => ?_) (fun hc11 => ?_)
  · refine lv_iconst (v := nI 2) X.1.1 X.1.2.1 d_Edges_countSharedBytes_22 (by decide) ?_
    refine lv_iload_n X.1.1 X.1.2.1 d_Edges_countSharedBytes_23 rfl (gl_at hl rfl) ?_
    refine lv_imul X.1.1 X.1.2.1 d_Edges_countSharedBytes_24 ?_
    refine g_top (nI (2 * (t_lcp xs ys))) (pk_mul _ _) ?_
    exact g_iret X B ⟨by unfold e_sb; rw [if_pos (by omega)], rfl⟩ hL d_Edges_countSharedBytes_25 (by omega) (by omega)
  · refine lv_iload_n X.1.1 X.1.2.1 d_Edges_countSharedBytes_14 rfl (gl_at hl rfl) ?_
    refine lv_aload_n X.1.1 X.1.2.1 d_Edges_countSharedBytes_15 rfl (gl_at hl rfl) ?_
    refine g_get X kc_Key hb 1 (by decide) lk_Edges_47 rfl d_Edges_countSharedBytes_16 ?_
    refine gn_ne X.1.1 X.1.2.1 (t_lcp xs ys) ys.length (by omega) (by omega) d_Edges_countSharedBytes_19 rfl (fun hc19 => ?_) (fun hc19 => ?_)
    · refine lv_aload_n X.1.1 X.1.2.1 d_Edges_countSharedBytes_26 rfl (gl_at hl rfl) ?_
      refine g_get X kc_Key ha 0 (by decide) lk_Edges_50 rfl d_Edges_countSharedBytes_27 ?_
      refine lv_iload_n X.1.1 X.1.2.1 d_Edges_countSharedBytes_30 rfl (gl_at hl rfl) ?_
      refine g_iald X 0 hla rfl (t_lcp xs ys) (by omega) (by decide) d_Edges_countSharedBytes_31 ?_
      refine g_top (nI (xs.getD (t_lcp xs ys) 0)) (hfa _ (by omega)) ?_
      refine lv_bipush (v := nI 8) X.1.1 X.1.2.1 d_Edges_countSharedBytes_32 (by decide) ?_
      refine lv_ishr X.1.1 X.1.2.1 d_Edges_countSharedBytes_34 ?_
      refine g_top (nI ((xs.getD (t_lcp xs ys) 0) / 2 ^ 8)) (ex_shr (by omega) (by decide)) ?_
      refine lv_aload_n X.1.1 X.1.2.1 d_Edges_countSharedBytes_35 rfl (gl_at hl rfl) ?_
      refine g_get X kc_Key hb 0 (by decide) lk_Edges_50 rfl d_Edges_countSharedBytes_36 ?_
      refine lv_iload_n X.1.1 X.1.2.1 d_Edges_countSharedBytes_39 rfl (gl_at hl rfl) ?_
      refine g_iald X 0 hlb rfl (t_lcp xs ys) (by omega) (by decide) d_Edges_countSharedBytes_40 ?_
      refine g_top (nI (ys.getD (t_lcp xs ys) 0)) (hfb _ (by omega)) ?_
      refine lv_bipush (v := nI 8) X.1.1 X.1.2.1 d_Edges_countSharedBytes_41 (by decide) ?_
      refine lv_ishr X.1.1 X.1.2.1 d_Edges_countSharedBytes_43 ?_
      refine g_top (nI ((ys.getD (t_lcp xs ys) 0) / 2 ^ 8)) (ex_shr (by omega) (by decide)) ?_
      refine gn_ne X.1.1 X.1.2.1 ((xs.getD (t_lcp xs ys) 0) / 2 ^ 8) ((ys.getD (t_lcp xs ys) 0) / 2 ^ 8) (by omega) (by omega) d_Edges_countSharedBytes_44 rfl (fun hc44 => ?_) (fun hc44 => ?_)
      · refine lv_iconst (v := nI 0) X.1.1 X.1.2.1 d_Edges_countSharedBytes_51 (by decide) ?_
        refine g_ist X.1.1 X.1.2.1 hl 4 d_Edges_countSharedBytes_52 (Nat.le_of_ble_eq_true rfl) rfl (fun ls hl => ?_)
        refine lv_iconst (v := nI 2) X.1.1 X.1.2.1 d_Edges_countSharedBytes_54 (by decide) ?_
        refine lv_iload_n X.1.1 X.1.2.1 d_Edges_countSharedBytes_55 rfl (gl_at hl rfl) ?_
        refine lv_imul X.1.1 X.1.2.1 d_Edges_countSharedBytes_56 ?_
        refine g_top (nI (2 * (t_lcp xs ys))) (pk_mul _ _) ?_
        refine lv_iload X.1.1 X.1.2.1 d_Edges_countSharedBytes_57 (gl_at hl rfl) ?_
        refine gn_eq0 X.1.1 X.1.2.1 0 (by omega) d_Edges_countSharedBytes_59 rfl (fun hc59 => ?_) (fun hc59 => ?_)
        · refine lv_iconst (v := nI 0) X.1.1 X.1.2.1 d_Edges_countSharedBytes_66 (by decide) ?_
          refine lv_iadd X.1.1 X.1.2.1 d_Edges_countSharedBytes_67 ?_
          refine g_top (nI ((2 * (t_lcp xs ys)) + 0)) (nI_add _ _) ?_
          exact g_iret X B ⟨by unfold e_sb; rw [if_neg (by omega)]; first | rw [if_pos (show _ / 256 = _ / 256 from hc44)] | rw [if_neg (show ¬ _ / 256 = _ / 256 from hc44)], rfl⟩ hL d_Edges_countSharedBytes_68 (by omega) (by omega)
        · omega
      · refine lv_iconst (v := nI 1) X.1.1 X.1.2.1 d_Edges_countSharedBytes_47 (by decide) ?_
        refine lv_goto X.1.1 X.1.2.1 d_Edges_countSharedBytes_48 rfl ?_
        refine g_ist X.1.1 X.1.2.1 hl 4 d_Edges_countSharedBytes_52 (Nat.le_of_ble_eq_true rfl) rfl (fun ls hl => ?_)
        refine lv_iconst (v := nI 2) X.1.1 X.1.2.1 d_Edges_countSharedBytes_54 (by decide) ?_
        refine lv_iload_n X.1.1 X.1.2.1 d_Edges_countSharedBytes_55 rfl (gl_at hl rfl) ?_
        refine lv_imul X.1.1 X.1.2.1 d_Edges_countSharedBytes_56 ?_
        refine g_top (nI (2 * (t_lcp xs ys))) (pk_mul _ _) ?_
        refine lv_iload X.1.1 X.1.2.1 d_Edges_countSharedBytes_57 (gl_at hl rfl) ?_
        refine gn_eq0 X.1.1 X.1.2.1 1 (by omega) d_Edges_countSharedBytes_59 rfl (fun hc59 => ?_) (fun hc59 => ?_)
        · omega
        · refine lv_iconst (v := nI 1) X.1.1 X.1.2.1 d_Edges_countSharedBytes_62 (by decide) ?_
          refine lv_goto X.1.1 X.1.2.1 d_Edges_countSharedBytes_63 rfl ?_
          refine lv_iadd X.1.1 X.1.2.1 d_Edges_countSharedBytes_67 ?_
          refine g_top (nI ((2 * (t_lcp xs ys)) + 1)) (nI_add _ _) ?_
          exact g_iret X B ⟨by unfold e_sb; rw [if_neg (by omega)]; first | rw [if_pos (show _ / 256 = _ / 256 from hc44)] | rw [if_neg (show ¬ _ / 256 = _ / 256 from hc44)], rfl⟩ hL d_Edges_countSharedBytes_68 (by omega) (by omega)
    · refine lv_iconst (v := nI 2) X.1.1 X.1.2.1 d_Edges_countSharedBytes_22 (by decide) ?_
      refine lv_iload_n X.1.1 X.1.2.1 d_Edges_countSharedBytes_23 rfl (gl_at hl rfl) ?_
      refine lv_imul X.1.1 X.1.2.1 d_Edges_countSharedBytes_24 ?_
      refine g_top (nI (2 * (t_lcp xs ys))) (pk_mul _ _) ?_
      exact g_iret X B ⟨by unfold e_sb; rw [if_pos (by omega)], rfl⟩ hL d_Edges_countSharedBytes_25 (by omega) (by omega)

set_option maxHeartbeats 4000000 in
set_option maxRecDepth 100000 in
theorem c_Edges_firstDifferentBit (l : Launch) (D : va_G) (q : Nat → ClassId) (H : Heap) (eb : Nat) (a b : Nat) (xs ys : List Nat) (hxs : kA D q H a xs) (hys : kA D q H b ys) : gC l y_Edges_firstDifferentBit (Cond.code y_Edges_firstDifferentBit b_Edges_firstDifferentBit 7 (some .int) :: gWS) (gR 1 22 0 0) D CL (gY q) (fun _ => True) [.ref eb, .ref a, .ref b] H (fun v H1 => v = some (.int (nI (e_fdb xs ys))) ∧ H1 = H) 0 0 (fun _ => False) := by
  refine gC.ofW R_Edges "firstDifferentBit" (by decide) rfl rfl ?_
  intro p e s m below meth c hadm X hE hH B hne
  refine g_entry [some (.ref eb), some (.ref a), some (.ref b), none, none, none, none] rfl rfl (Nat.le_of_ble_eq_true rfl) (fun ls hl => ?_)
  have hxs0 := hxs
  have hys0 := hys
  obtain ⟨ha, ⟨fa, hla, hfa⟩, hxl, hxc⟩ := hxs
  obtain ⟨hb, ⟨fb, hlb, hfb⟩, hyl, hyc⟩ := hys
  have i1 := t_lcp_le1 xs ys
  have i2 := t_lcp_le2 xs ys
  have e1 := t_lt hxc (t_lcp xs ys)
  have e2 := t_lt hyc (t_lcp xs ys)
  refine lv_aload_n X.1.1 X.1.2.1 d_Edges_firstDifferentBit_0 rfl (gl_at hl rfl) ?_
  refine lv_aload_n X.1.1 X.1.2.1 d_Edges_firstDifferentBit_1 rfl (gl_at hl rfl) ?_
  refine g_cv (A := (fun _ => False)) X gWS_good mw_Edges_41 kc_Key ha (c_Key_shared l D q H a b xs ys hxs0 hys0) (fun _ _ _ => trivial) gBlind.tt rfl rfl hl.1 (Nat.le_of_ble_eq_true rfl) rfl rfl ⟨by decide, by decide⟩ ⟨by decide, by decide⟩ d_Edges_firstDifferentBit_2 (fun _ h => h.elim) (fun _ h => by cases h) (fun v1 H2 locs hp3 hL => ?_)
  obtain ⟨rfl, hHe⟩ := hp3
  rw [hHe]
  refine g_istn X.1.1 X.1.2.1 hl 3 d_Edges_firstDifferentBit_5 rfl (Nat.le_of_ble_eq_true rfl) rfl (fun ls hl => ?_)
  refine lv_iload_n X.1.1 X.1.2.1 d_Edges_firstDifferentBit_6 rfl (gl_at hl rfl) ?_
  refine lv_bipush (v := nI 17) X.1.1 X.1.2.1 d_Edges_firstDifferentBit_7 (by decide) ?_
  refine lv_imul X.1.1 X.1.2.1 d_Edges_firstDifferentBit_9 ?_
  refine g_top (nI ((t_lcp xs ys) * 17)) (pk_mul _ _) ?_
  refine g_ist X.1.1 X.1.2.1 hl 4 d_Edges_firstDifferentBit_10 (Nat.le_of_ble_eq_true rfl) rfl (fun ls hl => ?_)
  refine lv_iload_n X.1.1 X.1.2.1 d_Edges_firstDifferentBit_12 rfl (gl_at hl rfl) ?_
  refine lv_aload_n X.1.1 X.1.2.1 d_Edges_firstDifferentBit_13 rfl (gl_at hl rfl) ?_
  refine g_get X kc_Key ha 1 (by decide) lk_Edges_47 rfl d_Edges_firstDifferentBit_14 ?_
  refine gn_eq X.1.1 X.1.2.1 (t_lcp xs ys) xs.length (by omega) (by omega) d_Edges_firstDifferentBit_17 rfl (fun hc17 => ?_) (fun hc17 => ?_)
  · refine lv_iload X.1.1 X.1.2.1 d_Edges_firstDifferentBit_28 (gl_at hl rfl) ?_
    exact g_iret X B ⟨by unfold e_fdb; rw [if_pos (by omega)], rfl⟩ hL d_Edges_firstDifferentBit_30 (by omega) (by omega)
  · refine lv_iload_n X.1.1 X.1.2.1 d_Edges_firstDifferentBit_20 rfl (gl_at hl rfl) ?_
    refine lv_aload_n X.1.1 X.1.2.1 d_Edges_firstDifferentBit_21 rfl (gl_at hl rfl) ?_
    refine g_get X kc_Key hb 1 (by decide) lk_Edges_47 rfl d_Edges_firstDifferentBit_22 ?_
    refine gn_ne X.1.1 X.1.2.1 (t_lcp xs ys) ys.length (by omega) (by omega) d_Edges_firstDifferentBit_25 rfl (fun hc25 => ?_) (fun hc25 => ?_)
    · refine lv_aload_n X.1.1 X.1.2.1 d_Edges_firstDifferentBit_31 rfl (gl_at hl rfl) ?_
      refine g_get X kc_Key ha 0 (by decide) lk_Edges_50 rfl d_Edges_firstDifferentBit_32 ?_
      refine lv_iload_n X.1.1 X.1.2.1 d_Edges_firstDifferentBit_35 rfl (gl_at hl rfl) ?_
      refine g_iald X 0 hla rfl (t_lcp xs ys) (by omega) (by decide) d_Edges_firstDifferentBit_36 ?_
      refine g_top (nI (xs.getD (t_lcp xs ys) 0)) (hfa _ (by omega)) ?_
      refine lv_aload_n X.1.1 X.1.2.1 d_Edges_firstDifferentBit_37 rfl (gl_at hl rfl) ?_
      refine g_get X kc_Key hb 0 (by decide) lk_Edges_50 rfl d_Edges_firstDifferentBit_38 ?_
      refine lv_iload_n X.1.1 X.1.2.1 d_Edges_firstDifferentBit_41 rfl (gl_at hl rfl) ?_
      refine g_iald X 0 hlb rfl (t_lcp xs ys) (by omega) (by decide) d_Edges_firstDifferentBit_42 ?_
      refine g_top (nI (ys.getD (t_lcp xs ys) 0)) (hfb _ (by omega)) ?_
      refine lv_ixor X.1.1 X.1.2.1 d_Edges_firstDifferentBit_43 ?_
      obtain ⟨xo, hxo⟩ : ∃ z, z = xs.getD (t_lcp xs ys) 0 ^^^ ys.getD (t_lcp xs ys) 0 := ⟨_, rfl⟩
      have hxo2 : xo < 2 ^ 16 := by rw [hxo]; exact Nat.xor_lt_two_pow (by omega) (by omega)
      refine g_top (nI xo) (by rw [hxo]; exact ex_xor _ _) ?_
      refine g_ist X.1.1 X.1.2.1 hl 5 d_Edges_firstDifferentBit_44 (Nat.le_of_ble_eq_true rfl) rfl (fun ls hl => ?_)
      refine lv_bipush (v := nI 15) X.1.1 X.1.2.1 d_Edges_firstDifferentBit_46 (by decide) ?_
      refine g_ist X.1.1 X.1.2.1 hl 6 d_Edges_firstDifferentBit_48 (Nat.le_of_ble_eq_true rfl) rfl (fun ls hl => ?_)
      have loop50 : ∀ (fu : Nat) (i : Nat) (ls : Array Slot), i < fu → (i ≤ 15) → (e_hb xo 15 = e_hb xo i) →  gl ls [some (.ref eb), some (.ref a), some (.ref b), some (.int (nI (t_lcp xs ys))), some (.int (nI ((t_lcp xs ys) * 17))), some (.int (nI xo)), some (.int (nI i))] → W p l e (gR 1 22 0 0) s m ([.ref eb, .ref a, .ref b] : List Value).toArray below meth c H locs 0 0 (gQ below ([.ref eb, .ref a, .ref b] : List Value).toArray s (fun v H1 => v = some (.int (nI (e_fdb xs ys))) ∧ H1 = H) 0 0 (fun _ => False)) (F0 m 50 ls []) := by
        intro fu
        induction fu with
        | zero => intro i ls hmu; omega
        | succ fu ih50 =>
          intro i ls hmu50 hi50_0 hi50_1 hl
          refine lv_iload X.1.1 X.1.2.1 d_Edges_firstDifferentBit_50 (gl_at hl rfl) ?_
          refine gn_le0 X.1.1 X.1.2.1 i (by omega) d_Edges_firstDifferentBit_52 rfl (fun hc52 => ?_) (fun hc52 => ?_)
          · refine lv_iload X.1.1 X.1.2.1 d_Edges_firstDifferentBit_69 (gl_at hl rfl) ?_
            refine lv_bipush (v := nI 16) X.1.1 X.1.2.1 d_Edges_firstDifferentBit_71 (by decide) ?_
            refine lv_iadd X.1.1 X.1.2.1 d_Edges_firstDifferentBit_73 ?_
            refine g_top (nI (((t_lcp xs ys) * 17) + 16)) (nI_add _ _) ?_
            refine lv_iload X.1.1 X.1.2.1 d_Edges_firstDifferentBit_74 (gl_at hl rfl) ?_
            refine lv_isub X.1.1 X.1.2.1 d_Edges_firstDifferentBit_76 ?_
            refine g_top (nI ((((t_lcp xs ys) * 17) + 16) - i)) (pk_sub (by omega)) ?_
            exact g_iret X B ⟨by unfold e_fdb; rw [if_neg (by omega), ← hxo, hi50_1]; first | (rw [hc52]; rfl) | (obtain ⟨i, rfl⟩ : ∃ z, i = z + 1 := ⟨i - 1, by omega⟩; rw [e_hb, if_neg hc60]), rfl⟩ hL d_Edges_firstDifferentBit_77 (by omega) (by omega)
          · refine lv_iload X.1.1 X.1.2.1 d_Edges_firstDifferentBit_55 (gl_at hl rfl) ?_
            refine lv_iload X.1.1 X.1.2.1 d_Edges_firstDifferentBit_57 (gl_at hl rfl) ?_
            refine lv_ishr X.1.1 X.1.2.1 d_Edges_firstDifferentBit_59 ?_
            refine g_top (nI (xo / 2 ^ i)) (ex_shr (by omega) (by omega)) ?_
            have hdv : xo / 2 ^ i ≤ xo := Nat.div_le_self _ _
            refine gn_ne0 X.1.1 X.1.2.1 (xo / 2 ^ i) (by omega) d_Edges_firstDifferentBit_60 rfl (fun hc60 => ?_) (fun hc60 => ?_)
            · refine lv_iload X.1.1 X.1.2.1 d_Edges_firstDifferentBit_69 (gl_at hl rfl) ?_
              refine lv_bipush (v := nI 16) X.1.1 X.1.2.1 d_Edges_firstDifferentBit_71 (by decide) ?_
              refine lv_iadd X.1.1 X.1.2.1 d_Edges_firstDifferentBit_73 ?_
              refine g_top (nI (((t_lcp xs ys) * 17) + 16)) (nI_add _ _) ?_
              refine lv_iload X.1.1 X.1.2.1 d_Edges_firstDifferentBit_74 (gl_at hl rfl) ?_
              refine lv_isub X.1.1 X.1.2.1 d_Edges_firstDifferentBit_76 ?_
              refine g_top (nI ((((t_lcp xs ys) * 17) + 16) - i)) (pk_sub (by omega)) ?_
              exact g_iret X B ⟨by unfold e_fdb; rw [if_neg (by omega), ← hxo, hi50_1]; first | (rw [hc52]; rfl) | (obtain ⟨i, rfl⟩ : ∃ z, i = z + 1 := ⟨i - 1, by omega⟩; rw [e_hb, if_neg hc60]), rfl⟩ hL d_Edges_firstDifferentBit_77 (by omega) (by omega)
            · refine g_iinc X.1.1 X.1.2.1 (nI (i - 1)) hl 6 d_Edges_firstDifferentBit_63 rfl (gn_dec 1 (by omega)) rfl (fun ls hl => ?_)
              refine lv_goto X.1.1 X.1.2.1 d_Edges_firstDifferentBit_66 rfl ?_
              exact ih50 (i - 1) ls (by omega) (by omega) (by rw [hi50_1]; obtain ⟨i, rfl⟩ : ∃ z, i = z + 1 := ⟨i - 1, by omega⟩; rw [e_hb, if_pos hc60]; rfl) hl
      exact loop50 _ 15 ls (Nat.lt_succ_self _) (by omega) rfl hl
    · refine lv_iload X.1.1 X.1.2.1 d_Edges_firstDifferentBit_28 (gl_at hl rfl) ?_
      exact g_iret X B ⟨by unfold e_fdb; rw [if_pos (by omega)], rfl⟩ hL d_Edges_firstDifferentBit_30 (by omega) (by omega)

theorem e_if {c : Prop} (d : Decidable c) : narrow .boolean (.int (nI (@ite _ c d 1 0))) = .int (nI (@ite _ c d 1 0)) := @gz_if c d

set_option maxHeartbeats 4000000 in
set_option maxRecDepth 100000 in
theorem c_Edges_isNewText (l : Launch) (D : va_G) (q : Nat → ClassId) (H : Heap) (eb : Nat) (S : Nat → Int32) (ho : va_at D CL (eb, .inr (4, [.ref (eb + 1), .ref (eb + 2)])) H) (hS : va_at D CL (eb + 1, .inl (q 0, 64, .inl S)) H) (sb : Nat → Nat) (pairs : Nat) (hpr : pairs ≤ 63) (hSb : ∀ j, j < pairs → S j = nI (sb j)) (hsb : ∀ j, sb j ≤ 17) (i : Nat) (hi : i < pairs) : gC l y_Edges_isNewText (Cond.code y_Edges_isNewText b_Edges_isNewText 3 (some .boolean) :: gWS) (gR 0 0 0 0) D CL (gY q) (fun _ => True) [.ref eb, .int (nI i)] H (fun v H1 => v = some (.int (nI (@ite _ (e_new sb i) (e_newd sb i) 1 0))) ∧ H1 = H) 0 0 (fun _ => False) := by
  refine gC.ofW R_Edges "isNewText" (by decide) rfl rfl ?_
  intro p e s m below meth c hadm X hE hH B hne
  refine g_entry [some (.ref eb), some (.int (nI i)), none] rfl rfl (Nat.le_of_ble_eq_true rfl) (fun ls hl => ?_)
  refine lv_iload_n X.1.1 X.1.2.1 d_Edges_isNewText_0 rfl (gl_at hl rfl) ?_
  refine lv_iconst (v := nI 1) X.1.1 X.1.2.1 d_Edges_isNewText_1 (by decide) ?_
  refine lv_isub X.1.1 X.1.2.1 d_Edges_isNewText_2 ?_
  refine g_istn X.1.1 X.1.2.1 hl 2 d_Edges_isNewText_3 rfl (Nat.le_of_ble_eq_true rfl) rfl (fun ls hl => ?_)
  have loop4 : ∀ (fu : Nat) (k : Nat) (ls : Array Slot), k < fu → (k ≤ i) → (∀ t, k ≤ t → t < i → sb i < sb t) →  gl ls [some (.ref eb), some (.int (nI i)), some (.int (nI k - 1))] → W p l e (gR 0 0 0 0) s m ([.ref eb, .int (nI i)] : List Value).toArray below meth c H [] 0 0 (gQ below ([.ref eb, .int (nI i)] : List Value).toArray s (fun v H1 => v = some (.int (nI (@ite _ (e_new sb i) (e_newd sb i) 1 0))) ∧ H1 = H) 0 0 (fun _ => False)) (F0 m 4 ls []) := by
    intro fu
    induction fu with
    | zero => intro k ls hmu; omega
    | succ fu ih4 =>
      intro k ls hmu4 hi4_0 hi4_1 hl
      refine lv_iload_n X.1.1 X.1.2.1 d_Edges_isNewText_4 rfl (gl_at hl rfl) ?_
      refine lv_if_lt X.1.1 X.1.2.1 d_Edges_isNewText_5 rfl (fun hc5 => ?_) (fun hc5 => ?_)
      · refine lv_iconst (v := nI 1) X.1.1 X.1.2.1 d_Edges_isNewText_46 (by decide) ?_
        exact g_zret X B (by decide) ⟨by rw [@if_pos _ (e_newd sb i) (e_new_t hi4_0 hi4_1 (by first | (intro h9; exact absurd (gs_lt (by omega) hc5) (by omega)) | exact fun _ => hc20))], rfl⟩ (fun _ h => by cases h) d_Edges_isNewText_47 (by omega) (by omega)
      · have hk0 := gs_nlt hc5
        rw [gs_pos hk0] at hl
        refine lv_aload_n X.1.1 X.1.2.1 d_Edges_isNewText_8 rfl (gl_at hl rfl) ?_
        refine g_get X kc_Edges ho 0 (by decide) lk_Edges_9 rfl d_Edges_isNewText_9 ?_
        refine lv_iload_n X.1.1 X.1.2.1 d_Edges_isNewText_12 rfl (gl_at hl rfl) ?_
        refine g_iald X 0 hS rfl (k - 1) (by omega) (by decide) d_Edges_isNewText_13 ?_
        have q1 := hsb (k - 1)
        refine g_top (nI (sb (k - 1))) (hSb _ (by omega)) ?_
        refine lv_aload_n X.1.1 X.1.2.1 d_Edges_isNewText_14 rfl (gl_at hl rfl) ?_
        refine g_get X kc_Edges ho 0 (by decide) lk_Edges_9 rfl d_Edges_isNewText_15 ?_
        refine lv_iload_n X.1.1 X.1.2.1 d_Edges_isNewText_18 rfl (gl_at hl rfl) ?_
        refine g_iald X 0 hS rfl i (by omega) (by decide) d_Edges_isNewText_19 ?_
        have q2 := hsb i
        refine g_top (nI (sb i)) (hSb _ (by omega)) ?_
        refine gn_lt X.1.1 X.1.2.1 (sb (k - 1)) (sb i) (by omega) (by omega) d_Edges_isNewText_20 rfl (fun hc20 => ?_) (fun hc20 => ?_)
        · refine lv_iconst (v := nI 1) X.1.1 X.1.2.1 d_Edges_isNewText_46 (by decide) ?_
          exact g_zret X B (by decide) ⟨by rw [@if_pos _ (e_newd sb i) (e_new_t hi4_0 hi4_1 (by first | (intro h9; exact absurd (gs_lt (by omega) hc5) (by omega)) | exact fun _ => hc20))], rfl⟩ (fun _ h => by cases h) d_Edges_isNewText_47 (by omega) (by omega)
        · refine lv_aload_n X.1.1 X.1.2.1 d_Edges_isNewText_23 rfl (gl_at hl rfl) ?_
          refine g_get X kc_Edges ho 0 (by decide) lk_Edges_9 rfl d_Edges_isNewText_24 ?_
          refine lv_iload_n X.1.1 X.1.2.1 d_Edges_isNewText_27 rfl (gl_at hl rfl) ?_
          refine g_iald X 0 hS rfl (k - 1) (by omega) (by decide) d_Edges_isNewText_28 ?_
          have q1 := hsb (k - 1)
          refine g_top (nI (sb (k - 1))) (hSb _ (by omega)) ?_
          refine lv_aload_n X.1.1 X.1.2.1 d_Edges_isNewText_29 rfl (gl_at hl rfl) ?_
          refine g_get X kc_Edges ho 0 (by decide) lk_Edges_9 rfl d_Edges_isNewText_30 ?_
          refine lv_iload_n X.1.1 X.1.2.1 d_Edges_isNewText_33 rfl (gl_at hl rfl) ?_
          refine g_iald X 0 hS rfl i (by omega) (by decide) d_Edges_isNewText_34 ?_
          have q2 := hsb i
          refine g_top (nI (sb i)) (hSb _ (by omega)) ?_
          refine gn_ne X.1.1 X.1.2.1 (sb (k - 1)) (sb i) (by omega) (by omega) d_Edges_isNewText_35 rfl (fun hc35 => ?_) (fun hc35 => ?_)
          · refine g_iinc X.1.1 X.1.2.1 (nI (k - 1) - 1) hl 2 d_Edges_isNewText_40 rfl (gs_inc _) rfl (fun ls hl => ?_)
            refine lv_goto X.1.1 X.1.2.1 d_Edges_isNewText_43 rfl ?_
            exact ih4 (k - 1) ls (by omega) (by omega) (fun t h1 h2 => by
              by_cases h9 : t = k - 1
              · rw [h9]
                omega
              · exact hi4_1 t (by omega) h2) hl
          · refine lv_iconst (v := nI 0) X.1.1 X.1.2.1 d_Edges_isNewText_38 (by decide) ?_
            exact g_zret X B (by decide) ⟨by rw [@if_neg _ (e_newd sb i) (e_new_f hi4_0 hk0 hi4_1 hc35)], rfl⟩ (fun _ h => by cases h) d_Edges_isNewText_39 (by omega) (by omega)
  exact loop4 _ i ls (Nat.lt_succ_self _) (Nat.le_refl _) (fun t h1 h2 => by omega) hl

theorem e_fc_end {sb : Nat → Nat} {len pairs t : Nat} (h : ¬ (t < pairs ∧ len ≤ sb t)) : e_fc sb len pairs (pairs - t) t = 0 := by
  rcases Nat.eq_zero_or_pos (pairs - t) with h8 | h8
  · rw [h8]; rfl
  · obtain ⟨u, hu⟩ : ∃ u, pairs - t = u + 1 := ⟨pairs - t - 1, by omega⟩
    rw [hu, e_fc, if_neg h]
theorem e_fc_step {sb : Nat → Nat} {len pairs t : Nat} (h : t < pairs) (h2 : len ≤ sb t) : e_fc sb len pairs (pairs - t) t = (if sb t = len then 1 else 0) + e_fc sb len pairs (pairs - (t + 1)) (t + 1) := by
  obtain ⟨u, hu⟩ : ∃ u, pairs - t = u + 1 := ⟨pairs - t - 1, by omega⟩
  rw [hu, show pairs - (t + 1) = u by omega, e_fc, if_pos ⟨h, h2⟩]

set_option maxHeartbeats 4000000 in
set_option maxRecDepth 100000 in
theorem c_Edges_fan (l : Launch) (D : va_G) (q : Nat → ClassId) (H : Heap) (eb : Nat) (S : Nat → Int32) (ho : va_at D CL (eb, .inr (4, [.ref (eb + 1), .ref (eb + 2)])) H) (hS : va_at D CL (eb + 1, .inl (q 0, 64, .inl S)) H) (sb : Nat → Nat) (pairs : Nat) (hpr : pairs ≤ 63) (hSb : ∀ j, j < pairs → S j = nI (sb j)) (hsb : ∀ j, sb j ≤ 17) (i : Nat) (hi : i < pairs) (a : Nat) (xs : List Nat) (hxs : kA D q H a xs) : gC l y_Edges_fan (Cond.code y_Edges_fan b_Edges_fan 7 (some .int) :: gWS) (gR 0 0 0 0) D CL (gY q) (fun _ => True) [.ref eb, .int (nI i), .int (nI pairs), .ref a] H (fun v H1 => v = some (.int (nI (e_fan sb pairs i xs.length))) ∧ H1 = H) 0 0 (fun _ => False) := by
  refine gC.ofW R_Edges "fan" (by decide) rfl rfl ?_
  intro p e s m below meth c hadm X hE hH B hne
  refine g_entry [some (.ref eb), some (.int (nI i)), some (.int (nI pairs)), some (.ref a), none, none, none] rfl rfl (Nat.le_of_ble_eq_true rfl) (fun ls hl => ?_)
  obtain ⟨ha, ⟨fa, hla, hfa⟩, hxl, hxc⟩ := hxs
  have q2 := hsb i
  have q3 := e_fan_le (sb := sb) (pairs := pairs) (i := i) (k := xs.length)
  refine lv_aload_n X.1.1 X.1.2.1 d_Edges_fan_0 rfl (gl_at hl rfl) ?_
  refine g_get X kc_Edges ho 0 (by decide) lk_Edges_9 rfl d_Edges_fan_1 ?_
  refine lv_iload_n X.1.1 X.1.2.1 d_Edges_fan_4 rfl (gl_at hl rfl) ?_
  refine g_iald X 0 hS rfl i (by omega) (by decide) d_Edges_fan_5 ?_
  refine g_top (nI (sb i)) (hSb _ (by omega)) ?_
  refine g_ist X.1.1 X.1.2.1 hl 4 d_Edges_fan_6 (Nat.le_of_ble_eq_true rfl) rfl (fun ls hl => ?_)
  refine lv_iconst (v := nI 2) X.1.1 X.1.2.1 d_Edges_fan_8 (by decide) ?_
  refine lv_aload_n X.1.1 X.1.2.1 d_Edges_fan_9 rfl (gl_at hl rfl) ?_
  refine g_get X kc_Key ha 1 (by decide) lk_Edges_47 rfl d_Edges_fan_10 ?_
  refine lv_imul X.1.1 X.1.2.1 d_Edges_fan_13 ?_
  refine g_top (nI (2 * xs.length)) (pk_mul _ _) ?_
  refine lv_iload X.1.1 X.1.2.1 d_Edges_fan_14 (gl_at hl rfl) ?_
  refine gn_ne X.1.1 X.1.2.1 (2 * xs.length) (sb i) (by omega) (by omega) d_Edges_fan_16 rfl (fun hc16 => ?_) (fun hc16 => ?_)
  · refine lv_iconst (v := nI 1) X.1.1 X.1.2.1 d_Edges_fan_23 (by decide) ?_
    refine g_ist X.1.1 X.1.2.1 hl 5 d_Edges_fan_24 (Nat.le_of_ble_eq_true rfl) rfl (fun ls hl => ?_)
    refine lv_iload_n X.1.1 X.1.2.1 d_Edges_fan_26 rfl (gl_at hl rfl) ?_
    refine g_ist X.1.1 X.1.2.1 hl 6 d_Edges_fan_27 (Nat.le_of_ble_eq_true rfl) rfl (fun ls hl => ?_)
    have loop29 : ∀ (fu : Nat) (t : Nat) (k : Nat) (ls : Array Slot), pairs - t < fu → (i ≤ t) → (t ≤ pairs) → (k + e_fc sb (sb i) pairs (pairs - t) t = e_fan sb pairs i xs.length) →  gl ls [some (.ref eb), some (.int (nI i)), some (.int (nI pairs)), some (.ref a), some (.int (nI (sb i))), some (.int (nI k)), some (.int (nI t))] → W p l e (gR 0 0 0 0) s m ([.ref eb, .int (nI i), .int (nI pairs), .ref a] : List Value).toArray below meth c H [] 0 0 (gQ below ([.ref eb, .int (nI i), .int (nI pairs), .ref a] : List Value).toArray s (fun v H1 => v = some (.int (nI (e_fan sb pairs i xs.length))) ∧ H1 = H) 0 0 (fun _ => False)) (F0 m 29 ls []) := by
      intro fu
      induction fu with
      | zero => intro t k ls hmu; omega
      | succ fu ih29 =>
        intro t k ls hmu29 hi29_0 hi29_1 hi29_2 hl
        refine lv_iload X.1.1 X.1.2.1 d_Edges_fan_29 (gl_at hl rfl) ?_
        refine lv_iload_n X.1.1 X.1.2.1 d_Edges_fan_31 rfl (gl_at hl rfl) ?_
        refine gn_ge X.1.1 X.1.2.1 t pairs (by omega) (by omega) d_Edges_fan_32 rfl (fun hc32 => ?_) (fun hc32 => ?_)
        · refine lv_iload X.1.1 X.1.2.1 d_Edges_fan_68 (gl_at hl rfl) ?_
          exact g_iret X B ⟨by rw [← hi29_2, e_fc_end (by omega), Nat.add_zero], rfl⟩ (fun _ h => by cases h) d_Edges_fan_70 (by omega) (by omega)
        · refine lv_aload_n X.1.1 X.1.2.1 d_Edges_fan_35 rfl (gl_at hl rfl) ?_
          refine g_get X kc_Edges ho 0 (by decide) lk_Edges_9 rfl d_Edges_fan_36 ?_
          refine lv_iload X.1.1 X.1.2.1 d_Edges_fan_39 (gl_at hl rfl) ?_
          refine g_iald X 0 hS rfl t (by omega) (by decide) d_Edges_fan_41 ?_
          have q1 := hsb t
          refine g_top (nI (sb t)) (hSb _ (by omega)) ?_
          refine lv_iload X.1.1 X.1.2.1 d_Edges_fan_42 (gl_at hl rfl) ?_
          refine gn_lt X.1.1 X.1.2.1 (sb t) (sb i) (by omega) (by omega) d_Edges_fan_44 rfl (fun hc44 => ?_) (fun hc44 => ?_)
          · refine lv_iload X.1.1 X.1.2.1 d_Edges_fan_68 (gl_at hl rfl) ?_
            exact g_iret X B ⟨by rw [← hi29_2, e_fc_end (by omega), Nat.add_zero], rfl⟩ (fun _ h => by cases h) d_Edges_fan_70 (by omega) (by omega)
          · refine lv_aload_n X.1.1 X.1.2.1 d_Edges_fan_47 rfl (gl_at hl rfl) ?_
            refine g_get X kc_Edges ho 0 (by decide) lk_Edges_9 rfl d_Edges_fan_48 ?_
            refine lv_iload X.1.1 X.1.2.1 d_Edges_fan_51 (gl_at hl rfl) ?_
            refine g_iald X 0 hS rfl t (by omega) (by decide) d_Edges_fan_53 ?_
            refine g_top (nI (sb t)) (hSb _ (by omega)) ?_
            refine lv_iload X.1.1 X.1.2.1 d_Edges_fan_54 (gl_at hl rfl) ?_
            refine gn_ne X.1.1 X.1.2.1 (sb t) (sb i) (by omega) (by omega) d_Edges_fan_56 rfl (fun hc56 => ?_) (fun hc56 => ?_)
            · refine g_iinc X.1.1 X.1.2.1 (nI (t + 1)) hl 6 d_Edges_fan_62 rfl (nI_1 _) rfl (fun ls hl => ?_)
              refine lv_goto X.1.1 X.1.2.1 d_Edges_fan_65 rfl ?_
              exact ih29 (t + 1) k ls (by omega) (by omega) (by omega) (by rw [← hi29_2, e_fc_step hc32 hc44]; first | (rw [if_pos hc56]; omega) | (rw [if_neg hc56]; omega)) hl
            · refine g_iinc X.1.1 X.1.2.1 (nI (k + 1)) hl 5 d_Edges_fan_59 rfl (nI_1 _) rfl (fun ls hl => ?_)
              refine g_iinc X.1.1 X.1.2.1 (nI (t + 1)) hl 6 d_Edges_fan_62 rfl (nI_1 _) rfl (fun ls hl => ?_)
              refine lv_goto X.1.1 X.1.2.1 d_Edges_fan_65 rfl ?_
              exact ih29 (t + 1) (k + 1) ls (by omega) (by omega) (by omega) (by rw [← hi29_2, e_fc_step hc32 hc44]; first | (rw [if_pos hc56]; omega) | (rw [if_neg hc56]; omega)) hl
    exact loop29 _ i 1 ls (Nat.lt_succ_self _) (Nat.le_refl _) (by omega) (by unfold e_fan; first | rw [if_pos hc16] | rw [if_neg hc16]) hl
  · refine lv_iconst (v := nI 0) X.1.1 X.1.2.1 d_Edges_fan_19 (by decide) ?_
    refine lv_goto X.1.1 X.1.2.1 d_Edges_fan_20 rfl ?_
    refine g_ist X.1.1 X.1.2.1 hl 5 d_Edges_fan_24 (Nat.le_of_ble_eq_true rfl) rfl (fun ls hl => ?_)
    refine lv_iload_n X.1.1 X.1.2.1 d_Edges_fan_26 rfl (gl_at hl rfl) ?_
    refine g_ist X.1.1 X.1.2.1 hl 6 d_Edges_fan_27 (Nat.le_of_ble_eq_true rfl) rfl (fun ls hl => ?_)
    have loop29 : ∀ (fu : Nat) (t : Nat) (k : Nat) (ls : Array Slot), pairs - t < fu → (i ≤ t) → (t ≤ pairs) → (k + e_fc sb (sb i) pairs (pairs - t) t = e_fan sb pairs i xs.length) →  gl ls [some (.ref eb), some (.int (nI i)), some (.int (nI pairs)), some (.ref a), some (.int (nI (sb i))), some (.int (nI k)), some (.int (nI t))] → W p l e (gR 0 0 0 0) s m ([.ref eb, .int (nI i), .int (nI pairs), .ref a] : List Value).toArray below meth c H [] 0 0 (gQ below ([.ref eb, .int (nI i), .int (nI pairs), .ref a] : List Value).toArray s (fun v H1 => v = some (.int (nI (e_fan sb pairs i xs.length))) ∧ H1 = H) 0 0 (fun _ => False)) (F0 m 29 ls []) := by
      intro fu
      induction fu with
      | zero => intro t k ls hmu; omega
      | succ fu ih29 =>
        intro t k ls hmu29 hi29_0 hi29_1 hi29_2 hl
        refine lv_iload X.1.1 X.1.2.1 d_Edges_fan_29 (gl_at hl rfl) ?_
        refine lv_iload_n X.1.1 X.1.2.1 d_Edges_fan_31 rfl (gl_at hl rfl) ?_
        refine gn_ge X.1.1 X.1.2.1 t pairs (by omega) (by omega) d_Edges_fan_32 rfl (fun hc32 => ?_) (fun hc32 => ?_)
        · refine lv_iload X.1.1 X.1.2.1 d_Edges_fan_68 (gl_at hl rfl) ?_
          exact g_iret X B ⟨by rw [← hi29_2, e_fc_end (by omega), Nat.add_zero], rfl⟩ (fun _ h => by cases h) d_Edges_fan_70 (by omega) (by omega)
        · refine lv_aload_n X.1.1 X.1.2.1 d_Edges_fan_35 rfl (gl_at hl rfl) ?_
          refine g_get X kc_Edges ho 0 (by decide) lk_Edges_9 rfl d_Edges_fan_36 ?_
          refine lv_iload X.1.1 X.1.2.1 d_Edges_fan_39 (gl_at hl rfl) ?_
          refine g_iald X 0 hS rfl t (by omega) (by decide) d_Edges_fan_41 ?_
          have q1 := hsb t
          refine g_top (nI (sb t)) (hSb _ (by omega)) ?_
          refine lv_iload X.1.1 X.1.2.1 d_Edges_fan_42 (gl_at hl rfl) ?_
          refine gn_lt X.1.1 X.1.2.1 (sb t) (sb i) (by omega) (by omega) d_Edges_fan_44 rfl (fun hc44 => ?_) (fun hc44 => ?_)
          · refine lv_iload X.1.1 X.1.2.1 d_Edges_fan_68 (gl_at hl rfl) ?_
            exact g_iret X B ⟨by rw [← hi29_2, e_fc_end (by omega), Nat.add_zero], rfl⟩ (fun _ h => by cases h) d_Edges_fan_70 (by omega) (by omega)
          · refine lv_aload_n X.1.1 X.1.2.1 d_Edges_fan_47 rfl (gl_at hl rfl) ?_
            refine g_get X kc_Edges ho 0 (by decide) lk_Edges_9 rfl d_Edges_fan_48 ?_
            refine lv_iload X.1.1 X.1.2.1 d_Edges_fan_51 (gl_at hl rfl) ?_
            refine g_iald X 0 hS rfl t (by omega) (by decide) d_Edges_fan_53 ?_
            refine g_top (nI (sb t)) (hSb _ (by omega)) ?_
            refine lv_iload X.1.1 X.1.2.1 d_Edges_fan_54 (gl_at hl rfl) ?_
            refine gn_ne X.1.1 X.1.2.1 (sb t) (sb i) (by omega) (by omega) d_Edges_fan_56 rfl (fun hc56 => ?_) (fun hc56 => ?_)
            · refine g_iinc X.1.1 X.1.2.1 (nI (t + 1)) hl 6 d_Edges_fan_62 rfl (nI_1 _) rfl (fun ls hl => ?_)
              refine lv_goto X.1.1 X.1.2.1 d_Edges_fan_65 rfl ?_
              exact ih29 (t + 1) k ls (by omega) (by omega) (by omega) (by rw [← hi29_2, e_fc_step hc32 hc44]; first | (rw [if_pos hc56]; omega) | (rw [if_neg hc56]; omega)) hl
            · refine g_iinc X.1.1 X.1.2.1 (nI (k + 1)) hl 5 d_Edges_fan_59 rfl (nI_1 _) rfl (fun ls hl => ?_)
              refine g_iinc X.1.1 X.1.2.1 (nI (t + 1)) hl 6 d_Edges_fan_62 rfl (nI_1 _) rfl (fun ls hl => ?_)
              refine lv_goto X.1.1 X.1.2.1 d_Edges_fan_65 rfl ?_
              exact ih29 (t + 1) (k + 1) ls (by omega) (by omega) (by omega) (by rw [← hi29_2, e_fc_step hc32 hc44]; first | (rw [if_pos hc56]; omega) | (rw [if_neg hc56]; omega)) hl
    exact loop29 _ i 0 ls (Nat.lt_succ_self _) (Nat.le_refl _) (by omega) (by unfold e_fan; first | rw [if_pos hc16] | rw [if_neg hc16]) hl

set_option maxHeartbeats 4000000 in
set_option maxRecDepth 100000 in
theorem c_Edges_init (l : Launch) (D : va_G) (q : Nat → ClassId) (H : Heap) (eb : Nat) (hz : H.size = eb + 1) (ho : va_at D CL (eb, .inr (4, [.null, .null])) H) : gC l y_Edges_init (Cond.code y_Edges_init b_Edges_init 1 none :: gWS) (gR 1 12 2 200) D CL (gY q) (fun _ => True) [.ref eb] H (fun v H1 => v = none ∧ va_at D CL (eb, .inr (4, [.ref (eb + 1), .ref (eb + 2)])) H1 ∧ (∃ S, va_at D CL (eb + 1, .inl (q 0, 64, .inl S)) H1) ∧ (∃ T, va_at D CL (eb + 2, .inl (q 1, 136, .inl T)) H1) ∧ H1.size = eb + 3 ∧ ∀ p : Nat, p < eb → H1[p]? = H[p]?) 2 200 (fun p => eb ≤ p) := by
  refine gC.ofW R_Edges "<init>" (by decide) rfl rfl ?_
  intro p e s m below meth c hadm X hE hH B hne
  refine g_entry [some (.ref eb)] rfl rfl (Nat.le_of_ble_eq_true rfl) (fun ls hl => ?_)
  refine lv_aload_n X.1.1 X.1.2.1 d_Edges_init_0 rfl (gl_at hl rfl) ?_
  refine W.objInit X.1.1 X.1.2.1 X.1.2.2.2.1 (X.1.2.2.2.2 _ mo_Edges_3.1) (X.1.2.2.2.2 _ mo_Edges_3.2.1) (X.1.2.2.2.2 _ mo_Edges_3.2.2) rfl (by rw [X.1.2.2.1]; exact hl.1) rfl d_Edges_init_1 (Nat.le_of_ble_eq_true rfl) (Nat.le_of_ble_eq_true rfl) ?_
  refine W.eq (g2 := F0 m 4 ls []) rfl ?_
  refine lv_aload_n X.1.1 X.1.2.1 d_Edges_init_4 rfl (gl_at hl rfl) ?_
  refine lv_bipush (v := nI 64) X.1.1 X.1.2.1 d_Edges_init_5 (by decide) ?_
  refine g_newi X 0 rfl ka_int 64 (by decide) (Nat.le_of_ble_eq_true rfl) (Nat.le_of_ble_eq_true rfl) d_Edges_init_7 (fun H1 h2 z3 o4 => ?_)
  rw [hz] at h2 z3 o4 ⊢
  replace ho := ho.kept (o4 _ (by omega))
  refine g_putF (A := (fun p => eb ≤ p)) X B.2.2 kc_Edges ho 0 (by decide) lk_Edges_9 rfl rfl rfl rfl (Nat.le_of_ble_eq_true rfl) d_Edges_init_9 (show eb ≤ _ by omega) (fun _ h => by cases h) (fun H5 locs h6 z7 oq8 hL => ?_)
  replace h2 := h2.kept (oq8 _ (by omega))
  have hz9 := z7.trans z3
  refine lv_aload_n X.1.1 X.1.2.1 d_Edges_init_12 rfl (gl_at hl rfl) ?_
  refine lv_sipush (v := nI 136) X.1.1 X.1.2.1 d_Edges_init_13 (by decide) ?_
  refine g_newz X 1 rfl ka_boolean 136 (by decide) (Nat.le_of_ble_eq_true rfl) (Nat.le_of_ble_eq_true rfl) d_Edges_init_16 (fun H10 h11 z12 o13 => ?_)
  rw [hz9] at h11 z12 o13 ⊢
  replace h6 := h6.kept (o13 _ (by omega))
  replace h2 := h2.kept (o13 _ (by omega))
  refine g_putF (A := (fun p => eb ≤ p)) X B.2.2 kc_Edges h6 1 (by decide) lk_Edges_15 rfl rfl rfl rfl (Nat.le_of_ble_eq_true rfl) d_Edges_init_18 (show eb ≤ _ by omega) hL (fun H14 locs h15 z16 oq17 hL => ?_)
  replace h2 := h2.kept (oq17 _ (by omega))
  replace h11 := h11.kept (oq17 _ (by omega))
  have hz18 := z16.trans z12
  exact g_vret X B ⟨rfl, h15, ⟨_, h2⟩, ⟨_, h11⟩, by omega, fun p hp => ((oq17 p (by omega)).trans ((o13 p (by omega)).trans ((oq8 p (by omega)).trans (o4 p (by omega)))))⟩ hL d_Edges_init_21 (by omega) (by omega)
