/-! the class Edges: printed by wip/specs/edges.py -/
set_option maxHeartbeats 4000000 in
set_option maxRecDepth 100000 in
theorem c_Edges_countSharedBytes (l : Launch) (D : va_G) (q : Nat → ClassId) (H : Heap) (eb : Nat) (a b : Nat) (xs ys : List Nat) (hxs : kA D q H a xs) (hys : kA D q H b ys) : gC l y_Edges_countSharedBytes (Cond.code y_Edges_countSharedBytes b_Edges_countSharedBytes 5 (some .int) :: gWS) (gR 1 22 0 0) D CL (gY q) (fun _ => True) [.ref eb, .ref a, .ref b] H (fun v H1 => v = some (.int (nI (e_sb xs ys))) ∧ H1 = H) 0 0 (fun _ => False) := by
  refine gC.ofW R_Edges "countSharedBytes" (by decide) rfl rfl ?_
  intro p e s m below meth c hadm X hE hH B hne
  refine g_entry [some (.ref eb), some (.ref a), some (.ref b), none, none] rfl rfl (Nat.le_of_ble_eq_true rfl) (fun ls hl => ?_)
  have hxs0 := hxs
  have hys0 := hys
  obtain ⟨ha, ⟨fa, hla, hfa⟩, hxl, hxc⟩ := hxs
  obtain ⟨hb, ⟨fb, hlb, hfb⟩, hyl, hyc⟩ := hys
  have i1 := t_lcp_le1 xs ys
  have i2 := t_lcp_le2 xs ys
  have e1 := t_lt hxc (t_lcp xs ys)
  have e2 := t_lt hyc (t_lcp xs ys)
  refine lv_aload_n X.1.1 X.1.2.1 d_Edges_countSharedBytes_0 rfl (gl_at hl rfl) ?_
  refine lv_aload_n X.1.1 X.1.2.1 d_Edges_countSharedBytes_1 rfl (gl_at hl rfl) ?_
  refine g_cv (A := (fun _ => False)) X gWS_good mw_Edges_41 kc_Key ha (c_Key_shared l D q H a b xs ys hxs0 hys0) (fun _ _ _ => trivial) gBlind.tt rfl rfl hl.1 (Nat.le_of_ble_eq_true rfl) rfl rfl ⟨by decide, by decide⟩ ⟨by decide, by decide⟩ d_Edges_countSharedBytes_2 (fun _ h => h.elim) (fun _ h => by cases h) (fun v1 H2 locs hp3 hL => ?_)
  obtain ⟨rfl, hHe⟩ := hp3
  rw [hHe]
  refine g_istn X.1.1 X.1.2.1 hl 3 d_Edges_countSharedBytes_5 rfl (Nat.le_of_ble_eq_true rfl) rfl (fun ls hl => ?_)
  refine lv_iload_n X.1.1 X.1.2.1 d_Edges_countSharedBytes_6 rfl (gl_at hl rfl) ?_
  refine lv_aload_n X.1.1 X.1.2.1 d_Edges_countSharedBytes_7 rfl (gl_at hl rfl) ?_
  refine g_get X kc_Key ha 1 (by decide) lk_Edges_47 rfl d_Edges_countSharedBytes_8 ?_
  refine gn_eq X.1.1 X.1.2.1 (t_lcp xs ys) xs.length (by omega) (by omega) d_Edges_countSharedBytes_11 rfl (fun hc11 => ?_) (fun hc11 => ?_)
  · refine lv_iconst (v := nI 2) X.1.1 X.1.2.1 d_Edges_countSharedBytes_22 (by decide) ?_
    refine lv_iload_n X.1.1 X.1.2.1 d_Edges_countSharedBytes_23 rfl (gl_at hl rfl) ?_
    refine lv_imul X.1.1 X.1.2.1 d_Edges_countSharedBytes_24 ?_
    refine g_top (nI (2 * (t_lcp xs ys))) (pk_mul _ _) ?_
    exact g_iret X B ⟨by unfold e_sb; rw [if_pos (by omega)], rfl⟩ hL d_Edges_countSharedBytes_25 (by omega) (by omega)
  · refine lv_iload_n X.1.1 X.1.2.1 d_Edges_countSharedBytes_14 rfl (gl_at hl rfl) ?_
    refine lv_aload_n X.1.1 X.1.2.1 d_Edges_countSharedBytes_15 rfl (gl_at hl rfl) ?_
    refine g_get X kc_Key hb 1 (by decide) lk_Edges_47 rfl d_Edges_countSharedBytes_16 ?_
    refine gn_ne X.1.1 X.1.2.1 (t_lcp xs ys) ys.length (by omega) (by omega) d_Edges_countSharedBytes_19 rfl (fun hc19 => ?_) (fun hc19 => ?_)
    · refine lv_aload_n X.1.1 X.1.2.1 d_Edges_countSharedBytes_26 rfl (gl_at hl rfl) ?_
      refine g_get X kc_Key ha 0 (by decide) lk_Edges_50 rfl d_Edges_countSharedBytes_27 ?_
      refine lv_iload_n X.1.1 X.1.2.1 d_Edges_countSharedBytes_30 rfl (gl_at hl rfl) ?_
      refine g_iald X 0 hla rfl (t_lcp xs ys) (by omega) (by decide) d_Edges_countSharedBytes_31 ?_
      refine g_top (nI (xs.getD (t_lcp xs ys) 0)) (hfa _ (by omega)) ?_
      refine lv_bipush (v := nI 8) X.1.1 X.1.2.1 d_Edges_countSharedBytes_32 (by decide) ?_
      refine lv_ishr X.1.1 X.1.2.1 d_Edges_countSharedBytes_34 ?_
      refine g_top (nI ((xs.getD (t_lcp xs ys) 0) / 2 ^ 8)) (ex_shr (by omega) (by decide)) ?_
      refine lv_aload_n X.1.1 X.1.2.1 d_Edges_countSharedBytes_35 rfl (gl_at hl rfl) ?_
      refine g_get X kc_Key hb 0 (by decide) lk_Edges_50 rfl d_Edges_countSharedBytes_36 ?_
      refine lv_iload_n X.1.1 X.1.2.1 d_Edges_countSharedBytes_39 rfl (gl_at hl rfl) ?_
      refine g_iald X 0 hlb rfl (t_lcp xs ys) (by omega) (by decide) d_Edges_countSharedBytes_40 ?_
      refine g_top (nI (ys.getD (t_lcp xs ys) 0)) (hfb _ (by omega)) ?_
      refine lv_bipush (v := nI 8) X.1.1 X.1.2.1 d_Edges_countSharedBytes_41 (by decide) ?_
      refine lv_ishr X.1.1 X.1.2.1 d_Edges_countSharedBytes_43 ?_
      refine g_top (nI ((ys.getD (t_lcp xs ys) 0) / 2 ^ 8)) (ex_shr (by omega) (by decide)) ?_
      refine gn_ne X.1.1 X.1.2.1 ((xs.getD (t_lcp xs ys) 0) / 2 ^ 8) ((ys.getD (t_lcp xs ys) 0) / 2 ^ 8) (by omega) (by omega) d_Edges_countSharedBytes_44 rfl (fun hc44 => ?_) (fun hc44 => ?_)
      · refine lv_iconst (v := nI 0) X.1.1 X.1.2.1 d_Edges_countSharedBytes_51 (by decide) ?_
        refine g_ist X.1.1 X.1.2.1 hl 4 d_Edges_countSharedBytes_52 (Nat.le_of_ble_eq_true rfl) rfl (fun ls hl => ?_)
        refine lv_iconst (v := nI 2) X.1.1 X.1.2.1 d_Edges_countSharedBytes_54 (by decide) ?_
        refine lv_iload_n X.1.1 X.1.2.1 d_Edges_countSharedBytes_55 rfl (gl_at hl rfl) ?_
        refine lv_imul X.1.1 X.1.2.1 d_Edges_countSharedBytes_56 ?_
        refine g_top (nI (2 * (t_lcp xs ys))) (pk_mul _ _) ?_
        refine lv_iload X.1.1 X.1.2.1 d_Edges_countSharedBytes_57 (gl_at hl rfl) ?_
        refine gn_eq0 X.1.1 X.1.2.1 0 (by omega) d_Edges_countSharedBytes_59 rfl (fun hc59 => ?_) (fun hc59 => ?_)
        · refine lv_iconst (v := nI 0) X.1.1 X.1.2.1 d_Edges_countSharedBytes_66 (by decide) ?_
          refine lv_iadd X.1.1 X.1.2.1 d_Edges_countSharedBytes_67 ?_
          refine g_top (nI ((2 * (t_lcp xs ys)) + 0)) (nI_add _ _) ?_
          exact g_iret X B ⟨by unfold e_sb; rw [if_neg (by omega)]; first | rw [if_pos (show _ / 256 = _ / 256 from hc44)] | rw [if_neg (show ¬ _ / 256 = _ / 256 from hc44)], rfl⟩ hL d_Edges_countSharedBytes_68 (by omega) (by omega)
        · omega
      · refine lv_iconst (v := nI 1) X.1.1 X.1.2.1 d_Edges_countSharedBytes_47 (by decide) ?_
        refine lv_goto X.1.1 X.1.2.1 d_Edges_countSharedBytes_48 rfl ?_
        refine g_ist X.1.1 X.1.2.1 hl 4 d_Edges_countSharedBytes_52 (Nat.le_of_ble_eq_true rfl) rfl (fun ls hl => ?_)
        refine lv_iconst (v := nI 2) X.1.1 X.1.2.1 d_Edges_countSharedBytes_54 (by decide) ?_
        refine lv_iload_n X.1.1 X.1.2.1 d_Edges_countSharedBytes_55 rfl (gl_at hl rfl) ?_
        refine lv_imul X.1.1 X.1.2.1 d_Edges_countSharedBytes_56 ?_
        refine g_top (nI (2 * (t_lcp xs ys))) (pk_mul _ _) ?_
        refine lv_iload X.1.1 X.1.2.1 d_Edges_countSharedBytes_57 (gl_at hl rfl) ?_
        refine gn_eq0 X.1.1 X.1.2.1 1 (by omega) d_Edges_countSharedBytes_59 rfl (fun hc59 => ?_) (fun hc59 => ?_)
        · omega
        · refine lv_iconst (v := nI 1) X.1.1 X.1.2.1 d_Edges_countSharedBytes_62 (by decide) ?_
          refine lv_goto X.1.1 X.1.2.1 d_Edges_countSharedBytes_63 rfl ?_
          refine lv_iadd X.1.1 X.1.2.1 d_Edges_countSharedBytes_67 ?_
          refine g_top (nI ((2 * (t_lcp xs ys)) + 1)) (nI_add _ _) ?_
          exact g_iret X B ⟨by unfold e_sb; rw [if_neg (by omega)]; first | rw [if_pos (show _ / 256 = _ / 256 from hc44)] | rw [if_neg (show ¬ _ / 256 = _ / 256 from hc44)], rfl⟩ hL d_Edges_countSharedBytes_68 (by omega) (by omega)
    · refine lv_iconst (v := nI 2) X.1.1 X.1.2.1 d_Edges_countSharedBytes_22 (by decide) ?_
      refine lv_iload_n X.1.1 X.1.2.1 d_Edges_countSharedBytes_23 rfl (gl_at hl rfl) ?_
      refine lv_imul X.1.1 X.1.2.1 d_Edges_countSharedBytes_24 ?_
      refine g_top (nI (2 * (t_lcp xs ys))) (pk_mul _ _) ?_
      exact g_iret X B ⟨by unfold e_sb; rw [if_pos (by omega)], rfl⟩ hL d_Edges_countSharedBytes_25 (by omega) (by omega)

set_option maxHeartbeats 4000000 in
set_option maxRecDepth 100000 in
theorem c_Edges_firstDifferentBit (l : Launch) (D : va_G) (q : Nat → ClassId) (H : Heap) (eb : Nat) (a b : Nat) (xs ys : List Nat) (hxs : kA D q H a xs) (hys : kA D q H b ys) : gC l y_Edges_firstDifferentBit (Cond.code y_Edges_firstDifferentBit b_Edges_firstDifferentBit 7 (some .int) :: gWS) (gR 1 22 0 0) D CL (gY q) (fun _ => True) [.ref eb, .ref a, .ref b] H (fun v H1 => v = some (.int (nI (e_fdb xs ys))) ∧ H1 = H) 0 0 (fun _ => False) := by
  refine gC.ofW R_Edges "firstDifferentBit" (by decide) rfl rfl ?_
  intro p e s m below meth c hadm X hE hH B hne
  refine g_entry [some (.ref eb), some (.ref a), some (.ref b), none, none, none, none] rfl rfl (Nat.le_of_ble_eq_true rfl) (fun ls hl => ?_)
  have hxs0 := hxs
  have hys0 := hys
  obtain ⟨ha, ⟨fa, hla, hfa⟩, hxl, hxc⟩ := hxs
  obtain ⟨hb, ⟨fb, hlb, hfb⟩, hyl, hyc⟩ := hys
  have i1 := t_lcp_le1 xs ys
  have i2 := t_lcp_le2 xs ys
  have e1 := t_lt hxc (t_lcp xs ys)
  have e2 := t_lt hyc (t_lcp xs ys)
  refine lv_aload_n X.1.1 X.1.2.1 d_Edges_firstDifferentBit_0 rfl (gl_at hl rfl) ?_
  refine lv_aload_n X.1.1 X.1.2.1 d_Edges_firstDifferentBit_1 rfl (gl_at hl rfl) ?_
  refine g_cv (A := (fun _ => False)) X gWS_good mw_Edges_41 kc_Key ha (c_Key_shared l D q H a b xs ys hxs0 hys0) (fun _ _ _ => trivial) gBlind.tt rfl rfl hl.1 (Nat.le_of_ble_eq_true rfl) rfl rfl ⟨by decide, by decide⟩ ⟨by decide, by decide⟩ d_Edges_firstDifferentBit_2 (fun _ h => h.elim) (fun _ h => by cases h) (fun v1 H2 locs hp3 hL => ?_)
  obtain ⟨rfl, hHe⟩ := hp3
  rw [hHe]
  refine g_istn X.1.1 X.1.2.1 hl 3 d_Edges_firstDifferentBit_5 rfl (Nat.le_of_ble_eq_true rfl) rfl (fun ls hl => ?_)
  refine lv_iload_n X.1.1 X.1.2.1 d_Edges_firstDifferentBit_6 rfl (gl_at hl rfl) ?_
  refine lv_bipush (v := nI 17) X.1.1 X.1.2.1 d_Edges_firstDifferentBit_7 (by decide) ?_
  refine lv_imul X.1.1 X.1.2.1 d_Edges_firstDifferentBit_9 ?_
  refine g_top (nI ((t_lcp xs ys) * 17)) (pk_mul _ _) ?_
  refine g_ist X.1.1 X.1.2.1 hl 4 d_Edges_firstDifferentBit_10 (Nat.le_of_ble_eq_true rfl) rfl (fun ls hl => ?_)
  refine lv_iload_n X.1.1 X.1.2.1 d_Edges_firstDifferentBit_12 rfl (gl_at hl rfl) ?_
  refine lv_aload_n X.1.1 X.1.2.1 d_Edges_firstDifferentBit_13 rfl (gl_at hl rfl) ?_
  refine g_get X kc_Key ha 1 (by decide) lk_Edges_47 rfl d_Edges_firstDifferentBit_14 ?_
  refine gn_eq X.1.1 X.1.2.1 (t_lcp xs ys) xs.length (by omega) (by omega) d_Edges_firstDifferentBit_17 rfl (fun hc17 => ?_) (fun hc17 => ?_)
  · refine lv_iload X.1.1 X.1.2.1 d_Edges_firstDifferentBit_28 (gl_at hl rfl) ?_
    exact g_iret X B ⟨by unfold e_fdb; rw [if_pos (by omega)], rfl⟩ hL d_Edges_firstDifferentBit_30 (by omega) (by omega)
  · refine lv_iload_n X.1.1 X.1.2.1 d_Edges_firstDifferentBit_20 rfl (gl_at hl rfl) ?_
    refine lv_aload_n X.1.1 X.1.2.1 d_Edges_firstDifferentBit_21 rfl (gl_at hl rfl) ?_
    refine g_get X kc_Key hb 1 (by decide) lk_Edges_47 rfl d_Edges_firstDifferentBit_22 ?_
    refine gn_ne X.1.1 X.1.2.1 (t_lcp xs ys) ys.length (by omega) (by omega) d_Edges_firstDifferentBit_25 rfl (fun hc25 => ?_) (fun hc25 => ?_)
    · refine lv_aload_n X.1.1 X.1.2.1 d_Edges_firstDifferentBit_31 rfl (gl_at hl rfl) ?_
      refine g_get X kc_Key ha 0 (by decide) lk_Edges_50 rfl d_Edges_firstDifferentBit_32 ?_
      refine lv_iload_n X.1.1 X.1.2.1 d_Edges_firstDifferentBit_35 rfl (gl_at hl rfl) ?_
      refine g_iald X 0 hla rfl (t_lcp xs ys) (by omega) (by decide) d_Edges_firstDifferentBit_36 ?_
      refine g_top (nI (xs.getD (t_lcp xs ys) 0)) (hfa _ (by omega)) ?_
      refine lv_aload_n X.1.1 X.1.2.1 d_Edges_firstDifferentBit_37 rfl (gl_at hl rfl) ?_
      refine g_get X kc_Key hb 0 (by decide) lk_Edges_50 rfl d_Edges_firstDifferentBit_38 ?_
      refine lv_iload_n X.1.1 X.1.2.1 d_Edges_firstDifferentBit_41 rfl (gl_at hl rfl) ?_
      refine g_iald X 0 hlb rfl (t_lcp xs ys) (by omega) (by decide) d_Edges_firstDifferentBit_42 ?_
      refine g_top (nI (ys.getD (t_lcp xs ys) 0)) (hfb _ (by omega)) ?_
      refine lv_ixor X.1.1 X.1.2.1 d_Edges_firstDifferentBit_43 ?_
      obtain ⟨xo, hxo⟩ : ∃ z, z = xs.getD (t_lcp xs ys) 0 ^^^ ys.getD (t_lcp xs ys) 0 := ⟨_, rfl⟩
      have hxo2 : xo < 2 ^ 16 := by rw [hxo]; exact Nat.xor_lt_two_pow (by omega) (by omega)
      refine g_top (nI xo) (by rw [hxo]; exact ex_xor _ _) ?_
      refine g_ist X.1.1 X.1.2.1 hl 5 d_Edges_firstDifferentBit_44 (Nat.le_of_ble_eq_true rfl) rfl (fun ls hl => ?_)
      refine lv_bipush (v := nI 15) X.1.1 X.1.2.1 d_Edges_firstDifferentBit_46 (by decide) ?_
      refine g_ist X.1.1 X.1.2.1 hl 6 d_Edges_firstDifferentBit_48 (Nat.le_of_ble_eq_true rfl) rfl (fun ls hl => ?_)
      have loop50 : ∀ (fu : Nat) (i : Nat) (ls : Array Slot), i < fu → (i ≤ 15) → (e_hb xo 15 = e_hb xo i) →  gl ls [some (.ref eb), some (.ref a), some (.ref b), some (.int (nI (t_lcp xs ys))), some (.int (nI ((t_lcp xs ys) * 17))), some (.int (nI xo)), some (.int (nI i))] → W p l e (gR 1 22 0 0) s m ([.ref eb, .ref a, .ref b] : List Value).toArray below meth c H locs 0 0 (gQ below ([.ref eb, .ref a, .ref b] : List Value).toArray s (fun v H1 => v = some (.int (nI (e_fdb xs ys))) ∧ H1 = H) 0 0 (fun _ => False)) (F0 m 50 ls []) := by
        intro fu
        induction fu with
        | zero => intro i ls hmu; omega
        | succ fu ih50 =>
          intro i ls hmu50 hi50_0 hi50_1 hl
          refine lv_iload X.1.1 X.1.2.1 d_Edges_firstDifferentBit_50 (gl_at hl rfl) ?_
          refine gn_le0 X.1.1 X.1.2.1 i (by omega) d_Edges_firstDifferentBit_52 rfl (fun hc52 => ?_) (fun hc52 => ?_)
          · refine lv_iload X.1.1 X.1.2.1 d_Edges_firstDifferentBit_69 (gl_at hl rfl) ?_
            refine lv_bipush (v := nI 16) X.1.1 X.1.2.1 d_Edges_firstDifferentBit_71 (by decide) ?_
            refine lv_iadd X.1.1 X.1.2.1 d_Edges_firstDifferentBit_73 ?_
            refine g_top (nI (((t_lcp xs ys) * 17) + 16)) (nI_add _ _) ?_
            refine lv_iload X.1.1 X.1.2.1 d_Edges_firstDifferentBit_74 (gl_at hl rfl) ?_
            refine lv_isub X.1.1 X.1.2.1 d_Edges_firstDifferentBit_76 ?_
            refine g_top (nI ((((t_lcp xs ys) * 17) + 16) - i)) (pk_sub (by omega)) ?_
            exact g_iret X B ⟨by unfold e_fdb; rw [if_neg (by omega), ← hxo, hi50_1]; first | (rw [hc52]; rfl) | (obtain ⟨i, rfl⟩ : ∃ z, i = z + 1 := ⟨i - 1, by omega⟩; rw [e_hb, if_neg hc60]), rfl⟩ hL d_Edges_firstDifferentBit_77 (by omega) (by omega)
          · refine lv_iload X.1.1 X.1.2.1 d_Edges_firstDifferentBit_55 (gl_at hl rfl) ?_
            refine lv_iload X.1.1 X.1.2.1 d_Edges_firstDifferentBit_57 (gl_at hl rfl) ?_
            refine lv_ishr X.1.1 X.1.2.1 d_Edges_firstDifferentBit_59 ?_
            refine g_top (nI (xo / 2 ^ i)) (ex_shr (by omega) (by omega)) ?_
            have hdv : xo / 2 ^ i ≤ xo := Nat.div_le_self _ _
            refine gn_ne0 X.1.1 X.1.2.1 (xo / 2 ^ i) (by omega) d_Edges_firstDifferentBit_60 rfl (fun hc60 => ?_) (fun hc60 => ?_)
            · refine lv_iload X.1.1 X.1.2.1 d_Edges_firstDifferentBit_69 (gl_at hl rfl) ?_
              refine lv_bipush (v := nI 16) X.1.1 X.1.2.1 d_Edges_firstDifferentBit_71 (by decide) ?_
              refine lv_iadd X.1.1 X.1.2.1 d_Edges_firstDifferentBit_73 ?_
              refine g_top (nI (((t_lcp xs ys) * 17) + 16)) (nI_add _ _) ?_
              refine lv_iload X.1.1 X.1.2.1 d_Edges_firstDifferentBit_74 (gl_at hl rfl) ?_
              refine lv_isub X.1.1 X.1.2.1 d_Edges_firstDifferentBit_76 ?_
              refine g_top (nI ((((t_lcp xs ys) * 17) + 16) - i)) (pk_sub (by omega)) ?_
              exact g_iret X B ⟨by unfold e_fdb; rw [if_neg (by omega), ← hxo, hi50_1]; first | (rw [hc52]; rfl) | (obtain ⟨i, rfl⟩ : ∃ z, i = z + 1 := ⟨i - 1, by omega⟩; rw [e_hb, if_neg hc60]), rfl⟩ hL d_Edges_firstDifferentBit_77 (by omega) (by omega)
            · refine g_iinc X.1.1 X.1.2.1 (nI (i - 1)) hl 6 d_Edges_firstDifferentBit_63 rfl (gn_dec 1 (by omega)) rfl (fun ls hl => ?_)
              refine lv_goto X.1.1 X.1.2.1 d_Edges_firstDifferentBit_66 rfl ?_
              exact ih50 (i - 1) ls (by omega) (by omega) (by rw [hi50_1]; obtain ⟨i, rfl⟩ : ∃ z, i = z + 1 := ⟨i - 1, by omega⟩; rw [e_hb, if_pos hc60]; rfl) hl
      exact loop50 _ 15 ls (Nat.lt_succ_self _) (by omega) rfl hl
    · refine lv_iload X.1.1 X.1.2.1 d_Edges_firstDifferentBit_28 (gl_at hl rfl) ?_
      exact g_iret X B ⟨by unfold e_fdb; rw [if_pos (by omega)], rfl⟩ hL d_Edges_firstDifferentBit_30 (by omega) (by omega)
