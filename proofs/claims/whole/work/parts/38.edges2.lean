/-! the class Edges, 2: printed by wip/specs/edges2.py -/
noncomputable def e_inn (sb : Nat → Nat) (ks : Nat → List Nat) (pairs lf mf : Nat) : Nat → Bool := fun i => @decide (e_new sb i ∧ lf ≤ e_fan sb pairs i (ks i).length ∧ e_fan sb pairs i (ks i).length ≤ mf) (Classical.propDecidable _)
theorem e_inn_t {sb : Nat → Nat} {ks : Nat → List Nat} {pairs lf mf i : Nat} (h : e_new sb i ∧ lf ≤ e_fan sb pairs i (ks i).length ∧ e_fan sb pairs i (ks i).length ≤ mf) : e_inn sb ks pairs lf mf i = true := @decide_eq_true _ (Classical.propDecidable _) h
theorem e_inn_f {sb : Nat → Nat} {ks : Nat → List Nat} {pairs lf mf i : Nat} (h : ¬ (e_new sb i ∧ lf ≤ e_fan sb pairs i (ks i).length ∧ e_fan sb pairs i (ks i).length ≤ mf)) : e_inn sb ks pairs lf mf i = false := @decide_eq_false _ (Classical.propDecidable _) h
abbrev e_sbk (ks : Nat → List Nat) : Nat → Nat := fun j => if (ks j).length ≤ 8 then e_sb (ks j) (ks (j + 1)) else 0
theorem e_sbk_le (ks : Nat → List Nat) (j : Nat) : e_sbk ks j ≤ 17 := by
  unfold e_sbk
  split
  · exact e_sb_le (by assumption)
  · omega
theorem en_t {sb : Nat → Nat} {i : Nat} (h : ¬ nI (@ite _ (e_new sb i) (e_newd sb i) 1 0) = 0) : e_new sb i := @gz_t _ (e_newd sb i) h
theorem en_f {sb : Nat → Nat} {i : Nat} (h : nI (@ite _ (e_new sb i) (e_newd sb i) 1 0) = 0) : ¬ e_new sb i := @gz_f _ (e_newd sb i) h

set_option maxHeartbeats 4000000 in
set_option maxRecDepth 100000 in
theorem c_Edges_countInner0 (l : Launch) (D : va_G) (q : Nat → ClassId) (H : Heap) (eb mb : Nat) (chg lf mf : Nat) (ho : va_at D CL (mb, .inr (1, [.ref (mb + 1), .ref (mb + 130), .int (nI 0), .int (nI chg)])) H) : gC l y_Edges_countInner (Cond.code y_Edges_countInner b_Edges_countInner 8 (some .int) :: gWS) (gR 2 46 0 0) D CL (gY q) (fun _ => True) [.ref eb, .ref mb, .int (nI lf), .int (nI mf)] H (fun v H1 => v = some (.int (nI 0)) ∧ H1 = H) 0 0 (fun _ => False) := by
  refine gC.ofW R_Edges "countInner" (by decide) rfl rfl ?_
  intro p e s m below meth c hadm X hE hH B hne
  refine g_entry [some (.ref eb), some (.ref mb), some (.int (nI lf)), some (.int (nI mf)), none, none, none, none] rfl rfl (Nat.le_of_ble_eq_true rfl) (fun ls hl => ?_)
  refine lv_aload_n X.1.1 X.1.2.1 d_Edges_countInner_0 rfl (gl_at hl rfl) ?_
  refine g_get X kc_KeyMap ho 2 (by decide) lk_Edges_19 rfl d_Edges_countInner_1 ?_
  refine lv_iconst (v := nI 1) X.1.1 X.1.2.1 d_Edges_countInner_4 (by decide) ?_
  refine lv_isub X.1.1 X.1.2.1 d_Edges_countInner_5 ?_
  refine g_ist X.1.1 X.1.2.1 hl 4 d_Edges_countInner_6 (Nat.le_of_ble_eq_true rfl) rfl (fun ls hl => ?_)
  refine lv_iconst (v := nI 0) X.1.1 X.1.2.1 d_Edges_countInner_8 (by decide) ?_
  refine g_ist X.1.1 X.1.2.1 hl 5 d_Edges_countInner_9 (Nat.le_of_ble_eq_true rfl) rfl (fun ls hl => ?_)
  refine lv_iload X.1.1 X.1.2.1 d_Edges_countInner_11 (gl_at hl rfl) ?_
  refine lv_iload X.1.1 X.1.2.1 d_Edges_countInner_13 (gl_at hl rfl) ?_
  refine lv_icmp_ge X.1.1 X.1.2.1 d_Edges_countInner_15 rfl (fun hc15 => ?_) (fun hc15 => ?_)
  · refine lv_iconst (v := nI 0) X.1.1 X.1.2.1 d_Edges_countInner_51 (by decide) ?_
    refine g_ist X.1.1 X.1.2.1 hl 5 d_Edges_countInner_52 (Nat.le_of_ble_eq_true rfl) rfl (fun ls hl => ?_)
    refine lv_iconst (v := nI 0) X.1.1 X.1.2.1 d_Edges_countInner_54 (by decide) ?_
    refine g_ist X.1.1 X.1.2.1 hl 6 d_Edges_countInner_55 (Nat.le_of_ble_eq_true rfl) rfl (fun ls hl => ?_)
    refine lv_iload X.1.1 X.1.2.1 d_Edges_countInner_57 (gl_at hl rfl) ?_
    refine lv_iload X.1.1 X.1.2.1 d_Edges_countInner_59 (gl_at hl rfl) ?_
    refine lv_icmp_ge X.1.1 X.1.2.1 d_Edges_countInner_61 rfl (fun hc61 => ?_) (fun hc61 => ?_)
    · refine lv_iload X.1.1 X.1.2.1 d_Edges_countInner_111 (gl_at hl rfl) ?_
      exact g_iret X B ⟨rfl, rfl⟩ (fun _ h => by cases h) d_Edges_countInner_113 (by omega) (by omega)
    · exact absurd (by decide) hc61
  · exact absurd (by decide) hc15

set_option maxHeartbeats 4000000 in
set_option maxRecDepth 100000 in
theorem c_Edges_countInner (l : Launch) (D : va_G) (q : Nat → ClassId) (H : Heap) (eb : Nat) (S : Nat → Int32) (ho : va_at D CL (eb, .inr (4, [.ref (eb + 1), .ref (eb + 2)])) H) (hS : va_at D CL (eb + 1, .inl (q 0, 64, .inl S)) H) (mb n : Nat) (ks : Nat → List Nat) (vs : Nat → Int32) (chg : Nat) (hm : mA D q H mb n ks vs chg) (hem : eb + 2 < mb ∨ mb + 130 < eb) (hn0 : 0 < n) (lf mf : Nat) (hlf : lf < 2 ^ 31) (hmf : mf < 2 ^ 31) : gC l y_Edges_countInner (Cond.code y_Edges_countInner b_Edges_countInner 8 (some .int) :: gWS) (gR 2 46 0 0) D CL (gY q) (fun _ => True) [.ref eb, .ref mb, .int (nI lf), .int (nI mf)] H (fun v H1 => v = some (.int (nI (v_cnt (e_inn (e_sbk ks) ks (n - 1) lf mf) 0 (n - 1)))) ∧ (∃ S1, va_at D CL (eb + 1, .inl (q 0, 64, .inl S1)) H1) ∧ H1.size = H.size ∧ ∀ p : Nat, p ≠ eb + 1 → H1[p]? = H[p]?) 0 0 (fun p => p = eb + 1) := by
  refine gC.ofW R_Edges "countInner" (by decide) rfl rfl ?_
  intro p e s m below meth c hadm X hE hH B hne
  refine g_entry [some (.ref eb), some (.ref mb), some (.int (nI lf)), some (.int (nI mf)), none, none, none, none] rfl rfl (Nat.le_of_ble_eq_true rfl) (fun ls hl => ?_)
  have ho0 := ho
  have hS0 := hS
  obtain ⟨hm0, hn, ⟨f, g, hf0, hfg, hg, hgi, hks⟩, hvv⟩ := hm
  have hmo := hm0
  have hf := hf0
  refine lv_aload_n X.1.1 X.1.2.1 d_Edges_countInner_0 rfl (gl_at hl rfl) ?_
  refine g_get X kc_KeyMap hmo 2 (by decide) lk_Edges_19 rfl d_Edges_countInner_1 ?_
  refine lv_iconst (v := nI 1) X.1.1 X.1.2.1 d_Edges_countInner_4 (by decide) ?_
  refine lv_isub X.1.1 X.1.2.1 d_Edges_countInner_5 ?_
  refine g_top (nI (n - 1)) (pk_sub (by omega)) ?_
  refine g_ist X.1.1 X.1.2.1 hl 4 d_Edges_countInner_6 (Nat.le_of_ble_eq_true rfl) rfl (fun ls hl => ?_)
  refine lv_iconst (v := nI 0) X.1.1 X.1.2.1 d_Edges_countInner_8 (by decide) ?_
  refine g_ist X.1.1 X.1.2.1 hl 5 d_Edges_countInner_9 (Nat.le_of_ble_eq_true rfl) rfl (fun ls hl => ?_)
  have loop11 : ∀ (fu : Nat) (i : Nat) (S : Nat → Int32) (Hn : Heap) (locs : List Loc) (ls : Array Slot), n - 1 - i < fu → (i ≤ n - 1) → (∀ j, j < i → S j = nI (e_sbk ks j)) → (va_at D CL (eb + 1, .inl (q 0, 64, .inl S)) Hn) → (∀ p : Nat, p ≠ eb + 1 → Hn[p]? = H[p]?) → (Hn.size = H.size) → (∀ x ∈ locs, (fun p => p = eb + 1) x.base) → gl ls [some (.ref eb), some (.ref mb), some (.int (nI lf)), some (.int (nI mf)), some (.int (nI (n - 1))), some (.int (nI i)), none, none] → W p l e (gR 2 46 0 0) s m ([.ref eb, .ref mb, .int (nI lf), .int (nI mf)] : List Value).toArray below meth c Hn locs 0 0 (gQ below ([.ref eb, .ref mb, .int (nI lf), .int (nI mf)] : List Value).toArray s (fun v H1 => v = some (.int (nI (v_cnt (e_inn (e_sbk ks) ks (n - 1) lf mf) 0 (n - 1)))) ∧ (∃ S1, va_at D CL (eb + 1, .inl (q 0, 64, .inl S1)) H1) ∧ H1.size = H.size ∧ ∀ p : Nat, p ≠ eb + 1 → H1[p]? = H[p]?) 0 0 (fun p => p = eb + 1)) (F0 m 11 ls []) := by
    intro fu
    induction fu with
    | zero => intro i S Hn locs ls hmu; omega
    | succ fu ih11 =>
      intro i S Hn locs ls hmu11 hi11_0 hi11_1 hS fr zz hL hl
      have ho := ho0.kept (fr eb (by omega))
      have hmo := hm0.kept (fr mb (by omega))
      have hf := va_at.kept hf0 (fr (mb + 1) (by omega))
      refine lv_iload X.1.1 X.1.2.1 d_Edges_countInner_11 (gl_at hl rfl) ?_
      refine lv_iload X.1.1 X.1.2.1 d_Edges_countInner_13 (gl_at hl rfl) ?_
      refine gn_ge X.1.1 X.1.2.1 i (n - 1) (by omega) (by omega) d_Edges_countInner_15 rfl (fun hc15 => ?_) (fun hc15 => ?_)
      · have e9 : n - 1 = i := by omega
        subst e9
        refine lv_iconst (v := nI 0) X.1.1 X.1.2.1 d_Edges_countInner_51 (by decide) ?_
        refine g_ist X.1.1 X.1.2.1 hl 5 d_Edges_countInner_52 (Nat.le_of_ble_eq_true rfl) rfl (fun ls hl => ?_)
        refine lv_iconst (v := nI 0) X.1.1 X.1.2.1 d_Edges_countInner_54 (by decide) ?_
        refine g_ist X.1.1 X.1.2.1 hl 6 d_Edges_countInner_55 (Nat.le_of_ble_eq_true rfl) rfl (fun ls hl => ?_)
        have loop57 : ∀ (fu : Nat) (i : Nat) (k : Nat) (locs : List Loc) (ls : Array Slot), n - 1 - i < fu → (i ≤ n - 1) → (k = v_cnt (e_inn (e_sbk ks) ks (n - 1) lf mf) 0 i) → (∀ x ∈ locs, (fun p => p = eb + 1) x.base) → gl ls [some (.ref eb), some (.ref mb), some (.int (nI lf)), some (.int (nI mf)), some (.int (nI (n - 1))), some (.int (nI k)), some (.int (nI i)), none] → W p l e (gR 2 46 0 0) s m ([.ref eb, .ref mb, .int (nI lf), .int (nI mf)] : List Value).toArray below meth c Hn locs 0 0 (gQ below ([.ref eb, .ref mb, .int (nI lf), .int (nI mf)] : List Value).toArray s (fun v H1 => v = some (.int (nI (v_cnt (e_inn (e_sbk ks) ks (n - 1) lf mf) 0 (n - 1)))) ∧ (∃ S1, va_at D CL (eb + 1, .inl (q 0, 64, .inl S1)) H1) ∧ H1.size = H.size ∧ ∀ p : Nat, p ≠ eb + 1 → H1[p]? = H[p]?) 0 0 (fun p => p = eb + 1)) (F0 m 57 ls []) := by
          intro fu
          induction fu with
          | zero => intro i k locs ls hmu; omega
          | succ fu ih57 =>
            intro i k locs ls hmu57 hi57_0 hi57_1 hL hl
            have hk9 := v_cnt_le (e_inn (e_sbk ks) ks (n - 1) lf mf) 0 i
            refine lv_iload X.1.1 X.1.2.1 d_Edges_countInner_57 (gl_at hl rfl) ?_
            refine lv_iload X.1.1 X.1.2.1 d_Edges_countInner_59 (gl_at hl rfl) ?_
            refine gn_ge X.1.1 X.1.2.1 i (n - 1) (by omega) (by omega) d_Edges_countInner_61 rfl (fun hc61 => ?_) (fun hc61 => ?_)
            · have e8 : i = n - 1 := by omega
              rw [e8] at hi57_1
              refine lv_iload X.1.1 X.1.2.1 d_Edges_countInner_111 (gl_at hl rfl) ?_
              exact g_iret X B ⟨by rw [hi57_1], ⟨S, hS⟩, zz, fr⟩ hL d_Edges_countInner_113 (by omega) (by omega)
            · refine lv_aload_n X.1.1 X.1.2.1 d_Edges_countInner_64 rfl (gl_at hl rfl) ?_
              refine lv_iload X.1.1 X.1.2.1 d_Edges_countInner_65 (gl_at hl rfl) ?_
              refine g_cv (A := (fun p => p = eb + 1)) X gWS_good mw_Edges_33 kc_Edges ho (c_Edges_isNewText l D q Hn eb S ho hS (e_sbk ks) (n - 1) (by omega) (fun j hj => hi11_1 j (by omega)) (e_sbk_le ks) i (by omega)) (fun _ _ _ => trivial) gBlind.tt rfl rfl hl.1 (Nat.le_of_ble_eq_true rfl) rfl rfl ⟨by decide, by decide⟩ ⟨by decide, by decide⟩ d_Edges_countInner_67 (fun _ h => h.elim) hL (fun v1 H2 locs hp3 hL => ?_)
              obtain ⟨rfl, hHe⟩ := hp3
              rw [hHe]
              refine lv_if_eq X.1.1 X.1.2.1 d_Edges_countInner_70 rfl (fun hc70 => ?_) (fun hc70 => ?_)
              · refine g_iinc X.1.1 X.1.2.1 (nI (i + 1)) hl 6 d_Edges_countInner_105 rfl (nI_1 _) rfl (fun ls hl => ?_)
                refine lv_goto X.1.1 X.1.2.1 d_Edges_countInner_108 rfl ?_
                exact ih57 (i + 1) k locs ls (by omega) (by omega) (by rw [v_cnt, Nat.zero_add]; first | (rw [e_inn_t ⟨en_t hc70, hc93, hc99⟩, if_pos rfl]; omega) | (rw [e_inn_f (fun h => by have h1 := h.2.1; have h2 := h.2.2; omega), if_neg (by decide)]; omega) | (rw [e_inn_f (fun h => en_f hc70 h.1), if_neg (by decide)]; omega)) hL hl
              · refine lv_aload_n X.1.1 X.1.2.1 d_Edges_countInner_73 rfl (gl_at hl rfl) ?_
                refine lv_iload X.1.1 X.1.2.1 d_Edges_countInner_74 (gl_at hl rfl) ?_
                refine lv_iload X.1.1 X.1.2.1 d_Edges_countInner_76 (gl_at hl rfl) ?_
                refine lv_aload_n X.1.1 X.1.2.1 d_Edges_countInner_78 rfl (gl_at hl rfl) ?_
                refine g_get X kc_KeyMap hmo 0 (by decide) lk_Edges_25 rfl d_Edges_countInner_79 ?_
                refine lv_iload X.1.1 X.1.2.1 d_Edges_countInner_82 (gl_at hl rfl) ?_
                refine g_aald X 3 hf rfl i (by omega) (by decide) (v := .ref (g i)) (by rw [hfg _ (by omega)]; rfl) d_Edges_countInner_84 ?_
                obtain ⟨j8, hj8, hgj8⟩ := hg i (by omega)
                have hk1 := (hks i (by omega)).kept (fr _ (by omega)) (fr _ (by omega))
                have hfl := e_fan_le (sb := e_sbk ks) (pairs := n - 1) (i := i) (k := (ks i).length)
                refine g_cv (A := (fun p => p = eb + 1)) X gWS_good mw_Edges_37 kc_Edges ho (c_Edges_fan l D q Hn eb S ho hS (e_sbk ks) (n - 1) (by omega) (fun j hj => hi11_1 j (by omega)) (e_sbk_le ks) i (by omega) (g i) (ks i) hk1) (fun _ _ _ => trivial) gBlind.tt rfl rfl hl.1 (Nat.le_of_ble_eq_true rfl) rfl rfl ⟨by decide, by decide⟩ ⟨by decide, by decide⟩ d_Edges_countInner_85 (fun _ h => h.elim) hL (fun v4 H5 locs hp6 hL => ?_)
                obtain ⟨rfl, hHe⟩ := hp6
                rw [hHe]
                refine g_ist X.1.1 X.1.2.1 hl 7 d_Edges_countInner_88 (Nat.le_of_ble_eq_true rfl) rfl (fun ls hl => ?_)
                refine lv_iload X.1.1 X.1.2.1 d_Edges_countInner_90 (gl_at hl rfl) ?_
                refine lv_iload_n X.1.1 X.1.2.1 d_Edges_countInner_92 rfl (gl_at hl rfl) ?_
                refine gn_lt X.1.1 X.1.2.1 (e_fan (e_sbk ks) (n - 1) i (ks i).length) lf (by omega) (by omega) d_Edges_countInner_93 rfl (fun hc93 => ?_) (fun hc93 => ?_)
                · refine g_iinc X.1.1 X.1.2.1 (nI (i + 1)) hl 6 d_Edges_countInner_105 rfl (nI_1 _) rfl (fun ls hl => ?_)
                  refine lv_goto X.1.1 X.1.2.1 d_Edges_countInner_108 rfl ?_
                  exact ih57 (i + 1) k locs ls (by omega) (by omega) (by rw [v_cnt, Nat.zero_add]; first | (rw [e_inn_t ⟨en_t hc70, hc93, hc99⟩, if_pos rfl]; omega) | (rw [e_inn_f (fun h => by have h1 := h.2.1; have h2 := h.2.2; omega), if_neg (by decide)]; omega) | (rw [e_inn_f (fun h => en_f hc70 h.1), if_neg (by decide)]; omega)) hL (gl_forget hl 7)
                · refine lv_iload X.1.1 X.1.2.1 d_Edges_countInner_96 (gl_at hl rfl) ?_
                  refine lv_iload_n X.1.1 X.1.2.1 d_Edges_countInner_98 rfl (gl_at hl rfl) ?_
                  refine gn_gt X.1.1 X.1.2.1 (e_fan (e_sbk ks) (n - 1) i (ks i).length) mf (by omega) (by omega) d_Edges_countInner_99 rfl (fun hc99 => ?_) (fun hc99 => ?_)
                  · refine g_iinc X.1.1 X.1.2.1 (nI (i + 1)) hl 6 d_Edges_countInner_105 rfl (nI_1 _) rfl (fun ls hl => ?_)
                    refine lv_goto X.1.1 X.1.2.1 d_Edges_countInner_108 rfl ?_
                    exact ih57 (i + 1) k locs ls (by omega) (by omega) (by rw [v_cnt, Nat.zero_add]; first | (rw [e_inn_t ⟨en_t hc70, hc93, hc99⟩, if_pos rfl]; omega) | (rw [e_inn_f (fun h => by have h1 := h.2.1; have h2 := h.2.2; omega), if_neg (by decide)]; omega) | (rw [e_inn_f (fun h => en_f hc70 h.1), if_neg (by decide)]; omega)) hL (gl_forget hl 7)
                  · refine g_iinc X.1.1 X.1.2.1 (nI (k + 1)) hl 5 d_Edges_countInner_102 rfl (nI_1 _) rfl (fun ls hl => ?_)
                    refine g_iinc X.1.1 X.1.2.1 (nI (i + 1)) hl 6 d_Edges_countInner_105 rfl (nI_1 _) rfl (fun ls hl => ?_)
                    refine lv_goto X.1.1 X.1.2.1 d_Edges_countInner_108 rfl ?_
                    exact ih57 (i + 1) (k + 1) locs ls (by omega) (by omega) (by rw [v_cnt, Nat.zero_add]; first | (rw [e_inn_t ⟨en_t hc70, hc93, hc99⟩, if_pos rfl]; omega) | (rw [e_inn_f (fun h => by have h1 := h.2.1; have h2 := h.2.2; omega), if_neg (by decide)]; omega) | (rw [e_inn_f (fun h => en_f hc70 h.1), if_neg (by decide)]; omega)) hL (gl_forget hl 7)
        exact loop57 _ 0 0 locs ls (Nat.lt_succ_self _) (Nat.zero_le _) rfl hL hl
      · refine lv_aload_n X.1.1 X.1.2.1 d_Edges_countInner_18 rfl (gl_at hl rfl) ?_
        refine g_get X kc_Edges ho 0 (by decide) lk_Edges_9 rfl d_Edges_countInner_19 ?_
        refine lv_iload X.1.1 X.1.2.1 d_Edges_countInner_22 (gl_at hl rfl) ?_
        refine lv_aload_n X.1.1 X.1.2.1 d_Edges_countInner_24 rfl (gl_at hl rfl) ?_
        refine lv_aload_n X.1.1 X.1.2.1 d_Edges_countInner_25 rfl (gl_at hl rfl) ?_
        refine g_get X kc_KeyMap hmo 0 (by decide) lk_Edges_25 rfl d_Edges_countInner_26 ?_
        refine lv_iload X.1.1 X.1.2.1 d_Edges_countInner_29 (gl_at hl rfl) ?_
        refine g_aald X 3 hf rfl i (by omega) (by decide) (v := .ref (g i)) (by rw [hfg _ (by omega)]; rfl) d_Edges_countInner_31 ?_
        refine lv_aload_n X.1.1 X.1.2.1 d_Edges_countInner_32 rfl (gl_at hl rfl) ?_
        refine g_get X kc_KeyMap hmo 0 (by decide) lk_Edges_25 rfl d_Edges_countInner_33 ?_
        refine lv_iload X.1.1 X.1.2.1 d_Edges_countInner_36 (gl_at hl rfl) ?_
        refine lv_iconst (v := nI 1) X.1.1 X.1.2.1 d_Edges_countInner_38 (by decide) ?_
        refine lv_iadd X.1.1 X.1.2.1 d_Edges_countInner_39 ?_
        refine g_top (nI (i + 1)) (nI_add _ _) ?_
        refine g_aald X 3 hf rfl (i + 1) (by omega) (by decide) (v := .ref (g (i + 1))) (by rw [hfg _ (by omega)]; rfl) d_Edges_countInner_40 ?_
        obtain ⟨j8, hj8, hgj8⟩ := hg i (by omega)
        obtain ⟨j9, hj9, hgj9⟩ := hg (i + 1) (by omega)
        have hk1 := (hks i (by omega)).kept (fr _ (by omega)) (fr _ (by omega))
        have hk2 := (hks (i + 1) (by omega)).kept (fr _ (by omega)) (fr _ (by omega))
        have hsbe : e_sb (ks i) (ks (i + 1)) = e_sbk ks i := by unfold e_sbk; rw [if_pos hk1.2.2.1]
        refine g_cv (A := (fun p => p = eb + 1)) X gWS_good mw_Edges_29 kc_Edges ho (c_Edges_countSharedBytes l D q Hn eb (g i) (g (i + 1)) (ks i) (ks (i + 1)) hk1 hk2) (fun _ _ _ => trivial) gBlind.tt rfl rfl hl.1 (Nat.le_of_ble_eq_true rfl) rfl rfl ⟨by decide, by decide⟩ ⟨by decide, by decide⟩ d_Edges_countInner_41 (fun _ h => h.elim) hL (fun v7 H8 locs hp9 hL => ?_)
        obtain ⟨rfl, hHe⟩ := hp9
        rw [hHe]
        refine g_top (nI (e_sbk ks i)) (by rw [← hsbe]) ?_
        refine g_iast (A := (fun p => p = eb + 1)) X 0 hS rfl i (by omega) (by decide) d_Edges_countInner_44 rfl hL (fun H10 locs h11 z12 oq13 hL => ?_)
        replace ho := ho.kept (oq13 _ (by omega))
        replace hmo := hmo.kept (oq13 _ (by omega))
        replace hf := hf.kept (oq13 _ (by omega))
        refine g_iinc X.1.1 X.1.2.1 (nI (i + 1)) hl 5 d_Edges_countInner_45 rfl (nI_1 _) rfl (fun ls hl => ?_)
        refine lv_goto X.1.1 X.1.2.1 d_Edges_countInner_48 rfl ?_
        exact ih11 (i + 1) (upd S i (nI (e_sbk ks i))) H10 locs ls (by omega) (by omega) (fun j hj => by
          by_cases h9 : j = i
          · rw [h9, pk_us]
          · rw [pk_un h9]
            exact hi11_1 j (by omega)) h11 (fun p hp => ((oq13 p hp).trans (fr p hp))) (z12.trans zz) hL hl
  exact loop11 _ 0 S H [] ls (Nat.lt_succ_self _) (Nat.zero_le _) (fun j hj => absurd hj (Nat.not_lt_zero j)) hS (fun _ _ => rfl) rfl (fun _ h => by cases h) hl

theorem mS_ne {n : Nat} {ks : Nat → List Nat} (hs : mS n ks) {i j : Nat} (hi : i < n) (hj : j < n) (h : i ≠ j) : ks i ≠ ks j := by
  intro e
  rcases Nat.lt_or_ge i j with h1 | h1
  · have := hs i j h1 hj
    rw [e, t_ord_refl] at this
    omega
  · have := hs j i (by omega) hi
    rw [e, t_ord_refl] at this
    omega

set_option maxHeartbeats 4000000 in
set_option maxRecDepth 100000 in
theorem c_Edges_depth (l : Launch) (D : va_G) (q : Nat → ClassId) (H : Heap) (eb : Nat) (T : Nat → Int32) (ho : va_at D CL (eb, .inr (4, [.ref (eb + 1), .ref (eb + 2)])) H) (hT : va_at D CL (eb + 2, .inl (q 1, 136, .inl T)) H) (mb n : Nat) (ks : Nat → List Nat) (vs : Nat → Int32) (chg : Nat) (hm : mA D q H mb n ks vs chg) (hs : mS n ks) (hem : eb + 2 < mb ∨ mb + 130 < eb) (pl : Nat) (hpl : pl < n) : gC l y_Edges_depth (Cond.code y_Edges_depth b_Edges_depth 6 (some .int) :: gWS) (gR 2 48 0 0) D CL (gY q) (fun _ => True) [.ref eb, .ref mb, .int (nI pl)] H (fun v H1 => v = some (.int (nI (e_dep (fun j => e_fdb (ks pl) (ks j)) pl n))) ∧ (∃ T1, va_at D CL (eb + 2, .inl (q 1, 136, .inl T1)) H1) ∧ H1.size = H.size ∧ ∀ p : Nat, p ≠ eb + 2 → H1[p]? = H[p]?) 0 0 (fun p => p = eb + 2) := by
  refine gC.ofW R_Edges "depth" (by decide) rfl rfl ?_
  intro p e s m below meth c hadm X hE hH B hne
  refine g_entry [some (.ref eb), some (.ref mb), some (.int (nI pl)), none, none, none] rfl rfl (Nat.le_of_ble_eq_true rfl) (fun ls hl => ?_)
  have ho0 := ho
  obtain ⟨hm0, hn, ⟨f, g, hf0, hfg, hg, hgi, hks⟩, hvv⟩ := hm
  have hmo := hm0
  have hf := hf0
  refine lv_iconst (v := nI 0) X.1.1 X.1.2.1 d_Edges_depth_0 (by decide) ?_
  refine g_istn X.1.1 X.1.2.1 hl 3 d_Edges_depth_1 rfl (Nat.le_of_ble_eq_true rfl) rfl (fun ls hl => ?_)
  have loop2 : ∀ (fu : Nat) (i : Nat) (T : Nat → Int32) (Hn : Heap) (locs : List Loc) (ls : Array Slot), 136 - i < fu → (i ≤ 136) → (∀ j, j < i → T j = nI 0) → (va_at D CL (eb + 2, .inl (q 1, 136, .inl T)) Hn) → (∀ p : Nat, p ≠ eb + 2 → Hn[p]? = H[p]?) → (Hn.size = H.size) → (∀ x ∈ locs, (fun p => p = eb + 2) x.base) → gl ls [some (.ref eb), some (.ref mb), some (.int (nI pl)), some (.int (nI i)), none, none] → W p l e (gR 2 48 0 0) s m ([.ref eb, .ref mb, .int (nI pl)] : List Value).toArray below meth c Hn locs 0 0 (gQ below ([.ref eb, .ref mb, .int (nI pl)] : List Value).toArray s (fun v H1 => v = some (.int (nI (e_dep (fun j => e_fdb (ks pl) (ks j)) pl n))) ∧ (∃ T1, va_at D CL (eb + 2, .inl (q 1, 136, .inl T1)) H1) ∧ H1.size = H.size ∧ ∀ p : Nat, p ≠ eb + 2 → H1[p]? = H[p]?) 0 0 (fun p => p = eb + 2)) (F0 m 2 ls []) := by
    intro fu
    induction fu with
    | zero => intro i T Hn locs ls hmu; omega
    | succ fu ih2 =>
      intro i T Hn locs ls hmu2 hi2_0 hi2_1 hT fr zz hL hl
      have ho := ho0.kept (fr eb (by omega))
      have hmo := hm0.kept (fr mb (by omega))
      have hf := va_at.kept hf0 (fr (mb + 1) (by omega))
      refine lv_iload_n X.1.1 X.1.2.1 d_Edges_depth_2 rfl (gl_at hl rfl) ?_
      refine lv_aload_n X.1.1 X.1.2.1 d_Edges_depth_3 rfl (gl_at hl rfl) ?_
      refine g_get X kc_Edges ho 1 (by decide) lk_Edges_15 rfl d_Edges_depth_4 ?_
      refine g_alen X 1 hT rfl d_Edges_depth_7 ?_
      refine gn_ge X.1.1 X.1.2.1 i 136 (by omega) (by omega) d_Edges_depth_8 rfl (fun hc8 => ?_) (fun hc8 => ?_)
      · refine lv_iconst (v := nI 0) X.1.1 X.1.2.1 d_Edges_depth_24 (by decide) ?_
        refine g_istn X.1.1 X.1.2.1 hl 3 d_Edges_depth_25 rfl (Nat.le_of_ble_eq_true rfl) rfl (fun ls hl => ?_)
        refine lv_iconst (v := nI 0) X.1.1 X.1.2.1 d_Edges_depth_26 (by decide) ?_
        refine g_ist X.1.1 X.1.2.1 hl 4 d_Edges_depth_27 (Nat.le_of_ble_eq_true rfl) rfl (fun ls hl => ?_)
        have loop29 : ∀ (fu : Nat) (i : Nat) (k : Nat) (T : Nat → Int32) (Hn : Heap) (locs : List Loc) (ls : Array Slot), n - i < fu → (i ≤ n) → (∀ b, b < 136 → T b = nI (if e_has (fun j => e_fdb (ks pl) (ks j)) pl i b = true then 1 else 0)) → (k = e_dep (fun j => e_fdb (ks pl) (ks j)) pl i) → (va_at D CL (eb + 2, .inl (q 1, 136, .inl T)) Hn) → (∀ p : Nat, p ≠ eb + 2 → Hn[p]? = H[p]?) → (Hn.size = H.size) → (∀ x ∈ locs, (fun p => p = eb + 2) x.base) → gl ls [some (.ref eb), some (.ref mb), some (.int (nI pl)), some (.int (nI k)), some (.int (nI i)), none] → W p l e (gR 2 48 0 0) s m ([.ref eb, .ref mb, .int (nI pl)] : List Value).toArray below meth c Hn locs 0 0 (gQ below ([.ref eb, .ref mb, .int (nI pl)] : List Value).toArray s (fun v H1 => v = some (.int (nI (e_dep (fun j => e_fdb (ks pl) (ks j)) pl n))) ∧ (∃ T1, va_at D CL (eb + 2, .inl (q 1, 136, .inl T1)) H1) ∧ H1.size = H.size ∧ ∀ p : Nat, p ≠ eb + 2 → H1[p]? = H[p]?) 0 0 (fun p => p = eb + 2)) (F0 m 29 ls []) := by
          intro fu
          induction fu with
          | zero => intro i k T Hn locs ls hmu; omega
          | succ fu ih29 =>
            intro i k T Hn locs ls hmu29 hi29_0 hi29_1 hi29_2 hT fr zz hL hl
            have ho := ho0.kept (fr eb (by omega))
            have hmo := hm0.kept (fr mb (by omega))
            have hf := va_at.kept hf0 (fr (mb + 1) (by omega))
            have hd8 := e_dep_le (fun j => e_fdb (ks pl) (ks j)) pl i
            refine lv_iload X.1.1 X.1.2.1 d_Edges_depth_29 (gl_at hl rfl) ?_
            refine lv_aload_n X.1.1 X.1.2.1 d_Edges_depth_31 rfl (gl_at hl rfl) ?_
            refine g_get X kc_KeyMap hmo 2 (by decide) lk_Edges_19 rfl d_Edges_depth_32 ?_
            refine gn_ge X.1.1 X.1.2.1 i n (by omega) (by omega) d_Edges_depth_35 rfl (fun hc35 => ?_) (fun hc35 => ?_)
            · have e9 : i = n := by omega
              rw [e9] at hi29_2
              refine lv_iload_n X.1.1 X.1.2.1 d_Edges_depth_95 rfl (gl_at hl rfl) ?_
              exact g_iret X B ⟨by rw [hi29_2], ⟨T, hT⟩, zz, fr⟩ hL d_Edges_depth_96 (by omega) (by omega)
            · refine lv_iload X.1.1 X.1.2.1 d_Edges_depth_38 (gl_at hl rfl) ?_
              refine lv_iload_n X.1.1 X.1.2.1 d_Edges_depth_40 rfl (gl_at hl rfl) ?_
              refine gn_eq X.1.1 X.1.2.1 i pl (by omega) (by omega) d_Edges_depth_41 rfl (fun hc41 => ?_) (fun hc41 => ?_)
              · refine g_iinc X.1.1 X.1.2.1 (nI (i + 1)) hl 4 d_Edges_depth_89 rfl (nI_1 _) rfl (fun ls hl => ?_)
                refine lv_goto X.1.1 X.1.2.1 d_Edges_depth_92 rfl ?_
                exact ih29 (i + 1) k T Hn locs ls (by omega) (by omega) (fun b hb => by rw [e_has_pl hc41]; exact hi29_1 b hb) (by rw [e_dep, if_pos (Or.inl hc41), hi29_2]; rfl) hT (fun p hp => (fr p hp)) zz hL hl
              · refine lv_aload_n X.1.1 X.1.2.1 d_Edges_depth_44 rfl (gl_at hl rfl) ?_
                refine lv_aload_n X.1.1 X.1.2.1 d_Edges_depth_45 rfl (gl_at hl rfl) ?_
                refine g_get X kc_KeyMap hmo 0 (by decide) lk_Edges_25 rfl d_Edges_depth_46 ?_
                refine lv_iload_n X.1.1 X.1.2.1 d_Edges_depth_49 rfl (gl_at hl rfl) ?_
                refine g_aald X 3 hf rfl pl (by omega) (by decide) (v := .ref (g pl)) (by rw [hfg _ (by omega)]; rfl) d_Edges_depth_50 ?_
                refine lv_aload_n X.1.1 X.1.2.1 d_Edges_depth_51 rfl (gl_at hl rfl) ?_
                refine g_get X kc_KeyMap hmo 0 (by decide) lk_Edges_25 rfl d_Edges_depth_52 ?_
                refine lv_iload X.1.1 X.1.2.1 d_Edges_depth_55 (gl_at hl rfl) ?_
                refine g_aald X 3 hf rfl i (by omega) (by decide) (v := .ref (g i)) (by rw [hfg _ (by omega)]; rfl) d_Edges_depth_57 ?_
                obtain ⟨j8, hj8, hgj8⟩ := hg i (by omega)
                obtain ⟨j9, hj9, hgj9⟩ := hg pl (by omega)
                have hk1 := (hks pl (by omega)).kept (fr _ (by omega)) (fr _ (by omega))
                have hk2 := (hks i (by omega)).kept (fr _ (by omega)) (fr _ (by omega))
                have hne9 : ks pl ≠ ks i := mS_ne hs hpl (by omega) (fun h => hc41 h.symm)
                have hb9 := e_fdb_lt hk1.2.2.1 hk2.2.2.1 hne9
                have hd9 := e_dep_le (fun j => e_fdb (ks pl) (ks j)) pl i
                refine g_cv (A := (fun p => p = eb + 2)) X gWS_good mw_Edges_53 kc_Edges ho (c_Edges_firstDifferentBit l D q Hn eb (g pl) (g i) (ks pl) (ks i) hk1 hk2) (fun _ _ _ => trivial) gBlind.tt rfl rfl hl.1 (Nat.le_of_ble_eq_true rfl) rfl rfl ⟨by decide, by decide⟩ ⟨by decide, by decide⟩ d_Edges_depth_58 (fun _ h => h.elim) hL (fun v1 H2 locs hp3 hL => ?_)
                obtain ⟨rfl, hHe⟩ := hp3
                rw [hHe]
                refine g_ist X.1.1 X.1.2.1 hl 5 d_Edges_depth_61 (Nat.le_of_ble_eq_true rfl) rfl (fun ls hl => ?_)
                refine lv_iload_n X.1.1 X.1.2.1 d_Edges_depth_63 rfl (gl_at hl rfl) ?_
                refine lv_aload_n X.1.1 X.1.2.1 d_Edges_depth_64 rfl (gl_at hl rfl) ?_
                refine g_get X kc_Edges ho 1 (by decide) lk_Edges_15 rfl d_Edges_depth_65 ?_
                refine lv_iload X.1.1 X.1.2.1 d_Edges_depth_68 (gl_at hl rfl) ?_
                refine g_zald X 1 hT rfl (e_fdb (ks pl) (ks i)) (by omega) (by decide) d_Edges_depth_70 ?_
                refine g_top (nI (if e_has (fun j => e_fdb (ks pl) (ks j)) pl i (e_fdb (ks pl) (ks i)) = true then 1 else 0)) (hi29_1 _ hb9) ?_
                refine lv_if_eq X.1.1 X.1.2.1 d_Edges_depth_71 rfl (fun hc71 => ?_) (fun hc71 => ?_)
                · replace hc71 := gz_f hc71
                  refine lv_iconst (v := nI 1) X.1.1 X.1.2.1 d_Edges_depth_78 (by decide) ?_
                  refine lv_iadd X.1.1 X.1.2.1 d_Edges_depth_79 ?_
                  refine g_top (nI (k + 1)) (nI_add _ _) ?_
                  refine g_istn X.1.1 X.1.2.1 hl 3 d_Edges_depth_80 rfl (Nat.le_of_ble_eq_true rfl) rfl (fun ls hl => ?_)
                  refine lv_aload_n X.1.1 X.1.2.1 d_Edges_depth_81 rfl (gl_at hl rfl) ?_
                  refine g_get X kc_Edges ho 1 (by decide) lk_Edges_15 rfl d_Edges_depth_82 ?_
                  refine lv_iload X.1.1 X.1.2.1 d_Edges_depth_85 (gl_at hl rfl) ?_
                  refine lv_iconst (v := nI 1) X.1.1 X.1.2.1 d_Edges_depth_87 (by decide) ?_
                  refine g_zast (A := (fun p => p = eb + 2)) X 1 hT rfl (e_fdb (ks pl) (ks i)) (by omega) (by decide) (by decide) d_Edges_depth_88 rfl hL (fun H4 locs h5 z6 oq7 hL => ?_)
                  replace ho := ho.kept (oq7 _ (by omega))
                  replace hmo := hmo.kept (oq7 _ (by omega))
                  replace hf := hf.kept (oq7 _ (by omega))
                  refine g_iinc X.1.1 X.1.2.1 (nI (i + 1)) hl 4 d_Edges_depth_89 rfl (nI_1 _) rfl (fun ls hl => ?_)
                  refine lv_goto X.1.1 X.1.2.1 d_Edges_depth_92 rfl ?_
                  exact ih29 (i + 1) (k + 1) (upd T (e_fdb (ks pl) (ks i)) (nI 1)) H4 locs ls (by omega) (by omega) (fun b hb => by
                    rw [e_has_s hc41]
                    by_cases h9 : b = e_fdb (ks pl) (ks i)
                    · rw [h9, pk_us, if_pos (by simp)]
                    · rw [pk_un h9, hi29_1 b hb]
                      congr 2
                      simp [Ne.symm h9]) (by rw [e_dep, hi29_2]; first | (rw [if_pos (Or.inr hc71)]) | (rw [if_neg (fun h => h.elim hc41 hc71)])) h5 (fun p hp => ((oq7 p hp).trans (fr p hp))) (z6.trans zz) hL (gl_forget hl 5)
                · replace hc71 := gz_t hc71
                  refine lv_iconst (v := nI 0) X.1.1 X.1.2.1 d_Edges_depth_74 (by decide) ?_
                  refine lv_goto X.1.1 X.1.2.1 d_Edges_depth_75 rfl ?_
                  refine lv_iadd X.1.1 X.1.2.1 d_Edges_depth_79 ?_
                  refine g_top (nI (k + 0)) (nI_add _ _) ?_
                  refine g_istn X.1.1 X.1.2.1 hl 3 d_Edges_depth_80 rfl (Nat.le_of_ble_eq_true rfl) rfl (fun ls hl => ?_)
                  refine lv_aload_n X.1.1 X.1.2.1 d_Edges_depth_81 rfl (gl_at hl rfl) ?_
                  refine g_get X kc_Edges ho 1 (by decide) lk_Edges_15 rfl d_Edges_depth_82 ?_
                  refine lv_iload X.1.1 X.1.2.1 d_Edges_depth_85 (gl_at hl rfl) ?_
                  refine lv_iconst (v := nI 1) X.1.1 X.1.2.1 d_Edges_depth_87 (by decide) ?_
                  refine g_zast (A := (fun p => p = eb + 2)) X 1 hT rfl (e_fdb (ks pl) (ks i)) (by omega) (by decide) (by decide) d_Edges_depth_88 rfl hL (fun H8 locs h9 z10 oq11 hL => ?_)
                  replace ho := ho.kept (oq11 _ (by omega))
                  replace hmo := hmo.kept (oq11 _ (by omega))
                  replace hf := hf.kept (oq11 _ (by omega))
                  refine g_iinc X.1.1 X.1.2.1 (nI (i + 1)) hl 4 d_Edges_depth_89 rfl (nI_1 _) rfl (fun ls hl => ?_)
                  refine lv_goto X.1.1 X.1.2.1 d_Edges_depth_92 rfl ?_
                  exact ih29 (i + 1) (k + 0) (upd T (e_fdb (ks pl) (ks i)) (nI 1)) H8 locs ls (by omega) (by omega) (fun b hb => by
                    rw [e_has_s hc41]
                    by_cases h9 : b = e_fdb (ks pl) (ks i)
                    · rw [h9, pk_us, if_pos (by simp)]
                    · rw [pk_un h9, hi29_1 b hb]
                      congr 2
                      simp [Ne.symm h9]) (by rw [e_dep, hi29_2]; first | (rw [if_pos (Or.inr hc71)]) | (rw [if_neg (fun h => h.elim hc41 hc71)])) h9 (fun p hp => ((oq11 p hp).trans (fr p hp))) (z10.trans zz) hL (gl_forget hl 5)
        exact loop29 _ 0 0 T Hn locs ls (Nat.lt_succ_self _) (Nat.zero_le _) (fun b hb => hi2_1 b (by omega)) rfl hT fr zz hL hl
      · refine lv_aload_n X.1.1 X.1.2.1 d_Edges_depth_11 rfl (gl_at hl rfl) ?_
        refine g_get X kc_Edges ho 1 (by decide) lk_Edges_15 rfl d_Edges_depth_12 ?_
        refine lv_iload_n X.1.1 X.1.2.1 d_Edges_depth_15 rfl (gl_at hl rfl) ?_
        refine lv_iconst (v := nI 0) X.1.1 X.1.2.1 d_Edges_depth_16 (by decide) ?_
        refine g_zast (A := (fun p => p = eb + 2)) X 1 hT rfl i (by omega) (by decide) (by decide) d_Edges_depth_17 rfl hL (fun H12 locs h13 z14 oq15 hL => ?_)
        replace ho := ho.kept (oq15 _ (by omega))
        replace hmo := hmo.kept (oq15 _ (by omega))
        replace hf := hf.kept (oq15 _ (by omega))
        refine g_iinc X.1.1 X.1.2.1 (nI (i + 1)) hl 3 d_Edges_depth_18 rfl (nI_1 _) rfl (fun ls hl => ?_)
        refine lv_goto X.1.1 X.1.2.1 d_Edges_depth_21 rfl ?_
        exact ih2 (i + 1) (upd T i (nI 0)) H12 locs ls (by omega) (by omega) (fun j hj => by
          by_cases h9 : j = i
          · rw [h9, pk_us]
          · rw [pk_un h9]
            exact hi2_1 j (by omega)) h13 (fun p hp => ((oq15 p hp).trans (fr p hp))) (z14.trans zz) hL hl
  exact loop2 _ 0 T H [] ls (Nat.lt_succ_self _) (Nat.zero_le _) (fun j hj => absurd hj (Nat.not_lt_zero j)) hT (fun _ _ => rfl) rfl (fun _ h => by cases h) hl
