/-! the class Automaton: printed by wip/specs/aut.py -/
set_option maxHeartbeats 4000000 in
set_option maxRecDepth 100000 in
theorem c_Automaton_countFollowing (l : Launch) (D : va_G) (q : Nat → ClassId) (H : Heap) (ab n P S sp fi : Nat) (ks : Nat → List Nat) (ho : va_at D CL (ab, .inr (5, [.ref (ab + 1), .int (nI n), .ref (ab + 130), .ref (ab + 131), .ref (ab + 132), .ref (ab + 133), .int (nI P), .ref (ab + 134), .int (nI S), .int (nI sp), .int (nI fi)])) H) (hk : aK D q H ab ks) (hn : n ≤ 64) (F T L : Nat → Int32) (hF : va_at D CL (ab + 130, .inl (q 0, 513, .inl F)) H) (hT : va_at D CL (ab + 131, .inl (q 0, 513, .inl T)) H) (hL0 : va_at D CL (ab + 132, .inl (q 0, 513, .inl L)) H) (x : Nat) (hx : x < 513) (fr to len : Nat) (hFx : F x = nI fr) (hTx : T x = nI to) (hLx : L x = nI len) (hft : fr ≤ to) (hto : to ≤ 64) (hlen : len ≤ 8) : gC l y_Automaton_countFollowing (Cond.code y_Automaton_countFollowing b_Automaton_countFollowing 6 (some .int) :: gWS) (gR 0 0 0 0) D CL (gY q) (fun _ => True) [.ref ab, .int (nI x)] H (fun v H1 => v = some (.int (nI (a_fol ks len fr to))) ∧ H1 = H) 0 0 (fun _ => False) := by
  refine gC.ofW R_Automaton "countFollowing" (by decide) rfl rfl ?_
  intro p e s m below meth c hadm X hE hH B hne
  refine g_entry [some (.ref ab), some (.int (nI x)), none, none, none, none] rfl rfl (Nat.le_of_ble_eq_true rfl) (fun ls hl => ?_)
  have hk0 := hk
  obtain ⟨⟨kf, hkf, hkg⟩, hks⟩ := hk
  have hk := hk0
  refine lv_aload_n X.1.1 X.1.2.1 d_Automaton_countFollowing_0 rfl (gl_at hl rfl) ?_
  refine g_get X kc_Automaton ho 4 (by decide) lk_Automaton_25 rfl d_Automaton_countFollowing_1 ?_
  refine lv_iload_n X.1.1 X.1.2.1 d_Automaton_countFollowing_4 rfl (gl_at hl rfl) ?_
  refine g_iald X 0 hL0 rfl x (by omega) (by decide) d_Automaton_countFollowing_5 ?_
  refine g_top (nI len) hLx ?_
  refine g_istn X.1.1 X.1.2.1 hl 2 d_Automaton_countFollowing_6 rfl (Nat.le_of_ble_eq_true rfl) rfl (fun ls hl => ?_)
  refine lv_iconst (v := nI 0) X.1.1 X.1.2.1 d_Automaton_countFollowing_7 (by decide) ?_
  refine g_istn X.1.1 X.1.2.1 hl 3 d_Automaton_countFollowing_8 rfl (Nat.le_of_ble_eq_true rfl) rfl (fun ls hl => ?_)
  refine lv_iconst (v := (-1)) X.1.1 X.1.2.1 d_Automaton_countFollowing_9 (by decide) ?_
  refine g_ist X.1.1 X.1.2.1 hl 4 d_Automaton_countFollowing_10 (Nat.le_of_ble_eq_true rfl) rfl (fun ls hl => ?_)
  refine lv_aload_n X.1.1 X.1.2.1 d_Automaton_countFollowing_12 rfl (gl_at hl rfl) ?_
  refine g_get X kc_Automaton ho 2 (by decide) lk_Automaton_18 rfl d_Automaton_countFollowing_13 ?_
  refine lv_iload_n X.1.1 X.1.2.1 d_Automaton_countFollowing_16 rfl (gl_at hl rfl) ?_
  refine g_iald X 0 hF rfl x (by omega) (by decide) d_Automaton_countFollowing_17 ?_
  refine g_top (nI fr) hFx ?_
  refine g_ist X.1.1 X.1.2.1 hl 5 d_Automaton_countFollowing_18 (Nat.le_of_ble_eq_true rfl) rfl (fun ls hl => ?_)
  have loop20 : ∀ (fu : Nat) (i : Nat) (k : Nat) (la : Option Nat) (ls : Array Slot), to - i < fu → (fr ≤ i) → (i ≤ to) → (k = a_fol ks len fr i) → (la = a_lat ks len fr i) → (∀ y, la = some y → y < 65536) →  gl ls [some (.ref ab), some (.int (nI x)), some (.int (nI len)), some (.int (nI k)), some (.int (a_lv la)), some (.int (nI i))] → W p l e (gR 0 0 0 0) s m ([.ref ab, .int (nI x)] : List Value).toArray below meth c H [] 0 0 (gQ below ([.ref ab, .int (nI x)] : List Value).toArray s (fun v H1 => v = some (.int (nI (a_fol ks len fr to))) ∧ H1 = H) 0 0 (fun _ => False)) (F0 m 20 ls []) := by
    intro fu
    induction fu with
    | zero => intro i k la ls hmu; omega
    | succ fu ih20 =>
      intro i k la ls hmu20 hi20_0 hi20_1 hi20_2 hi20_3 hi20_4 hl
      refine lv_iload X.1.1 X.1.2.1 d_Automaton_countFollowing_20 (gl_at hl rfl) ?_
      refine lv_aload_n X.1.1 X.1.2.1 d_Automaton_countFollowing_22 rfl (gl_at hl rfl) ?_
      refine g_get X kc_Automaton ho 3 (by decide) lk_Automaton_22 rfl d_Automaton_countFollowing_23 ?_
      refine lv_iload_n X.1.1 X.1.2.1 d_Automaton_countFollowing_26 rfl (gl_at hl rfl) ?_
      refine g_iald X 0 hT rfl x (by omega) (by decide) d_Automaton_countFollowing_27 ?_
      refine g_top (nI to) hTx ?_
      refine gn_ge X.1.1 X.1.2.1 i to (by omega) (by omega) d_Automaton_countFollowing_28 rfl (fun hc28 => ?_) (fun hc28 => ?_)
      · have e9 : i = to := by omega
        rw [e9] at hi20_2
        refine lv_iload_n X.1.1 X.1.2.1 d_Automaton_countFollowing_85 rfl (gl_at hl rfl) ?_
        exact g_iret X B ⟨by rw [hi20_2], rfl⟩ (fun _ h => by cases h) d_Automaton_countFollowing_86 (by omega) (by omega)
      · obtain ⟨hki, ⟨fl, hli, hfl⟩, hxl, hxc⟩ := hks i (by omega)
        refine lv_aload_n X.1.1 X.1.2.1 d_Automaton_countFollowing_31 rfl (gl_at hl rfl) ?_
        refine g_get X kc_Automaton ho 0 (by decide) lk_Automaton_11 rfl d_Automaton_countFollowing_32 ?_
        refine lv_iload X.1.1 X.1.2.1 d_Automaton_countFollowing_35 (gl_at hl rfl) ?_
        refine g_aald X 3 hkf rfl i (by omega) (by decide) (v := .ref (ab + 2 + 2 * i)) (by rw [hkg _ (by omega)]; rfl) d_Automaton_countFollowing_37 ?_
        refine g_get X kc_Key hki 1 (by decide) lk_Automaton_70 rfl d_Automaton_countFollowing_38 ?_
        refine lv_iload_n X.1.1 X.1.2.1 d_Automaton_countFollowing_41 rfl (gl_at hl rfl) ?_
        refine gn_le X.1.1 X.1.2.1 ((ks i).length) len (by omega) (by omega) d_Automaton_countFollowing_42 rfl (fun hc42 => ?_) (fun hc42 => ?_)
        · refine g_iinc X.1.1 X.1.2.1 (nI (i + 1)) hl 5 d_Automaton_countFollowing_79 rfl (nI_1 _) rfl (fun ls hl => ?_)
          refine lv_goto X.1.1 X.1.2.1 d_Automaton_countFollowing_82 rfl ?_
          exact ih20 (i + 1) k la ls (by omega) (by omega) (by omega) (by rw [a_fol_f (by omega) (fun h => by first | (have h1 := h.1; omega) | exact h.2 (by rw [← hi20_3]; exact (a_lv_eq e1 hi20_4).mp hc59)), hi20_2]) (by first | (rw [a_lat_f (by omega) (by omega)]; exact hi20_3) | (rw [a_lat_t (by omega) (by omega)]; exact (a_lv_eq e1 hi20_4).mp hc59)) hi20_4 hl
        · refine lv_aload_n X.1.1 X.1.2.1 d_Automaton_countFollowing_45 rfl (gl_at hl rfl) ?_
          refine g_get X kc_Automaton ho 0 (by decide) lk_Automaton_11 rfl d_Automaton_countFollowing_46 ?_
          refine lv_iload X.1.1 X.1.2.1 d_Automaton_countFollowing_49 (gl_at hl rfl) ?_
          refine g_aald X 3 hkf rfl i (by omega) (by decide) (v := .ref (ab + 2 + 2 * i)) (by rw [hkg _ (by omega)]; rfl) d_Automaton_countFollowing_51 ?_
          refine g_get X kc_Key hki 0 (by decide) lk_Automaton_111 rfl d_Automaton_countFollowing_52 ?_
          refine lv_iload_n X.1.1 X.1.2.1 d_Automaton_countFollowing_55 rfl (gl_at hl rfl) ?_
          refine g_iald X 0 hli rfl len (by omega) (by decide) d_Automaton_countFollowing_56 ?_
          have e1 := t_lt hxc len
          refine g_top (nI ((ks i).getD len 0)) (hfl _ (by omega)) ?_
          refine lv_iload X.1.1 X.1.2.1 d_Automaton_countFollowing_57 (gl_at hl rfl) ?_
          refine lv_icmp_eq X.1.1 X.1.2.1 d_Automaton_countFollowing_59 rfl (fun hc59 => ?_) (fun hc59 => ?_)
          · refine g_iinc X.1.1 X.1.2.1 (nI (i + 1)) hl 5 d_Automaton_countFollowing_79 rfl (nI_1 _) rfl (fun ls hl => ?_)
            refine lv_goto X.1.1 X.1.2.1 d_Automaton_countFollowing_82 rfl ?_
            exact ih20 (i + 1) k la ls (by omega) (by omega) (by omega) (by rw [a_fol_f (by omega) (fun h => by first | (have h1 := h.1; omega) | exact h.2 (by rw [← hi20_3]; exact (a_lv_eq e1 hi20_4).mp hc59)), hi20_2]) (by first | (rw [a_lat_f (by omega) (by omega)]; exact hi20_3) | (rw [a_lat_t (by omega) (by omega)]; exact (a_lv_eq e1 hi20_4).mp hc59)) hi20_4 hl
          · refine lv_aload_n X.1.1 X.1.2.1 d_Automaton_countFollowing_62 rfl (gl_at hl rfl) ?_
            refine g_get X kc_Automaton ho 0 (by decide) lk_Automaton_11 rfl d_Automaton_countFollowing_63 ?_
            refine lv_iload X.1.1 X.1.2.1 d_Automaton_countFollowing_66 (gl_at hl rfl) ?_
            refine g_aald X 3 hkf rfl i (by omega) (by decide) (v := .ref (ab + 2 + 2 * i)) (by rw [hkg _ (by omega)]; rfl) d_Automaton_countFollowing_68 ?_
            refine g_get X kc_Key hki 0 (by decide) lk_Automaton_111 rfl d_Automaton_countFollowing_69 ?_
            refine lv_iload_n X.1.1 X.1.2.1 d_Automaton_countFollowing_72 rfl (gl_at hl rfl) ?_
            refine g_iald X 0 hli rfl len (by omega) (by decide) d_Automaton_countFollowing_73 ?_
            refine g_top (nI ((ks i).getD len 0)) (hfl _ (by omega)) ?_
            refine g_ist X.1.1 X.1.2.1 hl 4 d_Automaton_countFollowing_74 (Nat.le_of_ble_eq_true rfl) rfl (fun ls hl => ?_)
            refine g_iinc X.1.1 X.1.2.1 (nI (k + 1)) hl 3 d_Automaton_countFollowing_76 rfl (nI_1 _) rfl (fun ls hl => ?_)
            refine g_iinc X.1.1 X.1.2.1 (nI (i + 1)) hl 5 d_Automaton_countFollowing_79 rfl (nI_1 _) rfl (fun ls hl => ?_)
            refine lv_goto X.1.1 X.1.2.1 d_Automaton_countFollowing_82 rfl ?_
            exact ih20 (i + 1) (k + 1) (some ((ks i).getD len 0)) ls (by omega) (by omega) (by omega) (by rw [a_fol_t (by omega) (by omega) (by rw [← hi20_3]; exact fun h => hc59 ((a_lv_eq e1 hi20_4).mpr h)), hi20_2]) (by rw [a_lat_t (by omega) (by omega)]) (fun y h => by rw [← Option.some.inj h]; exact e1) hl
  exact loop20 _ fr 0 none ls (Nat.lt_succ_self _) (Nat.le_refl _) hft a_fol_0.symm a_lat_0.symm (fun y h => nomatch h) hl

set_option maxHeartbeats 4000000 in
set_option maxRecDepth 100000 in
theorem c_Automaton_leadAlike (l : Launch) (D : va_G) (q : Nat → ClassId) (H : Heap) (ab n P S sp fi : Nat) (ks : Nat → List Nat) (ho : va_at D CL (ab, .inr (5, [.ref (ab + 1), .int (nI n), .ref (ab + 130), .ref (ab + 131), .ref (ab + 132), .ref (ab + 133), .int (nI P), .ref (ab + 134), .int (nI S), .int (nI sp), .int (nI fi)])) H) (hk : aK D q H ab ks) (hn : n ≤ 64) (F T L : Nat → Int32) (hF : va_at D CL (ab + 130, .inl (q 0, 513, .inl F)) H) (hT : va_at D CL (ab + 131, .inl (q 0, 513, .inl T)) H) (hL0 : va_at D CL (ab + 132, .inl (q 0, 513, .inl L)) H) (x y : Nat) (hx : x < 513) (hy : y < 513) (f1 t1 n1 : Nat) (hF1 : F x = nI f1) (hT1 : T x = nI t1) (hL1 : L x = nI n1) (hf1 : f1 ≤ t1) (ht1 : t1 ≤ 64) (hn1 : ∀ j, f1 ≤ j → j < t1 → n1 ≤ (ks j).length) (f2 t2 n2 : Nat) (hF2 : F y = nI f2) (hT2 : T y = nI t2) (hL2 : L y = nI n2) (hf2 : f2 ≤ t2) (ht2 : t2 ≤ 64) (hn2 : ∀ j, f2 ≤ j → j < t2 → n2 ≤ (ks j).length) : gC l y_Automaton_leadAlike (Cond.code y_Automaton_leadAlike b_Automaton_leadAlike 7 (some .boolean) :: gWS) (gR 1 24 0 0) D CL (gY q) (fun _ => True) [.ref ab, .int (nI x), .int (nI y)] H (fun v H1 => v = some (.int (nI (if a_alr ks f1 t1 n1 f2 t2 n2 = true then 1 else 0))) ∧ H1 = H) 0 0 (fun _ => False) := by
  refine gC.ofW R_Automaton "leadAlike" (by decide) rfl rfl ?_
  intro p e s m below meth c hadm X hE hH B hne
  refine g_entry [some (.ref ab), some (.int (nI x)), some (.int (nI y)), none, none, none, none] rfl rfl (Nat.le_of_ble_eq_true rfl) (fun ls hl => ?_)
  have hk0 := hk
  obtain ⟨⟨kf, hkf, hkg⟩, hks⟩ := hk
  have hk := hk0
  refine lv_aload_n X.1.1 X.1.2.1 d_Automaton_leadAlike_0 rfl (gl_at hl rfl) ?_
  refine g_get X kc_Automaton ho 3 (by decide) lk_Automaton_22 rfl d_Automaton_leadAlike_1 ?_
  refine lv_iload_n X.1.1 X.1.2.1 d_Automaton_leadAlike_4 rfl (gl_at hl rfl) ?_
  refine g_iald X 0 hT rfl x (by omega) (by decide) d_Automaton_leadAlike_5 ?_
  refine g_top (nI t1) hT1 ?_
  refine lv_aload_n X.1.1 X.1.2.1 d_Automaton_leadAlike_6 rfl (gl_at hl rfl) ?_
  refine g_get X kc_Automaton ho 2 (by decide) lk_Automaton_18 rfl d_Automaton_leadAlike_7 ?_
  refine lv_iload_n X.1.1 X.1.2.1 d_Automaton_leadAlike_10 rfl (gl_at hl rfl) ?_
  refine g_iald X 0 hF rfl x (by omega) (by decide) d_Automaton_leadAlike_11 ?_
  refine g_top (nI f1) hF1 ?_
  refine lv_isub X.1.1 X.1.2.1 d_Automaton_leadAlike_12 ?_
  refine g_top (nI (t1 - f1)) (pk_sub (by omega)) ?_
  refine g_istn X.1.1 X.1.2.1 hl 3 d_Automaton_leadAlike_13 rfl (Nat.le_of_ble_eq_true rfl) rfl (fun ls hl => ?_)
  refine lv_iload_n X.1.1 X.1.2.1 d_Automaton_leadAlike_14 rfl (gl_at hl rfl) ?_
  refine lv_aload_n X.1.1 X.1.2.1 d_Automaton_leadAlike_15 rfl (gl_at hl rfl) ?_
  refine g_get X kc_Automaton ho 3 (by decide) lk_Automaton_22 rfl d_Automaton_leadAlike_16 ?_
  refine lv_iload_n X.1.1 X.1.2.1 d_Automaton_leadAlike_19 rfl (gl_at hl rfl) ?_
  refine g_iald X 0 hT rfl y (by omega) (by decide) d_Automaton_leadAlike_20 ?_
  refine g_top (nI t2) hT2 ?_
  refine lv_aload_n X.1.1 X.1.2.1 d_Automaton_leadAlike_21 rfl (gl_at hl rfl) ?_
  refine g_get X kc_Automaton ho 2 (by decide) lk_Automaton_18 rfl d_Automaton_leadAlike_22 ?_
  refine lv_iload_n X.1.1 X.1.2.1 d_Automaton_leadAlike_25 rfl (gl_at hl rfl) ?_
  refine g_iald X 0 hF rfl y (by omega) (by decide) d_Automaton_leadAlike_26 ?_
  refine g_top (nI f2) hF2 ?_
  refine lv_isub X.1.1 X.1.2.1 d_Automaton_leadAlike_27 ?_
  refine g_top (nI (t2 - f2)) (pk_sub (by omega)) ?_
  refine gn_eq X.1.1 X.1.2.1 (t1 - f1) (t2 - f2) (by omega) (by omega) d_Automaton_leadAlike_28 rfl (fun hc28 => ?_) (fun hc28 => ?_)
  · refine lv_iconst (v := nI 0) X.1.1 X.1.2.1 d_Automaton_leadAlike_33 (by decide) ?_
    refine g_ist X.1.1 X.1.2.1 hl 4 d_Automaton_leadAlike_34 (Nat.le_of_ble_eq_true rfl) rfl (fun ls hl => ?_)
    have loop36 : ∀ (fu : Nat) (i : Nat) (locs : List Loc) (ls : Array Slot), t1 - f1 - i < fu → (i ≤ t1 - f1) → (∀ j, j < i → (ks (f1 + j)).drop n1 = (ks (f2 + j)).drop n2) → (∀ x ∈ locs, (fun _ => False) x.base) → gl ls [some (.ref ab), some (.int (nI x)), some (.int (nI y)), some (.int (nI (t1 - f1))), some (.int (nI i)), none, none] → W p l e (gR 1 24 0 0) s m ([.ref ab, .int (nI x), .int (nI y)] : List Value).toArray below meth c H locs 0 0 (gQ below ([.ref ab, .int (nI x), .int (nI y)] : List Value).toArray s (fun v H1 => v = some (.int (nI (if a_alr ks f1 t1 n1 f2 t2 n2 = true then 1 else 0))) ∧ H1 = H) 0 0 (fun _ => False)) (F0 m 36 ls []) := by
      intro fu
      induction fu with
      | zero => intro i locs ls hmu; omega
      | succ fu ih36 =>
        intro i locs ls hmu36 hi36_0 hi36_1 hL hl
        refine lv_iload X.1.1 X.1.2.1 d_Automaton_leadAlike_36 (gl_at hl rfl) ?_
        refine lv_iload_n X.1.1 X.1.2.1 d_Automaton_leadAlike_38 rfl (gl_at hl rfl) ?_
        refine gn_ge X.1.1 X.1.2.1 i (t1 - f1) (by omega) (by omega) d_Automaton_leadAlike_39 rfl (fun hc39 => ?_) (fun hc39 => ?_)
        · refine lv_iconst (v := nI 1) X.1.1 X.1.2.1 d_Automaton_leadAlike_104 (by decide) ?_
          exact g_zret X B (by decide) ⟨by rw [if_pos (a_alr_iff.mpr ⟨hc28, fun j hj => hi36_1 j (by omega)⟩)], rfl⟩ hL d_Automaton_leadAlike_105 (by omega) (by omega)
        · refine lv_aload_n X.1.1 X.1.2.1 d_Automaton_leadAlike_42 rfl (gl_at hl rfl) ?_
          refine g_get X kc_Automaton ho 0 (by decide) lk_Automaton_11 rfl d_Automaton_leadAlike_43 ?_
          refine lv_aload_n X.1.1 X.1.2.1 d_Automaton_leadAlike_46 rfl (gl_at hl rfl) ?_
          refine g_get X kc_Automaton ho 2 (by decide) lk_Automaton_18 rfl d_Automaton_leadAlike_47 ?_
          refine lv_iload_n X.1.1 X.1.2.1 d_Automaton_leadAlike_50 rfl (gl_at hl rfl) ?_
          refine g_iald X 0 hF rfl x (by omega) (by decide) d_Automaton_leadAlike_51 ?_
          refine g_top (nI f1) hF1 ?_
          refine lv_iload X.1.1 X.1.2.1 d_Automaton_leadAlike_52 (gl_at hl rfl) ?_
          refine lv_iadd X.1.1 X.1.2.1 d_Automaton_leadAlike_54 ?_
          refine g_top (nI (f1 + i)) (nI_add _ _) ?_
          refine g_aald X 3 hkf rfl (f1 + i) (by omega) (by decide) (v := .ref (ab + 2 + 2 * (f1 + i))) (by rw [hkg _ (by omega)]; rfl) d_Automaton_leadAlike_55 ?_
          refine g_ast X.1.1 X.1.2.1 hl 5 d_Automaton_leadAlike_56 (Nat.le_of_ble_eq_true rfl) rfl (fun ls hl => ?_)
          refine lv_aload_n X.1.1 X.1.2.1 d_Automaton_leadAlike_58 rfl (gl_at hl rfl) ?_
          refine g_get X kc_Automaton ho 0 (by decide) lk_Automaton_11 rfl d_Automaton_leadAlike_59 ?_
          refine lv_aload_n X.1.1 X.1.2.1 d_Automaton_leadAlike_62 rfl (gl_at hl rfl) ?_
          refine g_get X kc_Automaton ho 2 (by decide) lk_Automaton_18 rfl d_Automaton_leadAlike_63 ?_
          refine lv_iload_n X.1.1 X.1.2.1 d_Automaton_leadAlike_66 rfl (gl_at hl rfl) ?_
          refine g_iald X 0 hF rfl y (by omega) (by decide) d_Automaton_leadAlike_67 ?_
          refine g_top (nI f2) hF2 ?_
          refine lv_iload X.1.1 X.1.2.1 d_Automaton_leadAlike_68 (gl_at hl rfl) ?_
          refine lv_iadd X.1.1 X.1.2.1 d_Automaton_leadAlike_70 ?_
          refine g_top (nI (f2 + i)) (nI_add _ _) ?_
          refine g_aald X 3 hkf rfl (f2 + i) (by omega) (by decide) (v := .ref (ab + 2 + 2 * (f2 + i))) (by rw [hkg _ (by omega)]; rfl) d_Automaton_leadAlike_71 ?_
          refine g_ast X.1.1 X.1.2.1 hl 6 d_Automaton_leadAlike_72 (Nat.le_of_ble_eq_true rfl) rfl (fun ls hl => ?_)
          refine lv_aload X.1.1 X.1.2.1 d_Automaton_leadAlike_74 (gl_at hl rfl) ?_
          refine lv_aload_n X.1.1 X.1.2.1 d_Automaton_leadAlike_76 rfl (gl_at hl rfl) ?_
          refine g_get X kc_Automaton ho 4 (by decide) lk_Automaton_25 rfl d_Automaton_leadAlike_77 ?_
          refine lv_iload_n X.1.1 X.1.2.1 d_Automaton_leadAlike_80 rfl (gl_at hl rfl) ?_
          refine g_iald X 0 hL0 rfl x (by omega) (by decide) d_Automaton_leadAlike_81 ?_
          refine g_top (nI n1) hL1 ?_
          refine lv_aload X.1.1 X.1.2.1 d_Automaton_leadAlike_82 (gl_at hl rfl) ?_
          refine lv_aload_n X.1.1 X.1.2.1 d_Automaton_leadAlike_84 rfl (gl_at hl rfl) ?_
          refine g_get X kc_Automaton ho 4 (by decide) lk_Automaton_25 rfl d_Automaton_leadAlike_85 ?_
          refine lv_iload_n X.1.1 X.1.2.1 d_Automaton_leadAlike_88 rfl (gl_at hl rfl) ?_
          refine g_iald X 0 hL0 rfl y (by omega) (by decide) d_Automaton_leadAlike_89 ?_
          refine g_top (nI n2) hL2 ?_
          refine g_cv (A := (fun _ => False)) X gWS_good mw_Automaton_103 kc_Key (hks (f1 + i) (by omega)).1 (c_Key_hasTail l D q H (ab + 2 + 2 * (f1 + i)) (ab + 2 + 2 * (f2 + i)) (ks (f1 + i)) (ks (f2 + i)) (hks _ (by omega)) (hks _ (by omega)) n1 n2 (hn1 _ (by omega) (by omega)) (hn2 _ (by omega) (by omega))) (fun _ _ _ => trivial) gBlind.tt rfl rfl hl.1 (Nat.le_of_ble_eq_true rfl) rfl rfl ⟨by decide, by decide⟩ ⟨by decide, by decide⟩ d_Automaton_leadAlike_90 (fun _ h => h.elim) hL (fun v1 H2 locs hp3 hL => ?_)
          obtain ⟨rfl, hHe⟩ := hp3
          rw [hHe]
          refine lv_if_ne X.1.1 X.1.2.1 d_Automaton_leadAlike_93 rfl (fun hc93 => ?_) (fun hc93 => ?_)
          · replace hc93 := gz_t hc93
            refine g_iinc X.1.1 X.1.2.1 (nI (i + 1)) hl 4 d_Automaton_leadAlike_98 rfl (nI_1 _) rfl (fun ls hl => ?_)
            refine lv_goto X.1.1 X.1.2.1 d_Automaton_leadAlike_101 rfl ?_
            exact ih36 (i + 1) locs ls (by omega) (by omega) (lt_s hi36_1 hc93) hL (gl_forget (gl_forget hl 5) 6)
          · replace hc93 := gz_f hc93
            refine lv_iconst (v := nI 0) X.1.1 X.1.2.1 d_Automaton_leadAlike_96 (by decide) ?_
            exact g_zret X B (by decide) ⟨by rw [if_neg (fun h => hc93 ((a_alr_iff.mp h).2 i (by omega)))], rfl⟩ hL d_Automaton_leadAlike_97 (by omega) (by omega)
    exact loop36 _ 0 [] ls (Nat.lt_succ_self _) (Nat.zero_le _) (fun j hj => absurd hj (Nat.not_lt_zero j)) (fun _ h => by cases h) hl
  · refine lv_iconst (v := nI 0) X.1.1 X.1.2.1 d_Automaton_leadAlike_31 (by decide) ?_
    exact g_zret X B (by decide) ⟨by rw [if_neg (fun h => hc28 (a_alr_iff.mp h).1)], rfl⟩ (fun _ h => by cases h) d_Automaton_leadAlike_32 (by omega) (by omega)

set_option maxHeartbeats 4000000 in
set_option maxRecDepth 100000 in
theorem c_Automaton_isKnown (l : Launch) (D : va_G) (q : Nat → ClassId) (H : Heap) (ab n : Nat) (es : List (Nat × Nat)) (us : List Nat) (sp fi : Nat) (ks : Nat → List Nat) (ho : va_at D CL (ab, .inr (5, [.ref (ab + 1), .int (nI n), .ref (ab + 130), .ref (ab + 131), .ref (ab + 132), .ref (ab + 133), .int (nI es.length), .ref (ab + 134), .int (nI us.length), .int (nI sp), .int (nI fi)])) H) (hk : aK D q H ab ks) (hn : n ≤ 64) (F T L G U : Nat → Int32) (hF : va_at D CL (ab + 130, .inl (q 0, 513, .inl F)) H) (hT : va_at D CL (ab + 131, .inl (q 0, 513, .inl T)) H) (hL0 : va_at D CL (ab + 132, .inl (q 0, 513, .inl L)) H) (hG : va_at D CL (ab + 133, .inl (q 0, 513, .inl G)) H) (hU : va_at D CL (ab + 134, .inl (q 0, 513, .inl U)) H) (hE0 : aE ks n es F T L G) (hok : a_ok ks n es) (hes : es.length ≤ 513) (hul : us.length ≤ 513) (hus : ∀ t, t < us.length → U t = nI (us.getD t 0) ∧ us.getD t 0 < es.length) (x f0 : Nat) (hx : x < es.length) (hf0 : f0 ≤ us.length) : gC l y_Automaton_isKnown (Cond.code y_Automaton_isKnown b_Automaton_isKnown 4 (some .boolean) :: gWS) (gR 2 50 0 0) D CL (gY q) (fun _ => True) [.ref ab, .int (nI x), .int (nI f0)] H (fun v H1 => v = some (.int (nI (if a_kn ks n es us f0 x = true then 1 else 0))) ∧ H1 = H) 0 0 (fun _ => False) := by
  refine gC.ofW R_Automaton "isKnown" (by decide) rfl rfl ?_
  intro p e s m below meth c hadm X hE hH B hne
  refine g_entry [some (.ref ab), some (.int (nI x)), some (.int (nI f0)), none] rfl rfl (Nat.le_of_ble_eq_true rfl) (fun ls hl => ?_)
  refine lv_iload_n X.1.1 X.1.2.1 d_Automaton_isKnown_0 rfl (gl_at hl rfl) ?_
  refine g_istn X.1.1 X.1.2.1 hl 3 d_Automaton_isKnown_1 rfl (Nat.le_of_ble_eq_true rfl) rfl (fun ls hl => ?_)
  have loop2 : ∀ (fu : Nat) (t : Nat) (locs : List Loc) (ls : Array Slot), us.length - t < fu → (f0 ≤ t) → (t ≤ us.length) → (∀ j, f0 ≤ j → j < t → ¬ a_al ks n es x (us.getD j 0) = true) → (∀ x ∈ locs, (fun _ => False) x.base) → gl ls [some (.ref ab), some (.int (nI x)), some (.int (nI f0)), some (.int (nI t))] → W p l e (gR 2 50 0 0) s m ([.ref ab, .int (nI x), .int (nI f0)] : List Value).toArray below meth c H locs 0 0 (gQ below ([.ref ab, .int (nI x), .int (nI f0)] : List Value).toArray s (fun v H1 => v = some (.int (nI (if a_kn ks n es us f0 x = true then 1 else 0))) ∧ H1 = H) 0 0 (fun _ => False)) (F0 m 2 ls []) := by
    intro fu
    induction fu with
    | zero => intro t locs ls hmu; omega
    | succ fu ih2 =>
      intro t locs ls hmu2 hi2_0 hi2_1 hi2_2 hL hl
      refine lv_iload_n X.1.1 X.1.2.1 d_Automaton_isKnown_2 rfl (gl_at hl rfl) ?_
      refine lv_aload_n X.1.1 X.1.2.1 d_Automaton_isKnown_3 rfl (gl_at hl rfl) ?_
      refine g_get X kc_Automaton ho 8 (by decide) lk_Automaton_83 rfl d_Automaton_isKnown_4 ?_
      refine gn_ge X.1.1 X.1.2.1 t us.length (by omega) (by omega) d_Automaton_isKnown_7 rfl (fun hc7 => ?_) (fun hc7 => ?_)
      · refine lv_iconst (v := nI 0) X.1.1 X.1.2.1 d_Automaton_isKnown_32 (by decide) ?_
        exact g_zret X B (by decide) ⟨by rw [if_neg (fun h => by obtain ⟨j, k1, k2, k3⟩ := a_kn_iff.mp h; exact hi2_2 j k1 (by omega) k3)], rfl⟩ hL d_Automaton_isKnown_33 (by omega) (by omega)
      · refine lv_aload_n X.1.1 X.1.2.1 d_Automaton_isKnown_10 rfl (gl_at hl rfl) ?_
        refine lv_iload_n X.1.1 X.1.2.1 d_Automaton_isKnown_11 rfl (gl_at hl rfl) ?_
        refine lv_aload_n X.1.1 X.1.2.1 d_Automaton_isKnown_12 rfl (gl_at hl rfl) ?_
        refine g_get X kc_Automaton ho 7 (by decide) lk_Automaton_31 rfl d_Automaton_isKnown_13 ?_
        refine lv_iload_n X.1.1 X.1.2.1 d_Automaton_isKnown_16 rfl (gl_at hl rfl) ?_
        refine g_iald X 0 hU rfl t (by omega) (by decide) d_Automaton_isKnown_17 ?_
        have hu2 := (hus t (by omega)).2
        refine g_top (nI (us.getD t 0)) (hus t (by omega)).1 ?_
        obtain ⟨x1, x2, x3, x4⟩ := hE0 x hx
        obtain ⟨y1, y2, y3, y4⟩ := hE0 (us.getD t 0) hu2
        obtain ⟨x5, x6, x7⟩ := a_t_ok hok hx
        obtain ⟨y5, y6, y7⟩ := a_t_ok hok hu2
        refine g_cv (A := (fun _ => False)) X gWS_good mw_Automaton_100 kc_Automaton ho (c_Automaton_leadAlike l D q H ab n es.length us.length sp fi ks ho hk hn F T L hF hT hL0 x (us.getD t 0) (by omega) (by omega) _ _ _ x1 x2 x3 (by omega) (by omega) x7 _ _ _ y1 y2 y3 (by omega) (by omega) y7) (fun _ _ _ => trivial) gBlind.tt rfl rfl hl.1 (Nat.le_of_ble_eq_true rfl) rfl rfl ⟨by decide, by decide⟩ ⟨by decide, by decide⟩ d_Automaton_isKnown_18 (fun _ h => h.elim) hL (fun v1 H2 locs hp3 hL => ?_)
        obtain ⟨rfl, hHe⟩ := hp3
        rw [hHe]
        refine lv_if_eq X.1.1 X.1.2.1 d_Automaton_isKnown_21 rfl (fun hc21 => ?_) (fun hc21 => ?_)
        · replace hc21 := gz_f hc21
          refine g_iinc X.1.1 X.1.2.1 (nI (t + 1)) hl 3 d_Automaton_isKnown_26 rfl (nI_1 _) rfl (fun ls hl => ?_)
          refine lv_goto X.1.1 X.1.2.1 d_Automaton_isKnown_29 rfl ?_
          exact ih2 (t + 1) locs ls (by omega) (by omega) (by omega) (fun j h1 h2 => by
            by_cases h9 : j = t
            · rw [h9]
              exact hc21
            · exact hi2_2 j h1 (by omega)) hL hl
        · replace hc21 := gz_t hc21
          refine lv_iconst (v := nI 1) X.1.1 X.1.2.1 d_Automaton_isKnown_24 (by decide) ?_
          exact g_zret X B (by decide) ⟨by rw [if_pos (a_kn_iff.mpr ⟨t, hi2_0, by omega, hc21⟩)], rfl⟩ hL d_Automaton_isKnown_25 (by omega) (by omega)
  exact loop2 _ f0 [] ls (Nat.lt_succ_self _) (Nat.le_refl _) hf0 (fun j h1 h2 => by omega) (fun _ h => by cases h) hl

set_option maxHeartbeats 4000000 in
set_option maxRecDepth 100000 in
theorem c_Automaton_addState (l : Launch) (D : va_G) (q : Nat → ClassId) (H : Heap) (ab n P S sp fi : Nat) (ks : Nat → List Nat) (ho : va_at D CL (ab, .inr (5, [.ref (ab + 1), .int (nI n), .ref (ab + 130), .ref (ab + 131), .ref (ab + 132), .ref (ab + 133), .int (nI P), .ref (ab + 134), .int (nI S), .int (nI sp), .int (nI fi)])) H) (hk : aK D q H ab ks) (hn : n ≤ 64) (F T L : Nat → Int32) (hF : va_at D CL (ab + 130, .inl (q 0, 513, .inl F)) H) (hT : va_at D CL (ab + 131, .inl (q 0, 513, .inl T)) H) (hL0 : va_at D CL (ab + 132, .inl (q 0, 513, .inl L)) H) (U : Nat → Int32) (hU : va_at D CL (ab + 134, .inl (q 0, 513, .inl U)) H) (hS : S < 513) (x : Nat) (hx : x < 513) (fr to len : Nat) (hFx : F x = nI fr) (hTx : T x = nI to) (hLx : L x = nI len) (hft : fr ≤ to) (hto : to ≤ 64) (hfr : fr < 64) (hlen : len ≤ 8) : gC l y_Automaton_addState (Cond.code y_Automaton_addState b_Automaton_addState 2 none :: gWS) (gR 1 25 0 0) D CL (gY q) (fun _ => True) [.ref ab, .int (nI x)] H (fun v H1 => v = none ∧ va_at D CL (ab, .inr (5, [.ref (ab + 1), .int (nI n), .ref (ab + 130), .ref (ab + 131), .ref (ab + 132), .ref (ab + 133), .int (nI P), .ref (ab + 134), .int (nI (S + 1)), .int (nI (sp + a_fol ks len fr to)), .int (nI (fi + if (ks fr).length = len then 1 else 0))])) H1 ∧ va_at D CL (ab + 134, .inl (q 0, 513, .inl (upd U S (nI x)))) H1 ∧ H1.size = H.size ∧ ∀ p : Nat, ¬ (p = ab ∨ p = ab + 134) → H1[p]? = H[p]?) 0 0 (fun p => p = ab ∨ p = ab + 134) := by
  refine gC.ofW R_Automaton "addState" (by decide) rfl rfl ?_
  intro p e s m below meth c hadm X hE hH B hne
  refine g_entry [some (.ref ab), some (.int (nI x))] rfl rfl (Nat.le_of_ble_eq_true rfl) (fun ls hl => ?_)
  have hk0 := hk
  obtain ⟨⟨kf, hkf, hkg⟩, hks⟩ := hk
  have hk := hk0
  refine lv_aload_n X.1.1 X.1.2.1 d_Automaton_addState_0 rfl (gl_at hl rfl) ?_
  refine g_get X kc_Automaton ho 7 (by decide) lk_Automaton_31 rfl d_Automaton_addState_1 ?_
  refine lv_aload_n X.1.1 X.1.2.1 d_Automaton_addState_4 rfl (gl_at hl rfl) ?_
  refine g_get X kc_Automaton ho 8 (by decide) lk_Automaton_83 rfl d_Automaton_addState_5 ?_
  refine lv_iload_n X.1.1 X.1.2.1 d_Automaton_addState_8 rfl (gl_at hl rfl) ?_
  refine g_iast (A := (fun p => p = ab ∨ p = ab + 134)) X 0 hU rfl S (by omega) (by decide) d_Automaton_addState_9 (Or.inr rfl) (fun _ h => by cases h) (fun H1 locs h2 z3 oq4 hL => ?_)
  replace ho := ho.kept (oq4 _ (by omega))
  replace hkf := hkf.kept (oq4 _ (by omega))
  replace hF := hF.kept (oq4 _ (by omega))
  replace hT := hT.kept (oq4 _ (by omega))
  replace hL0 := hL0.kept (oq4 _ (by omega))
  replace hk := hk.kept (fun p h1 h2 => oq4 p (by omega))
  refine lv_aload_n X.1.1 X.1.2.1 d_Automaton_addState_10 rfl (gl_at hl rfl) ?_
  refine lv_dup X.1.1 X.1.2.1 d_Automaton_addState_11 rfl ?_
  refine g_get X kc_Automaton ho 8 (by decide) lk_Automaton_83 rfl d_Automaton_addState_12 ?_
  refine lv_iconst (v := nI 1) X.1.1 X.1.2.1 d_Automaton_addState_15 (by decide) ?_
  refine lv_iadd X.1.1 X.1.2.1 d_Automaton_addState_16 ?_
  refine g_top (nI (S + 1)) (nI_add _ _) ?_
  refine g_put (A := (fun p => p = ab ∨ p = ab + 134)) X kc_Automaton ho 8 (by decide) lk_Automaton_83 rfl rfl rfl (Nat.le_of_ble_eq_true rfl) d_Automaton_addState_17 (Or.inl rfl) hL (fun H5 locs h6 z7 oq8 hL => ?_)
  replace hkf := hkf.kept (oq8 _ (by omega))
  replace hF := hF.kept (oq8 _ (by omega))
  replace hT := hT.kept (oq8 _ (by omega))
  replace hL0 := hL0.kept (oq8 _ (by omega))
  replace h2 := h2.kept (oq8 _ (by omega))
  replace hk := hk.kept (fun p h1 h2 => oq8 p (by omega))
  refine lv_aload_n X.1.1 X.1.2.1 d_Automaton_addState_20 rfl (gl_at hl rfl) ?_
  refine lv_dup X.1.1 X.1.2.1 d_Automaton_addState_21 rfl ?_
  refine g_get X kc_Automaton h6 9 (by decide) lk_Automaton_86 rfl d_Automaton_addState_22 ?_
  refine lv_aload_n X.1.1 X.1.2.1 d_Automaton_addState_25 rfl (gl_at hl rfl) ?_
  refine lv_iload_n X.1.1 X.1.2.1 d_Automaton_addState_26 rfl (gl_at hl rfl) ?_
  refine g_cv (A := (fun p => p = ab ∨ p = ab + 134)) X gWS_good mw_Automaton_107 kc_Automaton h6 (c_Automaton_countFollowing l D q H5 ab n P (S + 1) sp fi ks h6 hk hn F T L hF hT hL0 x hx fr to len hFx hTx hLx hft hto hlen) (fun _ _ _ => trivial) gBlind.tt rfl rfl hl.1 (Nat.le_of_ble_eq_true rfl) rfl rfl ⟨by decide, by decide⟩ ⟨by decide, by decide⟩ d_Automaton_addState_27 (fun _ h => h.elim) hL (fun v9 H10 locs hp11 hL => ?_)
  obtain ⟨rfl, hHe⟩ := hp11
  rw [hHe]
  refine lv_iadd X.1.1 X.1.2.1 d_Automaton_addState_30 ?_
  refine g_top (nI (sp + (a_fol ks len fr to))) (nI_add _ _) ?_
  refine g_put (A := (fun p => p = ab ∨ p = ab + 134)) X kc_Automaton h6 9 (by decide) lk_Automaton_86 rfl rfl rfl (Nat.le_of_ble_eq_true rfl) d_Automaton_addState_31 (Or.inl rfl) hL (fun H12 locs h13 z14 oq15 hL => ?_)
  replace hkf := hkf.kept (oq15 _ (by omega))
  replace hF := hF.kept (oq15 _ (by omega))
  replace hT := hT.kept (oq15 _ (by omega))
  replace hL0 := hL0.kept (oq15 _ (by omega))
  replace h2 := h2.kept (oq15 _ (by omega))
  replace hk := hk.kept (fun p h1 h2 => oq15 p (by omega))
  refine lv_aload_n X.1.1 X.1.2.1 d_Automaton_addState_34 rfl (gl_at hl rfl) ?_
  refine g_get X kc_Automaton h13 0 (by decide) lk_Automaton_11 rfl d_Automaton_addState_35 ?_
  refine lv_aload_n X.1.1 X.1.2.1 d_Automaton_addState_38 rfl (gl_at hl rfl) ?_
  refine g_get X kc_Automaton h13 2 (by decide) lk_Automaton_18 rfl d_Automaton_addState_39 ?_
  refine lv_iload_n X.1.1 X.1.2.1 d_Automaton_addState_42 rfl (gl_at hl rfl) ?_
  refine g_iald X 0 hF rfl x (by omega) (by decide) d_Automaton_addState_43 ?_
  refine g_top (nI fr) hFx ?_
  refine g_aald X 3 hkf rfl fr (by omega) (by decide) (v := .ref (ab + 2 + 2 * fr)) (by rw [hkg _ (by omega)]; rfl) d_Automaton_addState_44 ?_
  obtain ⟨hki, hli, hxl, hxc⟩ := hk.2 fr (by omega)
  refine g_get X kc_Key hki 1 (by decide) lk_Automaton_70 rfl d_Automaton_addState_45 ?_
  refine lv_aload_n X.1.1 X.1.2.1 d_Automaton_addState_48 rfl (gl_at hl rfl) ?_
  refine g_get X kc_Automaton h13 4 (by decide) lk_Automaton_25 rfl d_Automaton_addState_49 ?_
  refine lv_iload_n X.1.1 X.1.2.1 d_Automaton_addState_52 rfl (gl_at hl rfl) ?_
  refine g_iald X 0 hL0 rfl x (by omega) (by decide) d_Automaton_addState_53 ?_
  refine g_top (nI len) hLx ?_
  refine gn_ne X.1.1 X.1.2.1 ((ks fr).length) len (by omega) (by omega) d_Automaton_addState_54 rfl (fun hc54 => ?_) (fun hc54 => ?_)
  · exact g_vret X B ⟨rfl, by first | (rw [if_pos hc54]; exact h13) | (rw [if_neg hc54]; exact h13), h2, (z14.trans (z7.trans z3)), fun p hp => ((oq15 p (by omega)).trans ((oq8 p (by omega)).trans (oq4 p (by omega))))⟩ hL d_Automaton_addState_67 (by omega) (by omega)
  · refine lv_aload_n X.1.1 X.1.2.1 d_Automaton_addState_57 rfl (gl_at hl rfl) ?_
    refine lv_dup X.1.1 X.1.2.1 d_Automaton_addState_58 rfl ?_
    refine g_get X kc_Automaton h13 10 (by decide) lk_Automaton_89 rfl d_Automaton_addState_59 ?_
    refine lv_iconst (v := nI 1) X.1.1 X.1.2.1 d_Automaton_addState_62 (by decide) ?_
    refine lv_iadd X.1.1 X.1.2.1 d_Automaton_addState_63 ?_
    refine g_top (nI (fi + 1)) (nI_add _ _) ?_
    refine g_put (A := (fun p => p = ab ∨ p = ab + 134)) X kc_Automaton h13 10 (by decide) lk_Automaton_89 rfl rfl rfl (Nat.le_of_ble_eq_true rfl) d_Automaton_addState_64 (Or.inl rfl) hL (fun H16 locs h17 z18 oq19 hL => ?_)
    replace hkf := hkf.kept (oq19 _ (by omega))
    replace hF := hF.kept (oq19 _ (by omega))
    replace hT := hT.kept (oq19 _ (by omega))
    replace hL0 := hL0.kept (oq19 _ (by omega))
    replace h2 := h2.kept (oq19 _ (by omega))
    replace hki := hki.kept (oq19 _ (by omega))
    replace hk := hk.kept (fun p h1 h2 => oq19 p (by omega))
    exact g_vret X B ⟨rfl, by first | (rw [if_pos hc54]; exact h17) | (rw [if_neg hc54]; exact h17), h2, (z18.trans (z14.trans (z7.trans z3))), fun p hp => ((oq19 p (by omega)).trans ((oq15 p (by omega)).trans ((oq8 p (by omega)).trans (oq4 p (by omega)))))⟩ hL d_Automaton_addState_67 (by omega) (by omega)

set_option maxHeartbeats 4000000 in
set_option maxRecDepth 100000 in
theorem c_Automaton_reach (l : Launch) (D : va_G) (q : Nat → ClassId) (H : Heap) (ab n P S sp fi : Nat) (ks : Nat → List Nat) (ho : va_at D CL (ab, .inr (5, [.ref (ab + 1), .int (nI n), .ref (ab + 130), .ref (ab + 131), .ref (ab + 132), .ref (ab + 133), .int (nI P), .ref (ab + 134), .int (nI S), .int (nI sp), .int (nI fi)])) H) (hk : aK D q H ab ks) (hn : n ≤ 64) (b : Nat) (ys : List Nat) (hys : kA D q H b ys) : gC l y_Automaton_reach (Cond.code y_Automaton_reach b_Automaton_reach 4 (some .int) :: gWS) (gR 1 22 0 0) D CL (gY q) (fun _ => True) [.ref ab, .ref b] H (fun v H1 => v = some (.int (a_rv ks ys n)) ∧ H1 = H) 0 0 (fun _ => False) := by
  refine gC.ofW R_Automaton "reach" (by decide) rfl rfl ?_
  intro p e s m below meth c hadm X hE hH B hne
  refine g_entry [some (.ref ab), some (.ref b), none, none] rfl rfl (Nat.le_of_ble_eq_true rfl) (fun ls hl => ?_)
  have hk0 := hk
  obtain ⟨⟨kf, hkf, hkg⟩, hks⟩ := hk
  have hk := hk0
  refine lv_iconst (v := (-1)) X.1.1 X.1.2.1 d_Automaton_reach_0 (by decide) ?_
  refine g_istn X.1.1 X.1.2.1 hl 2 d_Automaton_reach_1 rfl (Nat.le_of_ble_eq_true rfl) rfl (fun ls hl => ?_)
  refine lv_iconst (v := nI 0) X.1.1 X.1.2.1 d_Automaton_reach_2 (by decide) ?_
  refine g_istn X.1.1 X.1.2.1 hl 3 d_Automaton_reach_3 rfl (Nat.le_of_ble_eq_true rfl) rfl (fun ls hl => ?_)
  have loop4 : ∀ (fu : Nat) (i : Nat) (locs : List Loc) (ls : Array Slot), n - i < fu → (i ≤ n) → (∀ x ∈ locs, (fun _ => False) x.base) → gl ls [some (.ref ab), some (.ref b), some (.int (a_rv ks ys i)), some (.int (nI i))] → W p l e (gR 1 22 0 0) s m ([.ref ab, .ref b] : List Value).toArray below meth c H locs 0 0 (gQ below ([.ref ab, .ref b] : List Value).toArray s (fun v H1 => v = some (.int (a_rv ks ys n)) ∧ H1 = H) 0 0 (fun _ => False)) (F0 m 4 ls []) := by
    intro fu
    induction fu with
    | zero => intro i locs ls hmu; omega
    | succ fu ih4 =>
      intro i locs ls hmu4 hi4_0 hL hl
      refine lv_iload_n X.1.1 X.1.2.1 d_Automaton_reach_4 rfl (gl_at hl rfl) ?_
      refine lv_aload_n X.1.1 X.1.2.1 d_Automaton_reach_5 rfl (gl_at hl rfl) ?_
      refine g_get X kc_Automaton ho 1 (by decide) lk_Automaton_40 rfl d_Automaton_reach_6 ?_
      refine gn_ge X.1.1 X.1.2.1 i n (by omega) (by omega) d_Automaton_reach_9 rfl (fun hc9 => ?_) (fun hc9 => ?_)
      · have e9 : i = n := by omega
        refine lv_iload_n X.1.1 X.1.2.1 d_Automaton_reach_33 rfl (gl_at hl rfl) ?_
        exact g_iret X B ⟨by rw [e9], rfl⟩ hL d_Automaton_reach_34 (by omega) (by omega)
      · refine lv_iload_n X.1.1 X.1.2.1 d_Automaton_reach_12 rfl (gl_at hl rfl) ?_
        refine lv_aload_n X.1.1 X.1.2.1 d_Automaton_reach_13 rfl (gl_at hl rfl) ?_
        refine g_get X kc_Automaton ho 0 (by decide) lk_Automaton_11 rfl d_Automaton_reach_14 ?_
        refine lv_iload_n X.1.1 X.1.2.1 d_Automaton_reach_17 rfl (gl_at hl rfl) ?_
        refine g_aald X 3 hkf rfl i (by omega) (by decide) (v := .ref (ab + 2 + 2 * i)) (by rw [hkg _ (by omega)]; rfl) d_Automaton_reach_18 ?_
        refine lv_aload_n X.1.1 X.1.2.1 d_Automaton_reach_19 rfl (gl_at hl rfl) ?_
        refine g_cv (A := (fun _ => False)) X gWS_good mw_Automaton_66 kc_Key (hks i (by omega)).1 (c_Key_shared l D q H (ab + 2 + 2 * i) b (ks i) ys (hks i (by omega)) hys) (fun _ _ _ => trivial) gBlind.tt rfl rfl hl.1 (Nat.le_of_ble_eq_true rfl) rfl rfl ⟨by decide, by decide⟩ ⟨by decide, by decide⟩ d_Automaton_reach_20 (fun _ h => h.elim) hL (fun v1 H2 locs hp3 hL => ?_)
        obtain ⟨rfl, hHe⟩ := hp3
        rw [hHe]
        refine va_mmax X.1.1 X.1.2.1 (by rw [X.1.2.2.1]; exact hl.1.symm) X.1.2.2.2.1 (X.1.2.2.2.2 _ mm_Automaton_77.1) (X.1.2.2.2.2 _ mm_Automaton_77.2.1) (X.1.2.2.2.2 _ mm_Automaton_77.2.2.1) (X.1.2.2.2.2 _ mm_Automaton_77.2.2.2) (by decide) (Nat.le_of_ble_eq_true rfl) (by decide) (by decide) d_Automaton_reach_23 ?_
        refine g_top (a_rv ks ys (i + 1)) (a_rv_s hys.2.2.1 i) ?_
        refine g_istn X.1.1 X.1.2.1 hl 2 d_Automaton_reach_26 rfl (Nat.le_of_ble_eq_true rfl) rfl (fun ls hl => ?_)
        refine g_iinc X.1.1 X.1.2.1 (nI (i + 1)) hl 3 d_Automaton_reach_27 rfl (nI_1 _) rfl (fun ls hl => ?_)
        refine lv_goto X.1.1 X.1.2.1 d_Automaton_reach_30 rfl ?_
        exact ih4 (i + 1) locs ls (by omega) (by omega) hL hl
  exact loop4 _ 0 [] ls (Nat.lt_succ_self _) (Nat.zero_le _) (fun _ h => by cases h) hl

set_option maxHeartbeats 4000000 in
set_option maxRecDepth 100000 in
theorem c_Automaton_accepts (l : Launch) (D : va_G) (q : Nat → ClassId) (H : Heap) (ab n P S sp fi : Nat) (ks : Nat → List Nat) (ho : va_at D CL (ab, .inr (5, [.ref (ab + 1), .int (nI n), .ref (ab + 130), .ref (ab + 131), .ref (ab + 132), .ref (ab + 133), .int (nI P), .ref (ab + 134), .int (nI S), .int (nI sp), .int (nI fi)])) H) (hk : aK D q H ab ks) (hn : n ≤ 64) (b : Nat) (ys : List Nat) (hys : kA D q H b ys) : gC l y_Automaton_accepts (Cond.code y_Automaton_accepts b_Automaton_accepts 3 (some .boolean) :: gWS) (gR 2 44 0 0) D CL (gY q) (fun _ => True) [.ref ab, .ref b] H (fun v H1 => v = some (.int (nI (if a_ac ks n ys = true then 1 else 0))) ∧ H1 = H) 0 0 (fun _ => False) := by
  refine gC.ofW R_Automaton "accepts" (by decide) rfl rfl ?_
  intro p e s m below meth c hadm X hE hH B hne
  refine g_entry [some (.ref ab), some (.ref b), none] rfl rfl (Nat.le_of_ble_eq_true rfl) (fun ls hl => ?_)
  have hk0 := hk
  obtain ⟨⟨kf, hkf, hkg⟩, hks⟩ := hk
  have hk := hk0
  refine lv_iconst (v := nI 0) X.1.1 X.1.2.1 d_Automaton_accepts_0 (by decide) ?_
  refine g_istn X.1.1 X.1.2.1 hl 2 d_Automaton_accepts_1 rfl (Nat.le_of_ble_eq_true rfl) rfl (fun ls hl => ?_)
  have loop2 : ∀ (fu : Nat) (i : Nat) (locs : List Loc) (ls : Array Slot), n - i < fu → (i ≤ n) → (∀ j, j < i → ks j ≠ ys) → (∀ x ∈ locs, (fun _ => False) x.base) → gl ls [some (.ref ab), some (.ref b), some (.int (nI i))] → W p l e (gR 2 44 0 0) s m ([.ref ab, .ref b] : List Value).toArray below meth c H locs 0 0 (gQ below ([.ref ab, .ref b] : List Value).toArray s (fun v H1 => v = some (.int (nI (if a_ac ks n ys = true then 1 else 0))) ∧ H1 = H) 0 0 (fun _ => False)) (F0 m 2 ls []) := by
    intro fu
    induction fu with
    | zero => intro i locs ls hmu; omega
    | succ fu ih2 =>
      intro i locs ls hmu2 hi2_0 hi2_1 hL hl
      refine lv_iload_n X.1.1 X.1.2.1 d_Automaton_accepts_2 rfl (gl_at hl rfl) ?_
      refine lv_aload_n X.1.1 X.1.2.1 d_Automaton_accepts_3 rfl (gl_at hl rfl) ?_
      refine g_get X kc_Automaton ho 1 (by decide) lk_Automaton_40 rfl d_Automaton_accepts_4 ?_
      refine gn_ge X.1.1 X.1.2.1 i n (by omega) (by omega) d_Automaton_accepts_7 rfl (fun hc7 => ?_) (fun hc7 => ?_)
      · refine lv_iconst (v := nI 0) X.1.1 X.1.2.1 d_Automaton_accepts_31 (by decide) ?_
        exact g_zret X B (by decide) ⟨by rw [if_neg (fun h => by obtain ⟨j, k1, k2⟩ := a_ac_iff.mp h; exact hi2_1 j (by omega) k2)], rfl⟩ hL d_Automaton_accepts_32 (by omega) (by omega)
      · refine lv_aload_n X.1.1 X.1.2.1 d_Automaton_accepts_10 rfl (gl_at hl rfl) ?_
        refine g_get X kc_Automaton ho 0 (by decide) lk_Automaton_11 rfl d_Automaton_accepts_11 ?_
        refine lv_iload_n X.1.1 X.1.2.1 d_Automaton_accepts_14 rfl (gl_at hl rfl) ?_
        refine g_aald X 3 hkf rfl i (by omega) (by decide) (v := .ref (ab + 2 + 2 * i)) (by rw [hkg _ (by omega)]; rfl) d_Automaton_accepts_15 ?_
        refine lv_aload_n X.1.1 X.1.2.1 d_Automaton_accepts_16 rfl (gl_at hl rfl) ?_
        refine g_cv (A := (fun _ => False)) X gWS_good mw_Automaton_114 kc_Key (hks i (by omega)).1 (c_Key_order l D q H (ab + 2 + 2 * i) b (ks i) ys (hks i (by omega)) hys) (fun _ _ _ => trivial) gBlind.tt rfl rfl hl.1 (Nat.le_of_ble_eq_true rfl) rfl rfl ⟨by decide, by decide⟩ ⟨by decide, by decide⟩ d_Automaton_accepts_17 (fun _ h => h.elim) hL (fun v1 H2 locs hp3 hL => ?_)
        obtain ⟨r, rfl, hr, hHe⟩ := hp3
        rw [hHe]
        refine lv_if_ne X.1.1 X.1.2.1 d_Automaton_accepts_20 rfl (fun hc20 => ?_) (fun hc20 => ?_)
        · refine g_iinc X.1.1 X.1.2.1 (nI (i + 1)) hl 2 d_Automaton_accepts_25 rfl (nI_1 _) rfl (fun ls hl => ?_)
          refine lv_goto X.1.1 X.1.2.1 d_Automaton_accepts_28 rfl ?_
          exact ih2 (i + 1) locs ls (by omega) (by omega) (lt_s hi2_1 (fun h9 => gi_ne hc20 (by rw [hr, h9, t_ord_refl]))) hL hl
        · refine lv_iconst (v := nI 1) X.1.1 X.1.2.1 d_Automaton_accepts_23 (by decide) ?_
          exact g_zret X B (by decide) ⟨by rw [if_pos (a_ac_iff.mpr ⟨i, by omega, t_ord_eq _ _ (by rw [← hr]; exact gi_eq hc20)⟩)], rfl⟩ hL d_Automaton_accepts_24 (by omega) (by omega)
  exact loop2 _ 0 [] ls (Nat.lt_succ_self _) (Nat.zero_le _) (fun j hj => absurd hj (Nat.not_lt_zero j)) (fun _ h => by cases h) hl

set_option maxHeartbeats 4000000 in
set_option maxRecDepth 100000 in
theorem c_Automaton_addPrefix (l : Launch) (D : va_G) (q : Nat → ClassId) (H : Heap) (ab n : Nat) (es : List (Nat × Nat)) (S sp fi : Nat) (ks : Nat → List Nat) (ho : va_at D CL (ab, .inr (5, [.ref (ab + 1), .int (nI n), .ref (ab + 130), .ref (ab + 131), .ref (ab + 132), .ref (ab + 133), .int (nI es.length), .ref (ab + 134), .int (nI S), .int (nI sp), .int (nI fi)])) H) (hk : aK D q H ab ks) (hn : n ≤ 64) (F T L G : Nat → Int32) (hF : va_at D CL (ab + 130, .inl (q 0, 513, .inl F)) H) (hT : va_at D CL (ab + 131, .inl (q 0, 513, .inl T)) H) (hL0 : va_at D CL (ab + 132, .inl (q 0, 513, .inl L)) H) (hG : va_at D CL (ab + 133, .inl (q 0, 513, .inl G)) H) (hE0 : aE ks n es F T L G) (hes : es.length < 513) (i len : Nat) (hi : i < n) (hlen : len ≤ (ks i).length) : gC l y_Automaton_addPrefix (Cond.code y_Automaton_addPrefix b_Automaton_addPrefix 5 none :: gWS) (gR 1 22 0 0) D CL (gY q) (fun _ => True) [.ref ab, .int (nI i), .int (nI len)] H (fun v H1 => v = none ∧ va_at D CL (ab, .inr (5, [.ref (ab + 1), .int (nI n), .ref (ab + 130), .ref (ab + 131), .ref (ab + 132), .ref (ab + 133), .int (nI (es ++ [(i, len)]).length), .ref (ab + 134), .int (nI S), .int (nI sp), .int (nI fi)])) H1 ∧ (∃ F1 T1 L1 G1 : Nat → Int32, va_at D CL (ab + 130, .inl (q 0, 513, .inl F1)) H1 ∧ va_at D CL (ab + 131, .inl (q 0, 513, .inl T1)) H1 ∧ va_at D CL (ab + 132, .inl (q 0, 513, .inl L1)) H1 ∧ va_at D CL (ab + 133, .inl (q 0, 513, .inl G1)) H1 ∧ aE ks n (es ++ [(i, len)]) F1 T1 L1 G1) ∧ H1.size = H.size ∧ ∀ p : Nat, ¬ (p = ab ∨ (ab + 130 ≤ p ∧ p ≤ ab + 133)) → H1[p]? = H[p]?) 0 0 (fun p => p = ab ∨ (ab + 130 ≤ p ∧ p ≤ ab + 133)) := by
  refine gC.ofW R_Automaton "addPrefix" (by decide) rfl rfl ?_
  intro p e s m below meth c hadm X hE hH B hne
  refine g_entry [some (.ref ab), some (.int (nI i)), some (.int (nI len)), none, none] rfl rfl (Nat.le_of_ble_eq_true rfl) (fun ls hl => ?_)
  have hk0 := hk
  obtain ⟨⟨kf, hkf, hkg⟩, hks⟩ := hk
  have hk := hk0
  have hx1 := (hks i (by omega)).2.2.1
  refine lv_iload_n X.1.1 X.1.2.1 d_Automaton_addPrefix_0 rfl (gl_at hl rfl) ?_
  refine g_istn X.1.1 X.1.2.1 hl 3 d_Automaton_addPrefix_1 rfl (Nat.le_of_ble_eq_true rfl) rfl (fun ls hl => ?_)
  refine lv_iload_n X.1.1 X.1.2.1 d_Automaton_addPrefix_2 rfl (gl_at hl rfl) ?_
  refine g_ist X.1.1 X.1.2.1 hl 4 d_Automaton_addPrefix_3 (Nat.le_of_ble_eq_true rfl) rfl (fun ls hl => ?_)
  have loop5 : ∀ (fu : Nat) (t : Nat) (k : Nat) (locs : List Loc) (ls : Array Slot), n - t < fu → (i ≤ t) → (t ≤ n) → (a_toF ks n i len (n - t) t = a_to ks n i len) → (a_hiF ks n i len (n - t) t k = a_hiF ks n i len (n - i) i len) → (len ≤ k) → (k ≤ 8) → (∀ x ∈ locs, (fun p => p = ab ∨ (ab + 130 ≤ p ∧ p ≤ ab + 133)) x.base) → gl ls [some (.ref ab), some (.int (nI i)), some (.int (nI len)), some (.int (nI t)), some (.int (nI k))] → W p l e (gR 1 22 0 0) s m ([.ref ab, .int (nI i), .int (nI len)] : List Value).toArray below meth c H locs 0 0 (gQ below ([.ref ab, .int (nI i), .int (nI len)] : List Value).toArray s (fun v H1 => v = none ∧ va_at D CL (ab, .inr (5, [.ref (ab + 1), .int (nI n), .ref (ab + 130), .ref (ab + 131), .ref (ab + 132), .ref (ab + 133), .int (nI (es ++ [(i, len)]).length), .ref (ab + 134), .int (nI S), .int (nI sp), .int (nI fi)])) H1 ∧ (∃ F1 T1 L1 G1 : Nat → Int32, va_at D CL (ab + 130, .inl (q 0, 513, .inl F1)) H1 ∧ va_at D CL (ab + 131, .inl (q 0, 513, .inl T1)) H1 ∧ va_at D CL (ab + 132, .inl (q 0, 513, .inl L1)) H1 ∧ va_at D CL (ab + 133, .inl (q 0, 513, .inl G1)) H1 ∧ aE ks n (es ++ [(i, len)]) F1 T1 L1 G1) ∧ H1.size = H.size ∧ ∀ p : Nat, ¬ (p = ab ∨ (ab + 130 ≤ p ∧ p ≤ ab + 133)) → H1[p]? = H[p]?) 0 0 (fun p => p = ab ∨ (ab + 130 ≤ p ∧ p ≤ ab + 133))) (F0 m 5 ls []) := by
    intro fu
    induction fu with
    | zero => intro t k locs ls hmu; omega
    | succ fu ih5 =>
      intro t k locs ls hmu5 hi5_0 hi5_1 hi5_2 hi5_3 hi5_4 hi5_5 hL hl
      refine lv_iload_n X.1.1 X.1.2.1 d_Automaton_addPrefix_5 rfl (gl_at hl rfl) ?_
      refine lv_aload_n X.1.1 X.1.2.1 d_Automaton_addPrefix_6 rfl (gl_at hl rfl) ?_
      refine g_get X kc_Automaton ho 1 (by decide) lk_Automaton_40 rfl d_Automaton_addPrefix_7 ?_
      refine gn_ge X.1.1 X.1.2.1 t n (by omega) (by omega) d_Automaton_addPrefix_10 rfl (fun hc10 => ?_) (fun hc10 => ?_)
      · refine lv_aload_n X.1.1 X.1.2.1 d_Automaton_addPrefix_54 rfl (gl_at hl rfl) ?_
        refine g_get X kc_Automaton ho 2 (by decide) lk_Automaton_18 rfl d_Automaton_addPrefix_55 ?_
        refine lv_aload_n X.1.1 X.1.2.1 d_Automaton_addPrefix_58 rfl (gl_at hl rfl) ?_
        refine g_get X kc_Automaton ho 6 (by decide) lk_Automaton_63 rfl d_Automaton_addPrefix_59 ?_
        refine lv_iload_n X.1.1 X.1.2.1 d_Automaton_addPrefix_62 rfl (gl_at hl rfl) ?_
        refine g_iast (A := (fun p => p = ab ∨ (ab + 130 ≤ p ∧ p ≤ ab + 133))) X 0 hF rfl es.length (by omega) (by decide) d_Automaton_addPrefix_63 (show _ ∨ _ by omega) hL (fun H1 locs h2 z3 oq4 hL => ?_)
        replace ho := ho.kept (oq4 _ (by omega))
        replace hkf := hkf.kept (oq4 _ (by omega))
        replace hT := hT.kept (oq4 _ (by omega))
        replace hL0 := hL0.kept (oq4 _ (by omega))
        replace hG := hG.kept (oq4 _ (by omega))
        replace hk := hk.kept (fun p h1 h2 => oq4 p (by omega))
        refine lv_aload_n X.1.1 X.1.2.1 d_Automaton_addPrefix_64 rfl (gl_at hl rfl) ?_
        refine g_get X kc_Automaton ho 3 (by decide) lk_Automaton_22 rfl d_Automaton_addPrefix_65 ?_
        refine lv_aload_n X.1.1 X.1.2.1 d_Automaton_addPrefix_68 rfl (gl_at hl rfl) ?_
        refine g_get X kc_Automaton ho 6 (by decide) lk_Automaton_63 rfl d_Automaton_addPrefix_69 ?_
        refine lv_iload_n X.1.1 X.1.2.1 d_Automaton_addPrefix_72 rfl (gl_at hl rfl) ?_
        refine g_iast (A := (fun p => p = ab ∨ (ab + 130 ≤ p ∧ p ≤ ab + 133))) X 0 hT rfl es.length (by omega) (by decide) d_Automaton_addPrefix_73 (show _ ∨ _ by omega) hL (fun H5 locs h6 z7 oq8 hL => ?_)
        replace ho := ho.kept (oq8 _ (by omega))
        replace hkf := hkf.kept (oq8 _ (by omega))
        replace h2 := h2.kept (oq8 _ (by omega))
        replace hL0 := hL0.kept (oq8 _ (by omega))
        replace hG := hG.kept (oq8 _ (by omega))
        replace hk := hk.kept (fun p h1 h2 => oq8 p (by omega))
        refine lv_aload_n X.1.1 X.1.2.1 d_Automaton_addPrefix_74 rfl (gl_at hl rfl) ?_
        refine g_get X kc_Automaton ho 4 (by decide) lk_Automaton_25 rfl d_Automaton_addPrefix_75 ?_
        refine lv_aload_n X.1.1 X.1.2.1 d_Automaton_addPrefix_78 rfl (gl_at hl rfl) ?_
        refine g_get X kc_Automaton ho 6 (by decide) lk_Automaton_63 rfl d_Automaton_addPrefix_79 ?_
        refine lv_iload_n X.1.1 X.1.2.1 d_Automaton_addPrefix_82 rfl (gl_at hl rfl) ?_
        refine g_iast (A := (fun p => p = ab ∨ (ab + 130 ≤ p ∧ p ≤ ab + 133))) X 0 hL0 rfl es.length (by omega) (by decide) d_Automaton_addPrefix_83 (show _ ∨ _ by omega) hL (fun H9 locs h10 z11 oq12 hL => ?_)
        replace ho := ho.kept (oq12 _ (by omega))
        replace hkf := hkf.kept (oq12 _ (by omega))
        replace h2 := h2.kept (oq12 _ (by omega))
        replace h6 := h6.kept (oq12 _ (by omega))
        replace hG := hG.kept (oq12 _ (by omega))
        replace hk := hk.kept (fun p h1 h2 => oq12 p (by omega))
        refine lv_aload_n X.1.1 X.1.2.1 d_Automaton_addPrefix_84 rfl (gl_at hl rfl) ?_
        refine g_get X kc_Automaton ho 5 (by decide) lk_Automaton_28 rfl d_Automaton_addPrefix_85 ?_
        refine lv_aload_n X.1.1 X.1.2.1 d_Automaton_addPrefix_88 rfl (gl_at hl rfl) ?_
        refine g_get X kc_Automaton ho 6 (by decide) lk_Automaton_63 rfl d_Automaton_addPrefix_89 ?_
        refine lv_iload X.1.1 X.1.2.1 d_Automaton_addPrefix_92 (gl_at hl rfl) ?_
        refine lv_iload_n X.1.1 X.1.2.1 d_Automaton_addPrefix_94 rfl (gl_at hl rfl) ?_
        refine lv_isub X.1.1 X.1.2.1 d_Automaton_addPrefix_95 ?_
        refine g_top (nI (k - len)) (pk_sub (by omega)) ?_
        refine g_iast (A := (fun p => p = ab ∨ (ab + 130 ≤ p ∧ p ≤ ab + 133))) X 0 hG rfl es.length (by omega) (by decide) d_Automaton_addPrefix_96 (show _ ∨ _ by omega) hL (fun H13 locs h14 z15 oq16 hL => ?_)
        replace ho := ho.kept (oq16 _ (by omega))
        replace hkf := hkf.kept (oq16 _ (by omega))
        replace h2 := h2.kept (oq16 _ (by omega))
        replace h6 := h6.kept (oq16 _ (by omega))
        replace h10 := h10.kept (oq16 _ (by omega))
        replace hk := hk.kept (fun p h1 h2 => oq16 p (by omega))
        refine lv_aload_n X.1.1 X.1.2.1 d_Automaton_addPrefix_97 rfl (gl_at hl rfl) ?_
        refine lv_dup X.1.1 X.1.2.1 d_Automaton_addPrefix_98 rfl ?_
        refine g_get X kc_Automaton ho 6 (by decide) lk_Automaton_63 rfl d_Automaton_addPrefix_99 ?_
        refine lv_iconst (v := nI 1) X.1.1 X.1.2.1 d_Automaton_addPrefix_102 (by decide) ?_
        refine lv_iadd X.1.1 X.1.2.1 d_Automaton_addPrefix_103 ?_
        refine g_top (nI (es.length + 1)) (nI_add _ _) ?_
        refine g_put (A := (fun p => p = ab ∨ (ab + 130 ≤ p ∧ p ≤ ab + 133))) X kc_Automaton ho 6 (by decide) lk_Automaton_63 rfl rfl rfl (Nat.le_of_ble_eq_true rfl) d_Automaton_addPrefix_104 (show _ ∨ _ by omega) hL (fun H17 locs h18 z19 oq20 hL => ?_)
        replace hkf := hkf.kept (oq20 _ (by omega))
        replace h2 := h2.kept (oq20 _ (by omega))
        replace h6 := h6.kept (oq20 _ (by omega))
        replace h10 := h10.kept (oq20 _ (by omega))
        replace h14 := h14.kept (oq20 _ (by omega))
        replace hk := hk.kept (fun p h1 h2 => oq20 p (by omega))
        have hstop : ¬ (t < n ∧ len ≤ t_lcp (ks t) (ks i)) := by omega
        rw [a_toF_end hstop] at hi5_2
        rw [a_hiF_end hstop] at hi5_3
        exact g_vret X B ⟨rfl, by rw [List.length_append]; exact h18, ⟨_, _, _, _, h2, h6, h10, h14, aE.app hE0 hi5_2.symm (by unfold a_he; rw [← hi5_3])⟩, (z19.trans (z15.trans (z11.trans (z7.trans z3)))), fun p hp => ((oq20 p (by omega)).trans ((oq16 p (by omega)).trans ((oq12 p (by omega)).trans ((oq8 p (by omega)).trans (oq4 p (by omega))))))⟩ hL d_Automaton_addPrefix_107 (by omega) (by omega)
      · refine lv_aload_n X.1.1 X.1.2.1 d_Automaton_addPrefix_13 rfl (gl_at hl rfl) ?_
        refine g_get X kc_Automaton ho 0 (by decide) lk_Automaton_11 rfl d_Automaton_addPrefix_14 ?_
        refine lv_iload_n X.1.1 X.1.2.1 d_Automaton_addPrefix_17 rfl (gl_at hl rfl) ?_
        refine g_aald X 3 hkf rfl t (by omega) (by decide) (v := .ref (ab + 2 + 2 * t)) (by rw [hkg _ (by omega)]; rfl) d_Automaton_addPrefix_18 ?_
        refine lv_aload_n X.1.1 X.1.2.1 d_Automaton_addPrefix_19 rfl (gl_at hl rfl) ?_
        refine g_get X kc_Automaton ho 0 (by decide) lk_Automaton_11 rfl d_Automaton_addPrefix_20 ?_
        refine lv_iload_n X.1.1 X.1.2.1 d_Automaton_addPrefix_23 rfl (gl_at hl rfl) ?_
        refine g_aald X 3 hkf rfl i (by omega) (by decide) (v := .ref (ab + 2 + 2 * i)) (by rw [hkg _ (by omega)]; rfl) d_Automaton_addPrefix_24 ?_
        have hx2 := (hks t (by omega)).2.2.1
        have i1 := t_lcp_le1 (ks t) (ks i)
        refine g_cv (A := (fun p => p = ab ∨ (ab + 130 ≤ p ∧ p ≤ ab + 133))) X gWS_good mw_Automaton_66 kc_Key (hks t (by omega)).1 (c_Key_shared l D q H (ab + 2 + 2 * t) (ab + 2 + 2 * i) (ks t) (ks i) (hks t (by omega)) (hks i (by omega))) (fun _ _ _ => trivial) gBlind.tt rfl rfl hl.1 (Nat.le_of_ble_eq_true rfl) rfl rfl ⟨by decide, by decide⟩ ⟨by decide, by decide⟩ d_Automaton_addPrefix_25 (fun _ h => h.elim) hL (fun v21 H22 locs hp23 hL => ?_)
        obtain ⟨rfl, hHe⟩ := hp23
        rw [hHe]
        refine lv_iload_n X.1.1 X.1.2.1 d_Automaton_addPrefix_28 rfl (gl_at hl rfl) ?_
        refine gn_lt X.1.1 X.1.2.1 (t_lcp (ks t) (ks i)) len (by omega) (by omega) d_Automaton_addPrefix_29 rfl (fun hc29 => ?_) (fun hc29 => ?_)
        · refine lv_aload_n X.1.1 X.1.2.1 d_Automaton_addPrefix_54 rfl (gl_at hl rfl) ?_
          refine g_get X kc_Automaton ho 2 (by decide) lk_Automaton_18 rfl d_Automaton_addPrefix_55 ?_
          refine lv_aload_n X.1.1 X.1.2.1 d_Automaton_addPrefix_58 rfl (gl_at hl rfl) ?_
          refine g_get X kc_Automaton ho 6 (by decide) lk_Automaton_63 rfl d_Automaton_addPrefix_59 ?_
          refine lv_iload_n X.1.1 X.1.2.1 d_Automaton_addPrefix_62 rfl (gl_at hl rfl) ?_
          refine g_iast (A := (fun p => p = ab ∨ (ab + 130 ≤ p ∧ p ≤ ab + 133))) X 0 hF rfl es.length (by omega) (by decide) d_Automaton_addPrefix_63 (show _ ∨ _ by omega) hL (fun H24 locs h25 z26 oq27 hL => ?_)
          replace ho := ho.kept (oq27 _ (by omega))
          replace hkf := hkf.kept (oq27 _ (by omega))
          replace hT := hT.kept (oq27 _ (by omega))
          replace hL0 := hL0.kept (oq27 _ (by omega))
          replace hG := hG.kept (oq27 _ (by omega))
          replace hk := hk.kept (fun p h1 h2 => oq27 p (by omega))
          refine lv_aload_n X.1.1 X.1.2.1 d_Automaton_addPrefix_64 rfl (gl_at hl rfl) ?_
          refine g_get X kc_Automaton ho 3 (by decide) lk_Automaton_22 rfl d_Automaton_addPrefix_65 ?_
          refine lv_aload_n X.1.1 X.1.2.1 d_Automaton_addPrefix_68 rfl (gl_at hl rfl) ?_
          refine g_get X kc_Automaton ho 6 (by decide) lk_Automaton_63 rfl d_Automaton_addPrefix_69 ?_
          refine lv_iload_n X.1.1 X.1.2.1 d_Automaton_addPrefix_72 rfl (gl_at hl rfl) ?_
          refine g_iast (A := (fun p => p = ab ∨ (ab + 130 ≤ p ∧ p ≤ ab + 133))) X 0 hT rfl es.length (by omega) (by decide) d_Automaton_addPrefix_73 (show _ ∨ _ by omega) hL (fun H28 locs h29 z30 oq31 hL => ?_)
          replace ho := ho.kept (oq31 _ (by omega))
          replace hkf := hkf.kept (oq31 _ (by omega))
          replace h25 := h25.kept (oq31 _ (by omega))
          replace hL0 := hL0.kept (oq31 _ (by omega))
          replace hG := hG.kept (oq31 _ (by omega))
          replace hk := hk.kept (fun p h1 h2 => oq31 p (by omega))
          refine lv_aload_n X.1.1 X.1.2.1 d_Automaton_addPrefix_74 rfl (gl_at hl rfl) ?_
          refine g_get X kc_Automaton ho 4 (by decide) lk_Automaton_25 rfl d_Automaton_addPrefix_75 ?_
          refine lv_aload_n X.1.1 X.1.2.1 d_Automaton_addPrefix_78 rfl (gl_at hl rfl) ?_
          refine g_get X kc_Automaton ho 6 (by decide) lk_Automaton_63 rfl d_Automaton_addPrefix_79 ?_
          refine lv_iload_n X.1.1 X.1.2.1 d_Automaton_addPrefix_82 rfl (gl_at hl rfl) ?_
          refine g_iast (A := (fun p => p = ab ∨ (ab + 130 ≤ p ∧ p ≤ ab + 133))) X 0 hL0 rfl es.length (by omega) (by decide) d_Automaton_addPrefix_83 (show _ ∨ _ by omega) hL (fun H32 locs h33 z34 oq35 hL => ?_)
          replace ho := ho.kept (oq35 _ (by omega))
          replace hkf := hkf.kept (oq35 _ (by omega))
          replace h25 := h25.kept (oq35 _ (by omega))
          replace h29 := h29.kept (oq35 _ (by omega))
          replace hG := hG.kept (oq35 _ (by omega))
          replace hk := hk.kept (fun p h1 h2 => oq35 p (by omega))
          refine lv_aload_n X.1.1 X.1.2.1 d_Automaton_addPrefix_84 rfl (gl_at hl rfl) ?_
          refine g_get X kc_Automaton ho 5 (by decide) lk_Automaton_28 rfl d_Automaton_addPrefix_85 ?_
          refine lv_aload_n X.1.1 X.1.2.1 d_Automaton_addPrefix_88 rfl (gl_at hl rfl) ?_
          refine g_get X kc_Automaton ho 6 (by decide) lk_Automaton_63 rfl d_Automaton_addPrefix_89 ?_
          refine lv_iload X.1.1 X.1.2.1 d_Automaton_addPrefix_92 (gl_at hl rfl) ?_
          refine lv_iload_n X.1.1 X.1.2.1 d_Automaton_addPrefix_94 rfl (gl_at hl rfl) ?_
          refine lv_isub X.1.1 X.1.2.1 d_Automaton_addPrefix_95 ?_
          refine g_top (nI (k - len)) (pk_sub (by omega)) ?_
          refine g_iast (A := (fun p => p = ab ∨ (ab + 130 ≤ p ∧ p ≤ ab + 133))) X 0 hG rfl es.length (by omega) (by decide) d_Automaton_addPrefix_96 (show _ ∨ _ by omega) hL (fun H36 locs h37 z38 oq39 hL => ?_)
          replace ho := ho.kept (oq39 _ (by omega))
          replace hkf := hkf.kept (oq39 _ (by omega))
          replace h25 := h25.kept (oq39 _ (by omega))
          replace h29 := h29.kept (oq39 _ (by omega))
          replace h33 := h33.kept (oq39 _ (by omega))
          replace hk := hk.kept (fun p h1 h2 => oq39 p (by omega))
          refine lv_aload_n X.1.1 X.1.2.1 d_Automaton_addPrefix_97 rfl (gl_at hl rfl) ?_
          refine lv_dup X.1.1 X.1.2.1 d_Automaton_addPrefix_98 rfl ?_
          refine g_get X kc_Automaton ho 6 (by decide) lk_Automaton_63 rfl d_Automaton_addPrefix_99 ?_
          refine lv_iconst (v := nI 1) X.1.1 X.1.2.1 d_Automaton_addPrefix_102 (by decide) ?_
          refine lv_iadd X.1.1 X.1.2.1 d_Automaton_addPrefix_103 ?_
          refine g_top (nI (es.length + 1)) (nI_add _ _) ?_
          refine g_put (A := (fun p => p = ab ∨ (ab + 130 ≤ p ∧ p ≤ ab + 133))) X kc_Automaton ho 6 (by decide) lk_Automaton_63 rfl rfl rfl (Nat.le_of_ble_eq_true rfl) d_Automaton_addPrefix_104 (show _ ∨ _ by omega) hL (fun H40 locs h41 z42 oq43 hL => ?_)
          replace hkf := hkf.kept (oq43 _ (by omega))
          replace h25 := h25.kept (oq43 _ (by omega))
          replace h29 := h29.kept (oq43 _ (by omega))
          replace h33 := h33.kept (oq43 _ (by omega))
          replace h37 := h37.kept (oq43 _ (by omega))
          replace hk := hk.kept (fun p h1 h2 => oq43 p (by omega))
          have hstop : ¬ (t < n ∧ len ≤ t_lcp (ks t) (ks i)) := by omega
          rw [a_toF_end hstop] at hi5_2
          rw [a_hiF_end hstop] at hi5_3
          exact g_vret X B ⟨rfl, by rw [List.length_append]; exact h41, ⟨_, _, _, _, h25, h29, h33, h37, aE.app hE0 hi5_2.symm (by unfold a_he; rw [← hi5_3])⟩, (z42.trans (z38.trans (z34.trans (z30.trans z26)))), fun p hp => ((oq43 p (by omega)).trans ((oq39 p (by omega)).trans ((oq35 p (by omega)).trans ((oq31 p (by omega)).trans (oq27 p (by omega))))))⟩ hL d_Automaton_addPrefix_107 (by omega) (by omega)
        · refine lv_iload X.1.1 X.1.2.1 d_Automaton_addPrefix_32 (gl_at hl rfl) ?_
          refine lv_aload_n X.1.1 X.1.2.1 d_Automaton_addPrefix_34 rfl (gl_at hl rfl) ?_
          refine g_get X kc_Automaton ho 0 (by decide) lk_Automaton_11 rfl d_Automaton_addPrefix_35 ?_
          refine lv_iload_n X.1.1 X.1.2.1 d_Automaton_addPrefix_38 rfl (gl_at hl rfl) ?_
          refine g_aald X 3 hkf rfl t (by omega) (by decide) (v := .ref (ab + 2 + 2 * t)) (by rw [hkg _ (by omega)]; rfl) d_Automaton_addPrefix_39 ?_
          obtain ⟨hki, hli, hxl, hxc⟩ := hks t (by omega)
          refine g_get X kc_Key hki 1 (by decide) lk_Automaton_70 rfl d_Automaton_addPrefix_40 ?_
          refine va_mmax X.1.1 X.1.2.1 (by rw [X.1.2.2.1]; exact hl.1.symm) X.1.2.2.2.1 (X.1.2.2.2.2 _ mm_Automaton_77.1) (X.1.2.2.2.2 _ mm_Automaton_77.2.1) (X.1.2.2.2.2 _ mm_Automaton_77.2.2.1) (X.1.2.2.2.2 _ mm_Automaton_77.2.2.2) (by decide) (Nat.le_of_ble_eq_true rfl) (by decide) (by decide) d_Automaton_addPrefix_43 ?_
          refine g_top (nI (if k < (ks t).length then (ks t).length else k)) (gn_max (by omega) (by omega)) ?_
          refine g_ist X.1.1 X.1.2.1 hl 4 d_Automaton_addPrefix_46 (Nat.le_of_ble_eq_true rfl) rfl (fun ls hl => ?_)
          refine g_iinc X.1.1 X.1.2.1 (nI (t + 1)) hl 3 d_Automaton_addPrefix_48 rfl (nI_1 _) rfl (fun ls hl => ?_)
          refine lv_goto X.1.1 X.1.2.1 d_Automaton_addPrefix_51 rfl ?_
          exact ih5 (t + 1) (if k < (ks t).length then (ks t).length else k) locs ls (by omega) (by omega) (by omega) (by rw [← hi5_2, a_toF_s hc10 hc29]) (by rw [← hi5_3, a_hiF_s hc10 hc29]) (by split <;> omega) (by split <;> omega) hL hl
  exact loop5 _ i len [] ls (Nat.lt_succ_self _) (Nat.le_refl _) (by omega) rfl rfl (Nat.le_refl _) (by omega) (fun _ h => by cases h) hl
