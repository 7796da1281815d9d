/-! the class Automaton, 2: printed by wip/specs/aut2.py -/
set_option maxHeartbeats 4000000 in
set_option maxRecDepth 100000 in
theorem c_Automaton_listPrefixes (l : Launch) (D : va_G) (q : Nat → ClassId) (H : Heap) (ab n P S sp fi : Nat) (ks : Nat → List Nat) (ho : va_at D CL (ab, .inr (5, [.ref (ab + 1), .int (nI n), .ref (ab + 130), .ref (ab + 131), .ref (ab + 132), .ref (ab + 133), .int (nI P), .ref (ab + 134), .int (nI S), .int (nI sp), .int (nI fi)])) H) (hk : aK D q H ab ks) (hn : n ≤ 64) (F T L G : Nat → Int32) (hF : va_at D CL (ab + 130, .inl (q 0, 513, .inl F)) H) (hT : va_at D CL (ab + 131, .inl (q 0, 513, .inl T)) H) (hL0 : va_at D CL (ab + 132, .inl (q 0, 513, .inl L)) H) (hG : va_at D CL (ab + 133, .inl (q 0, 513, .inl G)) H) : gC l y_Automaton_listPrefixes (Cond.code y_Automaton_listPrefixes b_Automaton_listPrefixes 4 none :: gWS) (gR 2 46 0 0) D CL (gY q) (fun _ => True) [.ref ab] H (fun v H1 => v = none ∧ va_at D CL (ab, .inr (5, [.ref (ab + 1), .int (nI n), .ref (ab + 130), .ref (ab + 131), .ref (ab + 132), .ref (ab + 133), .int (nI (a_pre ks n).length), .ref (ab + 134), .int (nI S), .int (nI sp), .int (nI fi)])) H1 ∧ (∃ F1 T1 L1 G1 : Nat → Int32, va_at D CL (ab + 130, .inl (q 0, 513, .inl F1)) H1 ∧ va_at D CL (ab + 131, .inl (q 0, 513, .inl T1)) H1 ∧ va_at D CL (ab + 132, .inl (q 0, 513, .inl L1)) H1 ∧ va_at D CL (ab + 133, .inl (q 0, 513, .inl G1)) H1 ∧ aE ks n (a_pre ks n) F1 T1 L1 G1) ∧ H1.size = H.size ∧ ∀ p : Nat, ¬ (p = ab ∨ (ab + 130 ≤ p ∧ p ≤ ab + 133)) → H1[p]? = H[p]?) 0 0 (fun p => p = ab ∨ (ab + 130 ≤ p ∧ p ≤ ab + 133)) := by
  refine gC.ofW R_Automaton "listPrefixes" (by decide) rfl rfl ?_
  intro p e s m below meth c hadm X hE hH B hne
  refine g_entry [some (.ref ab), none, none, none] rfl rfl (Nat.le_of_ble_eq_true rfl) (fun ls hl => ?_)
  have hkA := hk
  have hk0 := hk
  obtain ⟨⟨kf, hkf, hkg⟩, hks⟩ := hk
  have hk := hk0
  have hk8 : ∀ j, j < n → (ks j).length ≤ 8 := fun j hj => (hks j (by omega)).2.2.1
  have hs9 : ∀ j, j < n → a_sh ks j ≤ 9 := fun j hj => by (have h1 := t_lcp_le1 (ks j) (ks (j - 1))); (have h2 := hk8 j hj); unfold a_sh; split <;> omega
  refine lv_aload_n X.1.1 X.1.2.1 d_Automaton_listPrefixes_0 rfl (gl_at hl rfl) ?_
  refine lv_iconst (v := nI 0) X.1.1 X.1.2.1 d_Automaton_listPrefixes_1 (by decide) ?_
  refine g_put (A := (fun p => p = ab ∨ (ab + 130 ≤ p ∧ p ≤ ab + 133))) X kc_Automaton ho 6 (by decide) lk_Automaton_63 rfl rfl rfl (Nat.le_of_ble_eq_true rfl) d_Automaton_listPrefixes_2 (show _ ∨ _ by omega) (fun _ h => by cases h) (fun H1 locs h2 z3 oq4 hL => ?_)
  replace hkf := hkf.kept (oq4 _ (by omega))
  replace hF := hF.kept (oq4 _ (by omega))
  replace hT := hT.kept (oq4 _ (by omega))
  replace hL0 := hL0.kept (oq4 _ (by omega))
  replace hG := hG.kept (oq4 _ (by omega))
  refine lv_iconst (v := nI 0) X.1.1 X.1.2.1 d_Automaton_listPrefixes_5 (by decide) ?_
  refine g_istn X.1.1 X.1.2.1 hl 1 d_Automaton_listPrefixes_6 rfl (Nat.le_of_ble_eq_true rfl) rfl (fun ls hl => ?_)
  have loop7 : ∀ (fu : Nat) (i : Nat) (Hn : Heap) (locs : List Loc) (ls : Array Slot), n - i < fu → (i ≤ n) → (va_at D CL (ab, .inr (5, [.ref (ab + 1), .int (nI n), .ref (ab + 130), .ref (ab + 131), .ref (ab + 132), .ref (ab + 133), .int (nI (a_pre ks i).length), .ref (ab + 134), .int (nI S), .int (nI sp), .int (nI fi)])) Hn) → ((∃ F1 T1 L1 G1 : Nat → Int32, va_at D CL (ab + 130, .inl (q 0, 513, .inl F1)) Hn ∧ va_at D CL (ab + 131, .inl (q 0, 513, .inl T1)) Hn ∧ va_at D CL (ab + 132, .inl (q 0, 513, .inl L1)) Hn ∧ va_at D CL (ab + 133, .inl (q 0, 513, .inl G1)) Hn ∧ aE ks n (a_pre ks i) F1 T1 L1 G1)) → (∀ p : Nat, ¬ (p = ab ∨ (ab + 130 ≤ p ∧ p ≤ ab + 133)) → Hn[p]? = H[p]?) → (Hn.size = H.size) → (∀ x ∈ locs, (fun p => p = ab ∨ (ab + 130 ≤ p ∧ p ≤ ab + 133)) x.base) → gl ls [some (.ref ab), some (.int (nI i)), none, none] → W p l e (gR 2 46 0 0) s m ([.ref ab] : List Value).toArray below meth c Hn locs 0 0 (gQ below ([.ref ab] : List Value).toArray s (fun v H1 => v = none ∧ va_at D CL (ab, .inr (5, [.ref (ab + 1), .int (nI n), .ref (ab + 130), .ref (ab + 131), .ref (ab + 132), .ref (ab + 133), .int (nI (a_pre ks n).length), .ref (ab + 134), .int (nI S), .int (nI sp), .int (nI fi)])) H1 ∧ (∃ F1 T1 L1 G1 : Nat → Int32, va_at D CL (ab + 130, .inl (q 0, 513, .inl F1)) H1 ∧ va_at D CL (ab + 131, .inl (q 0, 513, .inl T1)) H1 ∧ va_at D CL (ab + 132, .inl (q 0, 513, .inl L1)) H1 ∧ va_at D CL (ab + 133, .inl (q 0, 513, .inl G1)) H1 ∧ aE ks n (a_pre ks n) F1 T1 L1 G1) ∧ H1.size = H.size ∧ ∀ p : Nat, ¬ (p = ab ∨ (ab + 130 ≤ p ∧ p ≤ ab + 133)) → H1[p]? = H[p]?) 0 0 (fun p => p = ab ∨ (ab + 130 ≤ p ∧ p ≤ ab + 133))) (F0 m 7 ls []) := by
    intro fu
    induction fu with
    | zero => intro i Hn locs ls hmu; omega
    | succ fu ih7 =>
      intro i Hn locs ls hmu7 hi7_0 ho hX fr zz hL hl
      obtain ⟨F, T, L, G, hF, hT, hL0, hG, hE0⟩ := hX
      have hk := hkA.kept (fun p h1 h2 => fr p (by omega))
      have hk0 := hk
      obtain ⟨⟨kf, hkf, hkg⟩, hks⟩ := hk
      have hk := hk0
      refine lv_iload_n X.1.1 X.1.2.1 d_Automaton_listPrefixes_7 rfl (gl_at hl rfl) ?_
      refine lv_aload_n X.1.1 X.1.2.1 d_Automaton_listPrefixes_8 rfl (gl_at hl rfl) ?_
      refine g_get X kc_Automaton ho 1 (by decide) lk_Automaton_40 rfl d_Automaton_listPrefixes_9 ?_
      refine gn_ge X.1.1 X.1.2.1 i n (by omega) (by omega) d_Automaton_listPrefixes_12 rfl (fun hc12 => ?_) (fun hc12 => ?_)
      · have e9 : i = n := by omega
        subst e9
        exact g_vret X B ⟨rfl, ho, ⟨F, T, L, G, hF, hT, hL0, hG, hE0⟩, zz, fr⟩ hL d_Automaton_listPrefixes_76 (by omega) (by omega)
      · refine lv_iload_n X.1.1 X.1.2.1 d_Automaton_listPrefixes_15 rfl (gl_at hl rfl) ?_
        refine gn_ne0 X.1.1 X.1.2.1 i (by omega) d_Automaton_listPrefixes_16 rfl (fun hc16 => ?_) (fun hc16 => ?_)
        · refine lv_aload_n X.1.1 X.1.2.1 d_Automaton_listPrefixes_23 rfl (gl_at hl rfl) ?_
          refine g_get X kc_Automaton ho 0 (by decide) lk_Automaton_11 rfl d_Automaton_listPrefixes_24 ?_
          refine lv_iload_n X.1.1 X.1.2.1 d_Automaton_listPrefixes_27 rfl (gl_at hl rfl) ?_
          refine g_aald X 3 hkf rfl i (by omega) (by decide) (v := .ref (ab + 2 + 2 * i)) (by rw [hkg _ (by omega)]; rfl) d_Automaton_listPrefixes_28 ?_
          refine lv_aload_n X.1.1 X.1.2.1 d_Automaton_listPrefixes_29 rfl (gl_at hl rfl) ?_
          refine g_get X kc_Automaton ho 0 (by decide) lk_Automaton_11 rfl d_Automaton_listPrefixes_30 ?_
          refine lv_iload_n X.1.1 X.1.2.1 d_Automaton_listPrefixes_33 rfl (gl_at hl rfl) ?_
          refine lv_iconst (v := nI 1) X.1.1 X.1.2.1 d_Automaton_listPrefixes_34 (by decide) ?_
          refine lv_isub X.1.1 X.1.2.1 d_Automaton_listPrefixes_35 ?_
          refine g_top (nI (i - 1)) (pk_sub (by omega)) ?_
          refine g_aald X 3 hkf rfl (i - 1) (by omega) (by decide) (v := .ref (ab + 2 + 2 * (i - 1))) (by rw [hkg _ (by omega)]; rfl) d_Automaton_listPrefixes_36 ?_
          have i1 := t_lcp_le1 (ks i) (ks (i - 1))
          refine g_cv (A := (fun p => p = ab ∨ (ab + 130 ≤ p ∧ p ≤ ab + 133))) X gWS_good mw_Automaton_66 kc_Key (hks i (by omega)).1 (c_Key_shared l D q Hn (ab + 2 + 2 * i) (ab + 2 + 2 * (i - 1)) (ks i) (ks (i - 1)) (hks i (by omega)) (hks (i - 1) (by omega))) (fun _ _ _ => trivial) gBlind.tt rfl rfl hl.1 (Nat.le_of_ble_eq_true rfl) rfl rfl ⟨by decide, by decide⟩ ⟨by decide, by decide⟩ d_Automaton_listPrefixes_37 (fun _ h => h.elim) hL (fun v5 H6 locs hp7 hL => ?_)
          obtain ⟨rfl, hHe⟩ := hp7
          rw [hHe]
          refine lv_iconst (v := nI 1) X.1.1 X.1.2.1 d_Automaton_listPrefixes_40 (by decide) ?_
          refine lv_iadd X.1.1 X.1.2.1 d_Automaton_listPrefixes_41 ?_
          refine g_top (nI ((t_lcp (ks i) (ks (i - 1))) + 1)) (nI_add _ _) ?_
          refine g_top (nI (a_sh ks i)) (by unfold a_sh; first | rw [if_pos hc16] | rw [if_neg hc16]) ?_
          refine g_istn X.1.1 X.1.2.1 hl 2 d_Automaton_listPrefixes_42 rfl (Nat.le_of_ble_eq_true rfl) rfl (fun ls hl => ?_)
          refine lv_iload_n X.1.1 X.1.2.1 d_Automaton_listPrefixes_43 rfl (gl_at hl rfl) ?_
          refine g_istn X.1.1 X.1.2.1 hl 3 d_Automaton_listPrefixes_44 rfl (Nat.le_of_ble_eq_true rfl) rfl (fun ls hl => ?_)
          have loop45 : ∀ (fu : Nat) (len : Nat) (Hn : Heap) (locs : List Loc) (ls : Array Slot), (ks i).length + 1 - len < fu → (a_sh ks i ≤ len) → (len ≤ (ks i).length + 1 ∨ len = a_sh ks i) → (va_at D CL (ab, .inr (5, [.ref (ab + 1), .int (nI n), .ref (ab + 130), .ref (ab + 131), .ref (ab + 132), .ref (ab + 133), .int (nI (a_es ks i len).length), .ref (ab + 134), .int (nI S), .int (nI sp), .int (nI fi)])) Hn) → ((∃ F1 T1 L1 G1 : Nat → Int32, va_at D CL (ab + 130, .inl (q 0, 513, .inl F1)) Hn ∧ va_at D CL (ab + 131, .inl (q 0, 513, .inl T1)) Hn ∧ va_at D CL (ab + 132, .inl (q 0, 513, .inl L1)) Hn ∧ va_at D CL (ab + 133, .inl (q 0, 513, .inl G1)) Hn ∧ aE ks n (a_es ks i len) F1 T1 L1 G1)) → (∀ p : Nat, ¬ (p = ab ∨ (ab + 130 ≤ p ∧ p ≤ ab + 133)) → Hn[p]? = H[p]?) → (Hn.size = H.size) → (∀ x ∈ locs, (fun p => p = ab ∨ (ab + 130 ≤ p ∧ p ≤ ab + 133)) x.base) → gl ls [some (.ref ab), some (.int (nI i)), some (.int (nI (a_sh ks i))), some (.int (nI len))] → W p l e (gR 2 46 0 0) s m ([.ref ab] : List Value).toArray below meth c Hn locs 0 0 (gQ below ([.ref ab] : List Value).toArray s (fun v H1 => v = none ∧ va_at D CL (ab, .inr (5, [.ref (ab + 1), .int (nI n), .ref (ab + 130), .ref (ab + 131), .ref (ab + 132), .ref (ab + 133), .int (nI (a_pre ks n).length), .ref (ab + 134), .int (nI S), .int (nI sp), .int (nI fi)])) H1 ∧ (∃ F1 T1 L1 G1 : Nat → Int32, va_at D CL (ab + 130, .inl (q 0, 513, .inl F1)) H1 ∧ va_at D CL (ab + 131, .inl (q 0, 513, .inl T1)) H1 ∧ va_at D CL (ab + 132, .inl (q 0, 513, .inl L1)) H1 ∧ va_at D CL (ab + 133, .inl (q 0, 513, .inl G1)) H1 ∧ aE ks n (a_pre ks n) F1 T1 L1 G1) ∧ H1.size = H.size ∧ ∀ p : Nat, ¬ (p = ab ∨ (ab + 130 ≤ p ∧ p ≤ ab + 133)) → H1[p]? = H[p]?) 0 0 (fun p => p = ab ∨ (ab + 130 ≤ p ∧ p ≤ ab + 133))) (F0 m 45 ls []) := by
            intro fu
            induction fu with
            | zero => intro len Hn locs ls hmu; omega
            | succ fu ih45 =>
              intro len Hn locs ls hmu45 hi45_0 hi45_1 ho hX fr zz hL hl
              obtain ⟨F, T, L, G, hF, hT, hL0, hG, hE0⟩ := hX
              have hk := hkA.kept (fun p h1 h2 => fr p (by omega))
              have hk0 := hk
              obtain ⟨⟨kf, hkf, hkg⟩, hks⟩ := hk
              have hk := hk0
              have hs8 := hs9 i (by omega)
              have hx8 := hk8 i (by omega)
              refine lv_iload_n X.1.1 X.1.2.1 d_Automaton_listPrefixes_45 rfl (gl_at hl rfl) ?_
              refine lv_aload_n X.1.1 X.1.2.1 d_Automaton_listPrefixes_46 rfl (gl_at hl rfl) ?_
              refine g_get X kc_Automaton ho 0 (by decide) lk_Automaton_11 rfl d_Automaton_listPrefixes_47 ?_
              refine lv_iload_n X.1.1 X.1.2.1 d_Automaton_listPrefixes_50 rfl (gl_at hl rfl) ?_
              refine g_aald X 3 hkf rfl i (by omega) (by decide) (v := .ref (ab + 2 + 2 * i)) (by rw [hkg _ (by omega)]; rfl) d_Automaton_listPrefixes_51 ?_
              obtain ⟨hki, hli, hxl, hxc⟩ := hks i (by omega)
              refine g_get X kc_Key hki 1 (by decide) lk_Automaton_70 rfl d_Automaton_listPrefixes_52 ?_
              refine gn_gt X.1.1 X.1.2.1 len ((ks i).length) (by omega) (by omega) d_Automaton_listPrefixes_55 rfl (fun hc55 => ?_) (fun hc55 => ?_)
              · refine g_iinc X.1.1 X.1.2.1 (nI (i + 1)) hl 1 d_Automaton_listPrefixes_70 rfl (nI_1 _) rfl (fun ls hl => ?_)
                refine lv_goto X.1.1 X.1.2.1 d_Automaton_listPrefixes_73 rfl ?_
                exact ih7 (i + 1) Hn locs ls (by omega) (by omega) (by rw [← a_es_end hc55 hi45_1]; exact ho) (by rw [← a_es_end hc55 hi45_1]; exact ⟨F, T, L, G, hF, hT, hL0, hG, hE0⟩) fr zz hL (gl_forget (gl_forget hl 2) 3)
              · refine lv_aload_n X.1.1 X.1.2.1 d_Automaton_listPrefixes_58 rfl (gl_at hl rfl) ?_
                refine lv_iload_n X.1.1 X.1.2.1 d_Automaton_listPrefixes_59 rfl (gl_at hl rfl) ?_
                refine lv_iload_n X.1.1 X.1.2.1 d_Automaton_listPrefixes_60 rfl (gl_at hl rfl) ?_
                refine g_cv (A := (fun p => p = ab ∨ (ab + 130 ≤ p ∧ p ≤ ab + 133))) X gWS_good mw_Automaton_73 kc_Automaton ho (c_Automaton_addPrefix l D q Hn ab n (a_es ks i len) S sp fi ks ho hk hn F T L G hF hT hL0 hG hE0 (a_es_len hk8 hn (by omega) hi45_0 (by omega)) i len (by omega) (by omega)) (fun _ _ _ => trivial) gBlind.tt rfl rfl hl.1 (Nat.le_of_ble_eq_true rfl) rfl rfl ⟨by decide, by decide⟩ ⟨by decide, by decide⟩ d_Automaton_listPrefixes_61 (fun p h => h) hL (fun v8 H9 locs hp10 hL => ?_)
                obtain ⟨rfl, ho2, hX2, hz2, fr2⟩ := hp10
                rw [a_es_s hi45_0] at ho2 hX2
                refine g_iinc X.1.1 X.1.2.1 (nI (len + 1)) hl 3 d_Automaton_listPrefixes_64 rfl (nI_1 _) rfl (fun ls hl => ?_)
                refine lv_goto X.1.1 X.1.2.1 d_Automaton_listPrefixes_67 rfl ?_
                exact ih45 (len + 1) H9 locs ls (by omega) (by omega) (by omega) ho2 hX2 (fun p hp => (fr2 p hp).trans (fr p hp)) (hz2.trans zz) hL hl
          exact loop45 _ (a_sh ks i) Hn locs ls (Nat.lt_succ_self _) (Nat.le_refl _) (Or.inr rfl) (by rw [a_es_0]; exact ho) (by rw [a_es_0]; exact ⟨F, T, L, G, hF, hT, hL0, hG, hE0⟩) fr zz hL hl
        · refine lv_iconst (v := nI 0) X.1.1 X.1.2.1 d_Automaton_listPrefixes_19 (by decide) ?_
          refine lv_goto X.1.1 X.1.2.1 d_Automaton_listPrefixes_20 rfl ?_
          refine g_top (nI (a_sh ks i)) (by unfold a_sh; first | rw [if_pos hc16] | rw [if_neg hc16]) ?_
          refine g_istn X.1.1 X.1.2.1 hl 2 d_Automaton_listPrefixes_42 rfl (Nat.le_of_ble_eq_true rfl) rfl (fun ls hl => ?_)
          refine lv_iload_n X.1.1 X.1.2.1 d_Automaton_listPrefixes_43 rfl (gl_at hl rfl) ?_
          refine g_istn X.1.1 X.1.2.1 hl 3 d_Automaton_listPrefixes_44 rfl (Nat.le_of_ble_eq_true rfl) rfl (fun ls hl => ?_)
          have loop45 : ∀ (fu : Nat) (len : Nat) (Hn : Heap) (locs : List Loc) (ls : Array Slot), (ks i).length + 1 - len < fu → (a_sh ks i ≤ len) → (len ≤ (ks i).length + 1 ∨ len = a_sh ks i) → (va_at D CL (ab, .inr (5, [.ref (ab + 1), .int (nI n), .ref (ab + 130), .ref (ab + 131), .ref (ab + 132), .ref (ab + 133), .int (nI (a_es ks i len).length), .ref (ab + 134), .int (nI S), .int (nI sp), .int (nI fi)])) Hn) → ((∃ F1 T1 L1 G1 : Nat → Int32, va_at D CL (ab + 130, .inl (q 0, 513, .inl F1)) Hn ∧ va_at D CL (ab + 131, .inl (q 0, 513, .inl T1)) Hn ∧ va_at D CL (ab + 132, .inl (q 0, 513, .inl L1)) Hn ∧ va_at D CL (ab + 133, .inl (q 0, 513, .inl G1)) Hn ∧ aE ks n (a_es ks i len) F1 T1 L1 G1)) → (∀ p : Nat, ¬ (p = ab ∨ (ab + 130 ≤ p ∧ p ≤ ab + 133)) → Hn[p]? = H[p]?) → (Hn.size = H.size) → (∀ x ∈ locs, (fun p => p = ab ∨ (ab + 130 ≤ p ∧ p ≤ ab + 133)) x.base) → gl ls [some (.ref ab), some (.int (nI i)), some (.int (nI (a_sh ks i))), some (.int (nI len))] → W p l e (gR 2 46 0 0) s m ([.ref ab] : List Value).toArray below meth c Hn locs 0 0 (gQ below ([.ref ab] : List Value).toArray s (fun v H1 => v = none ∧ va_at D CL (ab, .inr (5, [.ref (ab + 1), .int (nI n), .ref (ab + 130), .ref (ab + 131), .ref (ab + 132), .ref (ab + 133), .int (nI (a_pre ks n).length), .ref (ab + 134), .int (nI S), .int (nI sp), .int (nI fi)])) H1 ∧ (∃ F1 T1 L1 G1 : Nat → Int32, va_at D CL (ab + 130, .inl (q 0, 513, .inl F1)) H1 ∧ va_at D CL (ab + 131, .inl (q 0, 513, .inl T1)) H1 ∧ va_at D CL (ab + 132, .inl (q 0, 513, .inl L1)) H1 ∧ va_at D CL (ab + 133, .inl (q 0, 513, .inl G1)) H1 ∧ aE ks n (a_pre ks n) F1 T1 L1 G1) ∧ H1.size = H.size ∧ ∀ p : Nat, ¬ (p = ab ∨ (ab + 130 ≤ p ∧ p ≤ ab + 133)) → H1[p]? = H[p]?) 0 0 (fun p => p = ab ∨ (ab + 130 ≤ p ∧ p ≤ ab + 133))) (F0 m 45 ls []) := by
            intro fu
            induction fu with
            | zero => intro len Hn locs ls hmu; omega
            | succ fu ih45 =>
              intro len Hn locs ls hmu45 hi45_0 hi45_1 ho hX fr zz hL hl
              obtain ⟨F, T, L, G, hF, hT, hL0, hG, hE0⟩ := hX
              have hk := hkA.kept (fun p h1 h2 => fr p (by omega))
              have hk0 := hk
              obtain ⟨⟨kf, hkf, hkg⟩, hks⟩ := hk
              have hk := hk0
              have hs8 := hs9 i (by omega)
              have hx8 := hk8 i (by omega)
              refine lv_iload_n X.1.1 X.1.2.1 d_Automaton_listPrefixes_45 rfl (gl_at hl rfl) ?_
              refine lv_aload_n X.1.1 X.1.2.1 d_Automaton_listPrefixes_46 rfl (gl_at hl rfl) ?_
              refine g_get X kc_Automaton ho 0 (by decide) lk_Automaton_11 rfl d_Automaton_listPrefixes_47 ?_
              refine lv_iload_n X.1.1 X.1.2.1 d_Automaton_listPrefixes_50 rfl (gl_at hl rfl) ?_
              refine g_aald X 3 hkf rfl i (by omega) (by decide) (v := .ref (ab + 2 + 2 * i)) (by rw [hkg _ (by omega)]; rfl) d_Automaton_listPrefixes_51 ?_
              obtain ⟨hki, hli, hxl, hxc⟩ := hks i (by omega)
              refine g_get X kc_Key hki 1 (by decide) lk_Automaton_70 rfl d_Automaton_listPrefixes_52 ?_
              refine gn_gt X.1.1 X.1.2.1 len ((ks i).length) (by omega) (by omega) d_Automaton_listPrefixes_55 rfl (fun hc55 => ?_) (fun hc55 => ?_)
              · refine g_iinc X.1.1 X.1.2.1 (nI (i + 1)) hl 1 d_Automaton_listPrefixes_70 rfl (nI_1 _) rfl (fun ls hl => ?_)
                refine lv_goto X.1.1 X.1.2.1 d_Automaton_listPrefixes_73 rfl ?_
                exact ih7 (i + 1) Hn locs ls (by omega) (by omega) (by rw [← a_es_end hc55 hi45_1]; exact ho) (by rw [← a_es_end hc55 hi45_1]; exact ⟨F, T, L, G, hF, hT, hL0, hG, hE0⟩) fr zz hL (gl_forget (gl_forget hl 2) 3)
              · refine lv_aload_n X.1.1 X.1.2.1 d_Automaton_listPrefixes_58 rfl (gl_at hl rfl) ?_
                refine lv_iload_n X.1.1 X.1.2.1 d_Automaton_listPrefixes_59 rfl (gl_at hl rfl) ?_
                refine lv_iload_n X.1.1 X.1.2.1 d_Automaton_listPrefixes_60 rfl (gl_at hl rfl) ?_
                refine g_cv (A := (fun p => p = ab ∨ (ab + 130 ≤ p ∧ p ≤ ab + 133))) X gWS_good mw_Automaton_73 kc_Automaton ho (c_Automaton_addPrefix l D q Hn ab n (a_es ks i len) S sp fi ks ho hk hn F T L G hF hT hL0 hG hE0 (a_es_len hk8 hn (by omega) hi45_0 (by omega)) i len (by omega) (by omega)) (fun _ _ _ => trivial) gBlind.tt rfl rfl hl.1 (Nat.le_of_ble_eq_true rfl) rfl rfl ⟨by decide, by decide⟩ ⟨by decide, by decide⟩ d_Automaton_listPrefixes_61 (fun p h => h) hL (fun v11 H12 locs hp13 hL => ?_)
                obtain ⟨rfl, ho2, hX2, hz2, fr2⟩ := hp13
                rw [a_es_s hi45_0] at ho2 hX2
                refine g_iinc X.1.1 X.1.2.1 (nI (len + 1)) hl 3 d_Automaton_listPrefixes_64 rfl (nI_1 _) rfl (fun ls hl => ?_)
                refine lv_goto X.1.1 X.1.2.1 d_Automaton_listPrefixes_67 rfl ?_
                exact ih45 (len + 1) H12 locs ls (by omega) (by omega) (by omega) ho2 hX2 (fun p hp => (fr2 p hp).trans (fr p hp)) (hz2.trans zz) hL hl
          exact loop45 _ (a_sh ks i) Hn locs ls (Nat.lt_succ_self _) (Nat.le_refl _) (Or.inr rfl) (by rw [a_es_0]; exact ho) (by rw [a_es_0]; exact ⟨F, T, L, G, hF, hT, hL0, hG, hE0⟩) fr zz hL hl
  exact loop7 _ 0 H1 locs ls (Nat.lt_succ_self _) (Nat.zero_le _) h2 ⟨F, T, L, G, hF, hT, hL0, hG, fun x hx => absurd hx (Nat.not_lt_zero x)⟩ (fun p hp => (oq4 p (by omega))) z3 hL hl

set_option maxHeartbeats 4000000 in
set_option maxRecDepth 100000 in
theorem c_Automaton_countStates (l : Launch) (D : va_G) (q : Nat → ClassId) (H : Heap) (ab n : Nat) (es : List (Nat × Nat)) (S sp fi : Nat) (ks : Nat → List Nat) (ho : va_at D CL (ab, .inr (5, [.ref (ab + 1), .int (nI n), .ref (ab + 130), .ref (ab + 131), .ref (ab + 132), .ref (ab + 133), .int (nI es.length), .ref (ab + 134), .int (nI S), .int (nI sp), .int (nI fi)])) H) (hk : aK D q H ab ks) (hn : n ≤ 64) (F T L G U : Nat → Int32) (hF : va_at D CL (ab + 130, .inl (q 0, 513, .inl F)) H) (hT : va_at D CL (ab + 131, .inl (q 0, 513, .inl T)) H) (hL0 : va_at D CL (ab + 132, .inl (q 0, 513, .inl L)) H) (hG : va_at D CL (ab + 133, .inl (q 0, 513, .inl G)) H) (hU : va_at D CL (ab + 134, .inl (q 0, 513, .inl U)) H) (hE0 : aE ks n es F T L G) (hok : a_ok ks n es) (hes : es.length ≤ 513) : gC l y_Automaton_countStates (Cond.code y_Automaton_countStates b_Automaton_countStates 4 none :: gWS) (gR 3 73 0 0) D CL (gY q) (fun _ => True) [.ref ab] H (fun v H1 => v = none ∧ (∃ us : List Nat, va_at D CL (ab, .inr (5, [.ref (ab + 1), .int (nI n), .ref (ab + 130), .ref (ab + 131), .ref (ab + 132), .ref (ab + 133), .int (nI es.length), .ref (ab + 134), .int (nI us.length), .int (nI (a_sum (a_stp ks n es) us)), .int (nI (a_sum (a_fnl ks es) us))])) H1 ∧ a_fin ks n es us) ∧ (∃ U1 : Nat → Int32, va_at D CL (ab + 134, .inl (q 0, 513, .inl U1)) H1) ∧ H1.size = H.size ∧ ∀ p : Nat, ¬ (p = ab ∨ p = ab + 134) → H1[p]? = H[p]?) 0 0 (fun p => p = ab ∨ p = ab + 134) := by
  refine gC.ofW R_Automaton "countStates" (by decide) rfl rfl ?_
  intro p e s m below meth c hadm X hE hH B hne
  refine g_entry [some (.ref ab), none, none, none] rfl rfl (Nat.le_of_ble_eq_true rfl) (fun ls hl => ?_)
  have hkA := hk
  have hFA := hF
  have hTA := hT
  have hL0A := hL0
  have hGA := hG
  have hk0 := hk
  obtain ⟨⟨kf, hkf, hkg⟩, hks⟩ := hk
  have hk := hk0
  have hk8 : ∀ j, j < n → (ks j).length ≤ 8 := fun j hj => (hks j (by omega)).2.2.1
  refine lv_aload_n X.1.1 X.1.2.1 d_Automaton_countStates_0 rfl (gl_at hl rfl) ?_
  refine lv_iconst (v := nI 0) X.1.1 X.1.2.1 d_Automaton_countStates_1 (by decide) ?_
  refine g_put (A := (fun p => p = ab ∨ p = ab + 134)) X kc_Automaton ho 8 (by decide) lk_Automaton_83 rfl rfl rfl (Nat.le_of_ble_eq_true rfl) d_Automaton_countStates_2 (show _ ∨ _ by omega) (fun _ h => by cases h) (fun H1 locs h2 z3 oq4 hL => ?_)
  replace hkf := hkf.kept (oq4 _ (by omega))
  replace hF := hF.kept (oq4 _ (by omega))
  replace hT := hT.kept (oq4 _ (by omega))
  replace hL0 := hL0.kept (oq4 _ (by omega))
  replace hG := hG.kept (oq4 _ (by omega))
  replace hU := hU.kept (oq4 _ (by omega))
  refine lv_aload_n X.1.1 X.1.2.1 d_Automaton_countStates_5 rfl (gl_at hl rfl) ?_
  refine lv_iconst (v := nI 0) X.1.1 X.1.2.1 d_Automaton_countStates_6 (by decide) ?_
  refine g_put (A := (fun p => p = ab ∨ p = ab + 134)) X kc_Automaton h2 9 (by decide) lk_Automaton_86 rfl rfl rfl (Nat.le_of_ble_eq_true rfl) d_Automaton_countStates_7 (show _ ∨ _ by omega) hL (fun H5 locs h6 z7 oq8 hL => ?_)
  replace hkf := hkf.kept (oq8 _ (by omega))
  replace hF := hF.kept (oq8 _ (by omega))
  replace hT := hT.kept (oq8 _ (by omega))
  replace hL0 := hL0.kept (oq8 _ (by omega))
  replace hG := hG.kept (oq8 _ (by omega))
  replace hU := hU.kept (oq8 _ (by omega))
  refine lv_aload_n X.1.1 X.1.2.1 d_Automaton_countStates_10 rfl (gl_at hl rfl) ?_
  refine lv_iconst (v := nI 0) X.1.1 X.1.2.1 d_Automaton_countStates_11 (by decide) ?_
  refine g_put (A := (fun p => p = ab ∨ p = ab + 134)) X kc_Automaton h6 10 (by decide) lk_Automaton_89 rfl rfl rfl (Nat.le_of_ble_eq_true rfl) d_Automaton_countStates_12 (show _ ∨ _ by omega) hL (fun H9 locs h10 z11 oq12 hL => ?_)
  replace hkf := hkf.kept (oq12 _ (by omega))
  replace hF := hF.kept (oq12 _ (by omega))
  replace hT := hT.kept (oq12 _ (by omega))
  replace hL0 := hL0.kept (oq12 _ (by omega))
  replace hG := hG.kept (oq12 _ (by omega))
  replace hU := hU.kept (oq12 _ (by omega))
  refine lv_iconst (v := nI 0) X.1.1 X.1.2.1 d_Automaton_countStates_15 (by decide) ?_
  refine g_istn X.1.1 X.1.2.1 hl 1 d_Automaton_countStates_16 rfl (Nat.le_of_ble_eq_true rfl) rfl (fun ls hl => ?_)
  have loop17 : ∀ (fu : Nat) (h : Nat) (us : List Nat) (Hn : Heap) (locs : List Loc) (ls : Array Slot), 9 - h < fu → (h ≤ 9) → (a_stI ks n es h 0 us) → (va_at D CL (ab, .inr (5, [.ref (ab + 1), .int (nI n), .ref (ab + 130), .ref (ab + 131), .ref (ab + 132), .ref (ab + 133), .int (nI es.length), .ref (ab + 134), .int (nI us.length), .int (nI (a_sum (a_stp ks n es) us)), .int (nI (a_sum (a_fnl ks es) us))])) Hn) → ((∃ U1 : Nat → Int32, va_at D CL (ab + 134, .inl (q 0, 513, .inl U1)) Hn ∧ ∀ t, t < us.length → U1 t = nI (us.getD t 0))) → (∀ p : Nat, ¬ (p = ab ∨ p = ab + 134) → Hn[p]? = H[p]?) → (Hn.size = H.size) → (∀ x ∈ locs, (fun p => p = ab ∨ p = ab + 134) x.base) → gl ls [some (.ref ab), some (.int (nI h)), none, none] → W p l e (gR 3 73 0 0) s m ([.ref ab] : List Value).toArray below meth c Hn locs 0 0 (gQ below ([.ref ab] : List Value).toArray s (fun v H1 => v = none ∧ (∃ us : List Nat, va_at D CL (ab, .inr (5, [.ref (ab + 1), .int (nI n), .ref (ab + 130), .ref (ab + 131), .ref (ab + 132), .ref (ab + 133), .int (nI es.length), .ref (ab + 134), .int (nI us.length), .int (nI (a_sum (a_stp ks n es) us)), .int (nI (a_sum (a_fnl ks es) us))])) H1 ∧ a_fin ks n es us) ∧ (∃ U1 : Nat → Int32, va_at D CL (ab + 134, .inl (q 0, 513, .inl U1)) H1) ∧ H1.size = H.size ∧ ∀ p : Nat, ¬ (p = ab ∨ p = ab + 134) → H1[p]? = H[p]?) 0 0 (fun p => p = ab ∨ p = ab + 134)) (F0 m 17 ls []) := by
    intro fu
    induction fu with
    | zero => intro h us Hn locs ls hmu; omega
    | succ fu ih17 =>
      intro h us Hn locs ls hmu17 hi17_0 hi17_1 ho hUX fr zz hL hl
      obtain ⟨U, hU, hus⟩ := hUX
      have hk := hkA.kept (fun p h1 h2 => fr p (by omega))
      have hF := va_at.kept hFA (fr _ (by omega))
      have hT := va_at.kept hTA (fr _ (by omega))
      have hL0 := va_at.kept hL0A (fr _ (by omega))
      have hG := va_at.kept hGA (fr _ (by omega))
      have hk0 := hk
      obtain ⟨⟨kf, hkf, hkg⟩, hks⟩ := hk
      have hk := hk0
      refine lv_iload_n X.1.1 X.1.2.1 d_Automaton_countStates_17 rfl (gl_at hl rfl) ?_
      refine lv_bipush (v := nI 8) X.1.1 X.1.2.1 d_Automaton_countStates_18 (by decide) ?_
      refine gn_gt X.1.1 X.1.2.1 h 8 (by omega) (by omega) d_Automaton_countStates_20 rfl (fun hc20 => ?_) (fun hc20 => ?_)
      · have e9 : h = 9 := by omega
        rw [e9] at hi17_1
        exact g_vret X B ⟨rfl, ⟨us, ho, hi17_1.fin hk8 hok⟩, ⟨U, hU⟩, zz, fr⟩ hL d_Automaton_countStates_74 (by omega) (by omega)
      · refine lv_aload_n X.1.1 X.1.2.1 d_Automaton_countStates_23 rfl (gl_at hl rfl) ?_
        refine g_get X kc_Automaton ho 8 (by decide) lk_Automaton_83 rfl d_Automaton_countStates_24 ?_
        obtain ⟨f0, hf0⟩ : ∃ z, z = us.length := ⟨_, rfl⟩
        refine g_top (nI f0) (by rw [hf0]) ?_
        refine g_istn X.1.1 X.1.2.1 hl 2 d_Automaton_countStates_27 rfl (Nat.le_of_ble_eq_true rfl) rfl (fun ls hl => ?_)
        refine lv_iconst (v := nI 0) X.1.1 X.1.2.1 d_Automaton_countStates_28 (by decide) ?_
        refine g_istn X.1.1 X.1.2.1 hl 3 d_Automaton_countStates_29 rfl (Nat.le_of_ble_eq_true rfl) rfl (fun ls hl => ?_)
        have loop30 : ∀ (fu : Nat) (x : Nat) (us : List Nat) (Hn : Heap) (locs : List Loc) (ls : Array Slot), es.length - x < fu → (x ≤ es.length) → (a_stI ks n es h x us) → (a_lo ks n es h f0 us) → (va_at D CL (ab, .inr (5, [.ref (ab + 1), .int (nI n), .ref (ab + 130), .ref (ab + 131), .ref (ab + 132), .ref (ab + 133), .int (nI es.length), .ref (ab + 134), .int (nI us.length), .int (nI (a_sum (a_stp ks n es) us)), .int (nI (a_sum (a_fnl ks es) us))])) Hn) → ((∃ U1 : Nat → Int32, va_at D CL (ab + 134, .inl (q 0, 513, .inl U1)) Hn ∧ ∀ t, t < us.length → U1 t = nI (us.getD t 0))) → (∀ p : Nat, ¬ (p = ab ∨ p = ab + 134) → Hn[p]? = H[p]?) → (Hn.size = H.size) → (∀ x ∈ locs, (fun p => p = ab ∨ p = ab + 134) x.base) → gl ls [some (.ref ab), some (.int (nI h)), some (.int (nI f0)), some (.int (nI x))] → W p l e (gR 3 73 0 0) s m ([.ref ab] : List Value).toArray below meth c Hn locs 0 0 (gQ below ([.ref ab] : List Value).toArray s (fun v H1 => v = none ∧ (∃ us : List Nat, va_at D CL (ab, .inr (5, [.ref (ab + 1), .int (nI n), .ref (ab + 130), .ref (ab + 131), .ref (ab + 132), .ref (ab + 133), .int (nI es.length), .ref (ab + 134), .int (nI us.length), .int (nI (a_sum (a_stp ks n es) us)), .int (nI (a_sum (a_fnl ks es) us))])) H1 ∧ a_fin ks n es us) ∧ (∃ U1 : Nat → Int32, va_at D CL (ab + 134, .inl (q 0, 513, .inl U1)) H1) ∧ H1.size = H.size ∧ ∀ p : Nat, ¬ (p = ab ∨ p = ab + 134) → H1[p]? = H[p]?) 0 0 (fun p => p = ab ∨ p = ab + 134)) (F0 m 30 ls []) := by
          intro fu
          induction fu with
          | zero => intro x us Hn locs ls hmu; omega
          | succ fu ih30 =>
            intro x us Hn locs ls hmu30 hi30_0 hi30_1 hi30_2 ho hUX fr zz hL hl
            obtain ⟨U, hU, hus⟩ := hUX
            have hk := hkA.kept (fun p h1 h2 => fr p (by omega))
            have hF := va_at.kept hFA (fr _ (by omega))
            have hT := va_at.kept hTA (fr _ (by omega))
            have hL0 := va_at.kept hL0A (fr _ (by omega))
            have hG := va_at.kept hGA (fr _ (by omega))
            have hk0 := hk
            obtain ⟨⟨kf, hkf, hkg⟩, hks⟩ := hk
            have hk := hk0
            refine lv_iload_n X.1.1 X.1.2.1 d_Automaton_countStates_30 rfl (gl_at hl rfl) ?_
            refine lv_aload_n X.1.1 X.1.2.1 d_Automaton_countStates_31 rfl (gl_at hl rfl) ?_
            refine g_get X kc_Automaton ho 6 (by decide) lk_Automaton_63 rfl d_Automaton_countStates_32 ?_
            refine gn_ge X.1.1 X.1.2.1 x es.length (by omega) (by omega) d_Automaton_countStates_35 rfl (fun hc35 => ?_) (fun hc35 => ?_)
            · have e8 : x = es.length := by omega
              refine g_iinc X.1.1 X.1.2.1 (nI (h + 1)) hl 1 d_Automaton_countStates_68 rfl (nI_1 _) rfl (fun ls hl => ?_)
              refine lv_goto X.1.1 X.1.2.1 d_Automaton_countStates_71 rfl ?_
              exact ih17 (h + 1) us Hn locs ls (by omega) (by omega) (a_stI.next (by rw [← e8]; exact hi30_1)) ho ⟨U, hU, hus⟩ fr zz hL (gl_forget (gl_forget hl 2) 3)
            · refine lv_aload_n X.1.1 X.1.2.1 d_Automaton_countStates_38 rfl (gl_at hl rfl) ?_
              refine g_get X kc_Automaton ho 5 (by decide) lk_Automaton_28 rfl d_Automaton_countStates_39 ?_
              refine lv_iload_n X.1.1 X.1.2.1 d_Automaton_countStates_42 rfl (gl_at hl rfl) ?_
              refine g_iald X 0 hG rfl x (by omega) (by decide) d_Automaton_countStates_43 ?_
              have hh8 := a_h_le hk8 hok (y := x) (by omega)
              refine g_top (nI (a_h ks n es x)) (hE0 x (by omega)).2.2.2 ?_
              refine lv_iload_n X.1.1 X.1.2.1 d_Automaton_countStates_44 rfl (gl_at hl rfl) ?_
              refine gn_ne X.1.1 X.1.2.1 (a_h ks n es x) h (by omega) (by omega) d_Automaton_countStates_45 rfl (fun hc45 => ?_) (fun hc45 => ?_)
              · refine g_iinc X.1.1 X.1.2.1 (nI (x + 1)) hl 3 d_Automaton_countStates_62 rfl (nI_1 _) rfl (fun ls hl => ?_)
                refine lv_goto X.1.1 X.1.2.1 d_Automaton_countStates_65 rfl ?_
                exact ih30 (x + 1) us Hn locs ls (by omega) (by omega) (by first | exact hi30_1.skip hc45 | exact hi30_1.known hi30_2 hc45 hc54 | exact hi30_1.add hi30_2 (by omega) hc45 hc54) hi30_2 ho ⟨U, hU, hus⟩ fr zz hL hl
              · refine lv_aload_n X.1.1 X.1.2.1 d_Automaton_countStates_48 rfl (gl_at hl rfl) ?_
                refine lv_iload_n X.1.1 X.1.2.1 d_Automaton_countStates_49 rfl (gl_at hl rfl) ?_
                refine lv_iload_n X.1.1 X.1.2.1 d_Automaton_countStates_50 rfl (gl_at hl rfl) ?_
                have hul := Nat.le_of_lt (hi30_1.lt (by omega) hc45)
                refine g_cv (A := (fun p => p = ab ∨ p = ab + 134)) X gWS_good mw_Automaton_92 kc_Automaton ho (c_Automaton_isKnown l D q Hn ab n es us _ _ ks ho hk hn F T L G U hF hT hL0 hG hU hE0 hok hes (by omega) (fun t ht => ⟨hus t ht, (hi30_1.2.1 _ (a_mem ht)).1⟩) x f0 (by omega) hi30_2.1) (fun _ _ _ => trivial) gBlind.tt rfl rfl hl.1 (Nat.le_of_ble_eq_true rfl) rfl rfl ⟨by decide, by decide⟩ ⟨by decide, by decide⟩ d_Automaton_countStates_51 (fun _ h => h.elim) hL (fun v13 H14 locs hp15 hL => ?_)
                obtain ⟨rfl, hHe⟩ := hp15
                rw [hHe]
                refine lv_if_ne X.1.1 X.1.2.1 d_Automaton_countStates_54 rfl (fun hc54 => ?_) (fun hc54 => ?_)
                · replace hc54 := gz_t hc54
                  refine g_iinc X.1.1 X.1.2.1 (nI (x + 1)) hl 3 d_Automaton_countStates_62 rfl (nI_1 _) rfl (fun ls hl => ?_)
                  refine lv_goto X.1.1 X.1.2.1 d_Automaton_countStates_65 rfl ?_
                  exact ih30 (x + 1) us Hn locs ls (by omega) (by omega) (by first | exact hi30_1.skip hc45 | exact hi30_1.known hi30_2 hc45 hc54 | exact hi30_1.add hi30_2 (by omega) hc45 hc54) hi30_2 ho ⟨U, hU, hus⟩ fr zz hL hl
                · replace hc54 := gz_f hc54
                  refine lv_aload_n X.1.1 X.1.2.1 d_Automaton_countStates_57 rfl (gl_at hl rfl) ?_
                  refine lv_iload_n X.1.1 X.1.2.1 d_Automaton_countStates_58 rfl (gl_at hl rfl) ?_
                  have hus9 := hi30_1.lt (by omega) hc45
                  obtain ⟨x1, x2, x3, x4⟩ := hE0 x (by omega)
                  obtain ⟨x5, x6, x7⟩ := a_t_ok hok (x := x) (by omega)
                  have x8 := hk8 _ (hok x (by omega)).1
                  have x9 := (hok x (by omega)).2
                  refine g_cv (A := (fun p => p = ab ∨ p = ab + 134)) X gWS_good mw_Automaton_96 kc_Automaton ho (c_Automaton_addState l D q Hn ab n es.length us.length _ _ ks ho hk hn F T L hF hT hL0 U hU (by omega) x (by omega) _ _ _ x1 x2 x3 (by omega) (by omega) (by omega) (by omega)) (fun _ _ _ => trivial) gBlind.tt rfl rfl hl.1 (Nat.le_of_ble_eq_true rfl) rfl rfl ⟨by decide, by decide⟩ ⟨by decide, by decide⟩ d_Automaton_countStates_59 (fun p h => h) hL (fun v16 H17 locs hp18 hL => ?_)
                  obtain ⟨rfl, ho2, hU2, hz2, fr2⟩ := hp18
                  refine g_iinc X.1.1 X.1.2.1 (nI (x + 1)) hl 3 d_Automaton_countStates_62 rfl (nI_1 _) rfl (fun ls hl => ?_)
                  refine lv_goto X.1.1 X.1.2.1 d_Automaton_countStates_65 rfl ?_
                  exact ih30 (x + 1) (us ++ [x]) H17 locs ls (by omega) (by omega) (by first | exact hi30_1.skip hc45 | exact hi30_1.known hi30_2 hc45 hc54 | exact hi30_1.add hi30_2 (by omega) hc45 hc54) (hi30_2.add hc45) (by rw [List.length_append, a_sum_app, a_sum_app]; exact ho2) ⟨_, hU2, fun t ht => by
                    rw [List.length_append, List.length_singleton] at ht
                    by_cases h9 : t = us.length
                    · rw [h9, pk_us, t_get_last]
                    · rw [pk_un h9, t_get_app (by omega)]
                      exact hus t (by omega)⟩ (fun p hp => (fr2 p hp).trans (fr p hp)) (hz2.trans zz) hL hl
        exact loop30 _ 0 us Hn locs ls (Nat.lt_succ_self _) (Nat.zero_le _) hi17_1 (by rw [hf0]; exact hi17_1.lo) ho ⟨U, hU, hus⟩ fr zz hL hl
  exact loop17 _ 0 ([]) H9 locs ls (Nat.lt_succ_self _) (Nat.zero_le _) a_stI_0 h10 ⟨U, hU, fun t ht => absurd ht (Nat.not_lt_zero t)⟩ (fun p hp => ((oq12 p (by omega)).trans ((oq8 p (by omega)).trans (oq4 p (by omega))))) (z11.trans (z7.trans z3)) hL hl

set_option maxHeartbeats 4000000 in
set_option maxRecDepth 100000 in
theorem c_Automaton_become (l : Launch) (D : va_G) (q : Nat → ClassId) (H : Heap) (ab n0 : Nat) (ks : Nat → List Nat) (us : List Nat) (hA : aA D q H ab n0 ks us) (vb mb : Nat) (og : Option Nat) (srt bk tn wk f0 t0 : Nat) (hv : va_at D CL (vb, .inr (2, [.ref mb, va_rf og, .int (nI srt), .ref bk, .int (nI tn), .ref wk, .int (nI f0), .int (nI t0)])) H) (nm : Nat) (km : Nat → List Nat) (vs : Nat → Int32) (chg : Nat) (hm : mA D q H mb nm km vs chg) (hft : f0 ≤ t0) (htn : t0 ≤ nm) (hva : vb < ab ∨ ab + 134 < vb) (hma : mb + 130 < ab ∨ ab + 134 < mb) : gC l y_Automaton_become (Cond.code y_Automaton_become b_Automaton_become 3 none :: gWS) (gR 4 96 0 0) D CL (gY q) (fun _ => True) [.ref ab, .ref vb] H (fun v H1 => v = none ∧ (∃ (ks1 : Nat → List Nat) (us1 : List Nat), (∀ j, j < t0 - f0 → ks1 j = km (f0 + j)) ∧ aA D q H1 ab (t0 - f0) ks1 us1) ∧ H1.size = H.size ∧ ∀ p : Nat, ¬ (ab ≤ p ∧ p ≤ ab + 134) → H1[p]? = H[p]?) 0 0 (fun p => ab ≤ p ∧ p ≤ ab + 134) := by
  refine gC.ofW R_Automaton "become" (by decide) rfl rfl ?_
  intro p e s m below meth c hadm X hE hH B hne
  refine g_entry [some (.ref ab), some (.ref vb), none] rfl rfl (Nat.le_of_ble_eq_true rfl) (fun ls hl => ?_)
  have hv0 := hv
  obtain ⟨ho, hkA, hn0, hXA, hfA⟩ := hA
  obtain ⟨P, hP9⟩ : ∃ z, z = (a_pre ks n0).length := ⟨_, rfl⟩
  obtain ⟨S, hS9⟩ : ∃ z, z = us.length := ⟨_, rfl⟩
  obtain ⟨sp, hsp9⟩ : ∃ z, z = a_sum (a_stp ks n0 (a_pre ks n0)) us := ⟨_, rfl⟩
  obtain ⟨fi, hfi9⟩ : ∃ z, z = a_sum (a_fnl ks (a_pre ks n0)) us := ⟨_, rfl⟩
  rw [← hP9, ← hS9, ← hsp9, ← hfi9] at ho
  obtain ⟨hmo0, hnm, ⟨mf, g, hmf0, hfg, hg, hgi, hks0⟩, hvv⟩ := hm
  have hk := hkA
  refine lv_aload_n X.1.1 X.1.2.1 d_Automaton_become_0 rfl (gl_at hl rfl) ?_
  refine lv_aload_n X.1.1 X.1.2.1 d_Automaton_become_1 rfl (gl_at hl rfl) ?_
  refine g_cv (A := (fun p => ab ≤ p ∧ p ≤ ab + 134)) X gWS_good mw_Automaton_34 kc_View hv (c_View_count l D q H vb mb og srt bk tn wk f0 t0 hv hft) (fun _ _ _ => trivial) gBlind.tt rfl rfl hl.1 (Nat.le_of_ble_eq_true rfl) rfl rfl ⟨by decide, by decide⟩ ⟨by decide, by decide⟩ d_Automaton_become_2 (fun _ h => h.elim) (fun _ h => by cases h) (fun v1 H2 locs hp3 hL => ?_)
  obtain ⟨rfl, hHe⟩ := hp3
  rw [hHe]
  obtain ⟨n, hn9⟩ : ∃ z, z = t0 - f0 := ⟨_, rfl⟩
  refine g_top (nI n) (by rw [hn9]) ?_
  refine g_put (A := (fun p => ab ≤ p ∧ p ≤ ab + 134)) X kc_Automaton ho 1 (by decide) lk_Automaton_40 rfl rfl rfl (Nat.le_of_ble_eq_true rfl) d_Automaton_become_5 (show _ ∧ _ by omega) hL (fun H4 locs h5 z6 oq7 hL => ?_)
  replace hv := hv.kept (oq7 _ (by omega))
  replace hk := hk.kept (fun p h1 h2 => oq7 p (by omega))
  refine lv_iconst (v := nI 0) X.1.1 X.1.2.1 d_Automaton_become_8 (by decide) ?_
  refine g_istn X.1.1 X.1.2.1 hl 2 d_Automaton_become_9 rfl (Nat.le_of_ble_eq_true rfl) rfl (fun ls hl => ?_)
  have loop10 : ∀ (fu : Nat) (i : Nat) (Hn : Heap) (locs : List Loc) (ls : Array Slot), n - i < fu → (i ≤ n) → (va_at D CL (ab, .inr (5, [.ref (ab + 1), .int (nI n), .ref (ab + 130), .ref (ab + 131), .ref (ab + 132), .ref (ab + 133), .int (nI P), .ref (ab + 134), .int (nI S), .int (nI sp), .int (nI fi)])) Hn) → (aK D q Hn ab (a_cp km f0 ks i)) → (∀ p : Nat, ¬ (ab ≤ p ∧ p ≤ ab + 129) → Hn[p]? = H[p]?) → (Hn.size = H.size) → (∀ x ∈ locs, (fun p => ab ≤ p ∧ p ≤ ab + 134) x.base) → gl ls [some (.ref ab), some (.ref vb), some (.int (nI i))] → W p l e (gR 4 96 0 0) s m ([.ref ab, .ref vb] : List Value).toArray below meth c Hn locs 0 0 (gQ below ([.ref ab, .ref vb] : List Value).toArray s (fun v H1 => v = none ∧ (∃ (ks1 : Nat → List Nat) (us1 : List Nat), (∀ j, j < t0 - f0 → ks1 j = km (f0 + j)) ∧ aA D q H1 ab (t0 - f0) ks1 us1) ∧ H1.size = H.size ∧ ∀ p : Nat, ¬ (ab ≤ p ∧ p ≤ ab + 134) → H1[p]? = H[p]?) 0 0 (fun p => ab ≤ p ∧ p ≤ ab + 134)) (F0 m 10 ls []) := by
    intro fu
    induction fu with
    | zero => intro i Hn locs ls hmu; omega
    | succ fu ih10 =>
      intro i Hn locs ls hmu10 hi10_0 ho hk fr zz hL hl
      have hk1 := hk
      obtain ⟨⟨kf, hkf, hkg⟩, hks⟩ := hk
      have hk := hk1
      have hv := va_at.kept hv0 (fr _ (by omega))
      have hmo := va_at.kept hmo0 (fr _ (by omega))
      have hmf := va_at.kept hmf0 (fr _ (by omega))
      refine lv_iload_n X.1.1 X.1.2.1 d_Automaton_become_10 rfl (gl_at hl rfl) ?_
      refine lv_aload_n X.1.1 X.1.2.1 d_Automaton_become_11 rfl (gl_at hl rfl) ?_
      refine g_get X kc_Automaton ho 1 (by decide) lk_Automaton_40 rfl d_Automaton_become_12 ?_
      refine gn_ge X.1.1 X.1.2.1 i n (by omega) (by omega) d_Automaton_become_15 rfl (fun hc15 => ?_) (fun hc15 => ?_)
      · have e9 : n = i := by omega
        subst e9
        refine lv_aload_n X.1.1 X.1.2.1 d_Automaton_become_47 rfl (gl_at hl rfl) ?_
        obtain ⟨F, T, L, G, U, k1, k2, k3, k4, k5⟩ := hXA
        replace k1 := va_at.kept k1 (fr _ (by omega))
        replace k2 := va_at.kept k2 (fr _ (by omega))
        replace k3 := va_at.kept k3 (fr _ (by omega))
        replace k4 := va_at.kept k4 (fr _ (by omega))
        replace k5 := va_at.kept k5 (fr _ (by omega))
        refine g_cv (A := (fun p => ab ≤ p ∧ p ≤ ab + 134)) X gWS_good mw_Automaton_57 kc_Automaton ho (c_Automaton_listPrefixes l D q Hn ab n P S sp fi (a_cp km f0 ks n) ho hk (by omega) F T L G k1 k2 k3 k4) (fun _ _ _ => trivial) gBlind.tt rfl rfl hl.1 (Nat.le_of_ble_eq_true rfl) rfl rfl ⟨by decide, by decide⟩ ⟨by decide, by decide⟩ d_Automaton_become_48 (fun p h => show _ ∧ _ by omega) hL (fun v8 H9 locs hp10 hL => ?_)
        obtain ⟨rfl, ho2, ⟨F1, T1, L1, G1, f1, f2, f3, f4, hE2⟩, hz2, fr2⟩ := hp10
        replace k5 := va_at.kept k5 (fr2 _ (by omega))
        have hk2 := hk.kept (fun p h1 h2 => fr2 p (by omega))
        have hk8 : ∀ j, j < n → ((a_cp km f0 ks n) j).length ≤ 8 := fun j hj => (hk2.2 j (by omega)).2.2.1
        have hpl := a_pre_len hk8 n (Nat.le_refl _)
        refine lv_aload_n X.1.1 X.1.2.1 d_Automaton_become_51 rfl (gl_at hl rfl) ?_
        refine g_cv (A := (fun p => ab ≤ p ∧ p ≤ ab + 134)) X gWS_good mw_Automaton_60 kc_Automaton ho2 (c_Automaton_countStates l D q H9 ab n (a_pre (a_cp km f0 ks n) n) S sp fi (a_cp km f0 ks n) ho2 hk2 (by omega) F1 T1 L1 G1 U f1 f2 f3 f4 k5 hE2 (a_pre_ok n (Nat.le_refl _)) (by omega)) (fun _ _ _ => trivial) gBlind.tt rfl rfl hl.1 (Nat.le_of_ble_eq_true rfl) rfl rfl ⟨by decide, by decide⟩ ⟨by decide, by decide⟩ d_Automaton_become_52 (fun p h => show _ ∧ _ by omega) hL (fun v11 H12 locs hp13 hL => ?_)
        obtain ⟨rfl, ⟨us1, ho3, hfin⟩, ⟨U1, hU3⟩, hz3, fr3⟩ := hp13
        exact g_vret X B ⟨rfl, ⟨a_cp km f0 ks n, us1, fun j hj => by unfold a_cp; rw [if_pos (by omega)], by rw [← hn9]; exact ⟨ho3, hk2.kept (fun p h1 h2 => fr3 p (by omega)), by omega, ⟨F1, T1, L1, G1, U1, va_at.kept f1 (fr3 _ (by omega)), va_at.kept f2 (fr3 _ (by omega)), va_at.kept f3 (fr3 _ (by omega)), va_at.kept f4 (fr3 _ (by omega)), hU3⟩, hfin⟩⟩, hz3.trans (hz2.trans zz), fun p hp => (fr3 p (by omega)).trans ((fr2 p (by omega)).trans (fr p (by omega)))⟩ hL d_Automaton_become_55 (by omega) (by omega)
      · refine lv_aload_n X.1.1 X.1.2.1 d_Automaton_become_18 rfl (gl_at hl rfl) ?_
        refine g_get X kc_Automaton ho 0 (by decide) lk_Automaton_11 rfl d_Automaton_become_19 ?_
        refine lv_iload_n X.1.1 X.1.2.1 d_Automaton_become_22 rfl (gl_at hl rfl) ?_
        refine g_aald X 3 hkf rfl i (by omega) (by decide) (v := .ref (ab + 2 + 2 * i)) (by rw [hkg _ (by omega)]; rfl) d_Automaton_become_23 ?_
        refine lv_aload_n X.1.1 X.1.2.1 d_Automaton_become_24 rfl (gl_at hl rfl) ?_
        refine g_get X kc_View hv 0 (by decide) lk_Automaton_43 rfl d_Automaton_become_25 ?_
        refine g_get X kc_KeyMap hmo 0 (by decide) lk_Automaton_47 rfl d_Automaton_become_28 ?_
        refine lv_aload_n X.1.1 X.1.2.1 d_Automaton_become_31 rfl (gl_at hl rfl) ?_
        refine g_get X kc_View hv 6 (by decide) lk_Automaton_50 rfl d_Automaton_become_32 ?_
        refine lv_iload_n X.1.1 X.1.2.1 d_Automaton_become_35 rfl (gl_at hl rfl) ?_
        refine lv_iadd X.1.1 X.1.2.1 d_Automaton_become_36 ?_
        refine g_top (nI (f0 + i)) (nI_add _ _) ?_
        refine g_aald X 3 hmf rfl (f0 + i) (by omega) (by decide) (v := .ref (g (f0 + i))) (by rw [hfg _ (by omega)]; rfl) d_Automaton_become_37 ?_
        obtain ⟨j8, hj8, hgj8⟩ := hg (f0 + i) (by omega)
        have hkb := (hks0 (f0 + i) (by omega)).kept (fr _ (by omega)) (fr _ (by omega))
        refine g_cv (A := (fun p => ab ≤ p ∧ p ≤ ab + 134)) X gWS_good mw_Automaton_53 kc_Key (hk.2 i (by omega)).1 (c_Key_become l D q Hn (ab + 2 + 2 * i) (g (f0 + i)) _ _ (hk.2 i (by omega)) hkb (by omega)) (fun _ _ _ => trivial) gBlind.tt rfl rfl hl.1 (Nat.le_of_ble_eq_true rfl) rfl rfl ⟨by decide, by decide⟩ ⟨by decide, by decide⟩ d_Automaton_become_38 (fun p h => show _ ∧ _ by omega) hL (fun v14 H15 locs hp16 hL => ?_)
        obtain ⟨rfl, hkn2, hz2, fr2⟩ := hp16
        refine g_iinc X.1.1 X.1.2.1 (nI (i + 1)) hl 2 d_Automaton_become_41 rfl (nI_1 _) rfl (fun ls hl => ?_)
        refine lv_goto X.1.1 X.1.2.1 d_Automaton_become_44 rfl ?_
        exact ih10 (i + 1) H15 locs ls (by omega) (by omega) (va_at.kept ho (fr2 _ (by omega))) (hk.cp (by omega) hkn2 fr2) (fun p hp => (fr2 p (by omega)).trans (fr p hp)) (hz2.trans zz) hL hl
  exact loop10 _ 0 H4 locs ls (Nat.lt_succ_self _) (Nat.zero_le _) h5 (by rw [a_cp_0]; exact hk) (fun p hp => (oq7 p (by omega))) z6 hL hl

set_option maxHeartbeats 4000000 in
set_option maxRecDepth 100000 in
/-- Automaton() -/
theorem c_Automaton_init (l : Launch) (D : va_G) (q : Nat → ClassId) (H : Heap) (ab : Nat) (hz : H.size = ab + 1) (ho : va_at D CL (ab, .inr (5, [.null, .int 0, .null, .null, .null, .null, .int 0, .null, .int 0, .int 0, .int 0])) H) : gC l y_Automaton_init (Cond.code y_Automaton_init b_Automaton_init 2 none :: gWS) (gR 2 32 134 3269) D CL (gY q) (fun U => va_AO R_Key U) [.ref ab] H (fun v H1 => v = none ∧ aA D q H1 ab 0 (fun _ => []) [] ∧ H1.size = ab + 135 ∧ ∀ p : Nat, p < ab → H1[p]? = H[p]?) 134 3269 (fun p => ab ≤ p) := by
  refine gC.ofW R_Automaton "<init>" (by decide) rfl rfl ?_
  intro p e s m below meth c hadm X hE hH B hne
  refine g_entry [some (.ref ab), none] rfl rfl (Nat.le_of_ble_eq_true rfl) (fun ls hl => ?_)
  refine lv_aload_n X.1.1 X.1.2.1 d_Automaton_init_0 rfl (gl_at hl rfl) ?_
  refine W.objInit X.1.1 X.1.2.1 X.1.2.2.2.1 (X.1.2.2.2.2 _ mo_Automaton_3.1) (X.1.2.2.2.2 _ mo_Automaton_3.2.1) (X.1.2.2.2.2 _ mo_Automaton_3.2.2) rfl (by rw [X.1.2.2.1]; exact hl.1) rfl d_Automaton_init_1 (Nat.le_of_ble_eq_true rfl) (Nat.le_of_ble_eq_true rfl) ?_
  refine W.eq (g2 := F0 m 4 ls []) rfl ?_
  refine lv_aload_n X.1.1 X.1.2.1 d_Automaton_init_4 rfl (gl_at hl rfl) ?_
  refine lv_bipush (v := nI 64) X.1.1 X.1.2.1 d_Automaton_init_5 (by decide) ?_
  refine g_newq X 3 rfl lk_Automaton_9 hE 64 (by decide) (show _ ≤ 134 by omega) (show _ ≤ 3269 by omega) d_Automaton_init_7 (fun H1 h2 z3 o4 => ?_)
  rw [hz] at h2 z3 o4 ⊢
  replace ho := ho.kept (o4 _ (by omega))
  refine g_putF (A := (fun p => ab ≤ p)) X B.2.2 kc_Automaton ho 0 (by decide) lk_Automaton_11 rfl rfl rfl rfl (Nat.le_of_ble_eq_true rfl) d_Automaton_init_10 (show ab ≤ _ by omega) (fun _ h => by cases h) (fun H5 locs h6 z7 oq8 hL => ?_)
  replace h2 := h2.kept (oq8 _ (by omega))
  have hz9 := z7.trans z3
  refine lv_iconst (v := nI 0) X.1.1 X.1.2.1 d_Automaton_init_13 (by decide) ?_
  refine g_istn X.1.1 X.1.2.1 hl 1 d_Automaton_init_14 rfl (Nat.le_of_ble_eq_true rfl) rfl (fun ls hl => ?_)
  have loop15 : ∀ (fu : Nat) (i : Nat) (f : Nat → Option Nat) (Hn : Heap) (locs : List Loc) (ls : Array Slot), 64 - i < fu → (i ≤ 64) → (∀ j, j < i → f j = some (ab + 2 + 2 * j)) → (va_at D CL (ab, .inr (5, [.ref (ab + 1), .int 0, .null, .null, .null, .null, .int 0, .null, .int 0, .int 0, .int 0])) Hn) → (va_at D CL (ab + 1, .inl (q 3, 64, .inr (.inr (.inr (.inr f))))) Hn) → (∀ j, j < i → kA D q Hn (ab + 2 + 2 * j) []) → (Hn.size = ab + 2 + 2 * i) → (∀ p : Nat, p < ab → Hn[p]? = H[p]?) → (∀ x ∈ locs, (fun p => ab ≤ p) x.base) → gl ls [some (.ref ab), some (.int (nI i))] → W p l e (gR 2 32 134 3269) s m ([.ref ab] : List Value).toArray below meth c Hn locs (1 + 2 * i) (64 + 10 * i) (gQ below ([.ref ab] : List Value).toArray s (fun v H1 => v = none ∧ aA D q H1 ab 0 (fun _ => []) [] ∧ H1.size = ab + 135 ∧ ∀ p : Nat, p < ab → H1[p]? = H[p]?) 134 3269 (fun p => ab ≤ p)) (F0 m 15 ls []) := by
    intro fu
    induction fu with
    | zero => intro i f Hn locs ls hmu; omega
    | succ fu ih15 =>
      intro i f Hn locs ls hmu15 hi15_0 hi15_1 ho hf hkq hz fr hL hl
      refine lv_iload_n X.1.1 X.1.2.1 d_Automaton_init_15 rfl (gl_at hl rfl) ?_
      refine lv_bipush (v := nI 64) X.1.1 X.1.2.1 d_Automaton_init_16 (by decide) ?_
      refine gn_ge X.1.1 X.1.2.1 i 64 (by omega) (by omega) d_Automaton_init_18 rfl (fun hc18 => ?_) (fun hc18 => ?_)
      · have e9 : 64 = i := by omega
        subst e9
        have hff := hi15_1
        have hz0 : Hn.size = ab + 130 := by omega
        refine lv_aload_n X.1.1 X.1.2.1 d_Automaton_init_40 rfl (gl_at hl rfl) ?_
        refine lv_sipush (v := nI 513) X.1.1 X.1.2.1 d_Automaton_init_41 (by decide) ?_
        refine g_newi X 0 rfl ka_int 513 (by decide) (show _ ≤ 134 by omega) (show _ ≤ 3269 by omega) d_Automaton_init_44 (fun H10 h11 z12 o13 => ?_)
        rw [hz0] at h11 z12 o13 ⊢
        replace ho := ho.kept (o13 _ (by omega))
        replace hf := hf.kept (o13 _ (by omega))
        refine g_putF (A := (fun p => ab ≤ p)) X B.2.2 kc_Automaton ho 2 (by decide) lk_Automaton_18 rfl rfl rfl rfl (Nat.le_of_ble_eq_true rfl) d_Automaton_init_46 (show ab ≤ _ by omega) hL (fun H14 locs h15 z16 oq17 hL => ?_)
        replace hf := hf.kept (oq17 _ (by omega))
        replace h11 := h11.kept (oq17 _ (by omega))
        have hz18 := z16.trans z12
        refine lv_aload_n X.1.1 X.1.2.1 d_Automaton_init_49 rfl (gl_at hl rfl) ?_
        refine lv_sipush (v := nI 513) X.1.1 X.1.2.1 d_Automaton_init_50 (by decide) ?_
        refine g_newi X 0 rfl ka_int 513 (by decide) (show _ ≤ 134 by omega) (show _ ≤ 3269 by omega) d_Automaton_init_53 (fun H19 h20 z21 o22 => ?_)
        rw [hz18] at h20 z21 o22 ⊢
        replace h15 := h15.kept (o22 _ (by omega))
        replace hf := hf.kept (o22 _ (by omega))
        replace h11 := h11.kept (o22 _ (by omega))
        refine g_putF (A := (fun p => ab ≤ p)) X B.2.2 kc_Automaton h15 3 (by decide) lk_Automaton_22 rfl rfl rfl rfl (Nat.le_of_ble_eq_true rfl) d_Automaton_init_55 (show ab ≤ _ by omega) hL (fun H23 locs h24 z25 oq26 hL => ?_)
        replace hf := hf.kept (oq26 _ (by omega))
        replace h11 := h11.kept (oq26 _ (by omega))
        replace h20 := h20.kept (oq26 _ (by omega))
        have hz27 := z25.trans z21
        refine lv_aload_n X.1.1 X.1.2.1 d_Automaton_init_58 rfl (gl_at hl rfl) ?_
        refine lv_sipush (v := nI 513) X.1.1 X.1.2.1 d_Automaton_init_59 (by decide) ?_
        refine g_newi X 0 rfl ka_int 513 (by decide) (show _ ≤ 134 by omega) (show _ ≤ 3269 by omega) d_Automaton_init_62 (fun H28 h29 z30 o31 => ?_)
        rw [hz27] at h29 z30 o31 ⊢
        replace h24 := h24.kept (o31 _ (by omega))
        replace hf := hf.kept (o31 _ (by omega))
        replace h11 := h11.kept (o31 _ (by omega))
        replace h20 := h20.kept (o31 _ (by omega))
        refine g_putF (A := (fun p => ab ≤ p)) X B.2.2 kc_Automaton h24 4 (by decide) lk_Automaton_25 rfl rfl rfl rfl (Nat.le_of_ble_eq_true rfl) d_Automaton_init_64 (show ab ≤ _ by omega) hL (fun H32 locs h33 z34 oq35 hL => ?_)
        replace hf := hf.kept (oq35 _ (by omega))
        replace h11 := h11.kept (oq35 _ (by omega))
        replace h20 := h20.kept (oq35 _ (by omega))
        replace h29 := h29.kept (oq35 _ (by omega))
        have hz36 := z34.trans z30
        refine lv_aload_n X.1.1 X.1.2.1 d_Automaton_init_67 rfl (gl_at hl rfl) ?_
        refine lv_sipush (v := nI 513) X.1.1 X.1.2.1 d_Automaton_init_68 (by decide) ?_
        refine g_newi X 0 rfl ka_int 513 (by decide) (show _ ≤ 134 by omega) (show _ ≤ 3269 by omega) d_Automaton_init_71 (fun H37 h38 z39 o40 => ?_)
        rw [hz36] at h38 z39 o40 ⊢
        replace h33 := h33.kept (o40 _ (by omega))
        replace hf := hf.kept (o40 _ (by omega))
        replace h11 := h11.kept (o40 _ (by omega))
        replace h20 := h20.kept (o40 _ (by omega))
        replace h29 := h29.kept (o40 _ (by omega))
        refine g_putF (A := (fun p => ab ≤ p)) X B.2.2 kc_Automaton h33 5 (by decide) lk_Automaton_28 rfl rfl rfl rfl (Nat.le_of_ble_eq_true rfl) d_Automaton_init_73 (show ab ≤ _ by omega) hL (fun H41 locs h42 z43 oq44 hL => ?_)
        replace hf := hf.kept (oq44 _ (by omega))
        replace h11 := h11.kept (oq44 _ (by omega))
        replace h20 := h20.kept (oq44 _ (by omega))
        replace h29 := h29.kept (oq44 _ (by omega))
        replace h38 := h38.kept (oq44 _ (by omega))
        have hz45 := z43.trans z39
        refine lv_aload_n X.1.1 X.1.2.1 d_Automaton_init_76 rfl (gl_at hl rfl) ?_
        refine lv_sipush (v := nI 513) X.1.1 X.1.2.1 d_Automaton_init_77 (by decide) ?_
        refine g_newi X 0 rfl ka_int 513 (by decide) (show _ ≤ 134 by omega) (show _ ≤ 3269 by omega) d_Automaton_init_80 (fun H46 h47 z48 o49 => ?_)
        rw [hz45] at h47 z48 o49 ⊢
        replace h42 := h42.kept (o49 _ (by omega))
        replace hf := hf.kept (o49 _ (by omega))
        replace h11 := h11.kept (o49 _ (by omega))
        replace h20 := h20.kept (o49 _ (by omega))
        replace h29 := h29.kept (o49 _ (by omega))
        replace h38 := h38.kept (o49 _ (by omega))
        refine g_putF (A := (fun p => ab ≤ p)) X B.2.2 kc_Automaton h42 7 (by decide) lk_Automaton_31 rfl rfl rfl rfl (Nat.le_of_ble_eq_true rfl) d_Automaton_init_82 (show ab ≤ _ by omega) hL (fun H50 locs h51 z52 oq53 hL => ?_)
        replace hf := hf.kept (oq53 _ (by omega))
        replace h11 := h11.kept (oq53 _ (by omega))
        replace h20 := h20.kept (oq53 _ (by omega))
        replace h29 := h29.kept (oq53 _ (by omega))
        replace h38 := h38.kept (oq53 _ (by omega))
        replace h47 := h47.kept (oq53 _ (by omega))
        have hz54 := z52.trans z48
        have hch : ∀ p : Nat, p < ab + 130 → p ≠ ab → H50[p]? = Hn[p]? := fun p hp hp2 => ((oq53 p (by omega)).trans ((o49 p (by omega)).trans ((oq44 p (by omega)).trans ((o40 p (by omega)).trans ((oq35 p (by omega)).trans ((o31 p (by omega)).trans ((oq26 p (by omega)).trans ((o22 p (by omega)).trans ((oq17 p (by omega)).trans (o13 p (by omega)))))))))))
        refine g_vret X B ⟨rfl, ⟨h51, ⟨⟨_, hf, hff⟩, fun i hi => ?_⟩, by omega, ⟨_, _, _, _, _, h11, h20, h29, h38, h47⟩, a_fin_0⟩, by omega, fun p hp => ?_⟩ hL d_Automaton_init_85 (by omega) (by omega)
        · exact (hkq i hi).kept (hch _ (by omega) (by omega)) (hch _ (by omega) (by omega))
        · exact (hch p (by omega) (by omega)).trans (fr p hp)
      · refine lv_aload_n X.1.1 X.1.2.1 d_Automaton_init_21 rfl (gl_at hl rfl) ?_
        refine g_get X kc_Automaton ho 0 (by decide) lk_Automaton_11 rfl d_Automaton_init_22 ?_
        refine lv_iload_n X.1.1 X.1.2.1 d_Automaton_init_25 rfl (gl_at hl rfl) ?_
        refine g_new X kc_Key lk_Automaton_9 ki_Key.1 ki_Key.2 (fs := [.null, .int 0]) kf_Key (show _ ≤ 134 by omega) (show _ ≤ 3269 by omega) d_Automaton_init_26 (fun H55 h56 z57 o58 => ?_)
        rw [hz] at h56 z57 o58 ⊢
        replace ho := ho.kept (o58 _ (by omega))
        replace hf := hf.kept (o58 _ (by omega))
        refine lv_dup X.1.1 X.1.2.1 d_Automaton_init_29 rfl ?_
        refine g_ci (A := (fun p => ab ≤ p)) X gWS_good mw_Automaton_17 (c_Key_init l D q H55 (ab + 2 + 2 * i) (by omega) h56) (fun _ _ _ => trivial) gBlind.tt rfl rfl hl.1 (Nat.le_of_ble_eq_true rfl) rfl rfl ⟨by decide, by decide⟩ ⟨show _ ≤ 134 by omega, show _ ≤ 3269 by omega⟩ d_Automaton_init_30 (fun p (h : _ ≤ p) => show ab ≤ p by omega) hL (fun v59 H60 locs hp61 hL => ?_)
        obtain ⟨rfl, hkk, hzk, frk⟩ := hp61
        replace ho := va_at.kept ho (frk _ (by omega))
        replace hf := va_at.kept hf (frk _ (by omega))
        have hkk1 := hkk.1
        refine g_aast (A := (fun p => ab ≤ p)) X 3 kc_Key hf rfl hkk1 i (by omega) (by decide) d_Automaton_init_33 (show ab ≤ _ by omega) hL (fun H62 locs h63 z64 oq65 hL => ?_)
        replace ho := ho.kept (oq65 _ (by omega))
        replace hkk1 := hkk1.kept (oq65 _ (by omega))
        have hz66 := z64.trans hzk
        refine g_iinc X.1.1 X.1.2.1 (nI (i + 1)) hl 1 d_Automaton_init_34 rfl (nI_1 _) rfl (fun ls hl => ?_)
        refine lv_goto X.1.1 X.1.2.1 d_Automaton_init_37 rfl ?_
        refine W.widen (k := 1 + 2 * (i + 1)) (n := 64 + 10 * (i + 1)) (by omega) (by omega) ?_
        exact ih15 (i + 1) (va_up f i (some (ab + 2 + 2 * i))) H62 locs ls (by omega) (by omega) (fun j hj => by
          unfold va_up
          by_cases h9 : j = i
          · rw [if_pos h9, h9]
          · rw [if_neg h9]
            exact hi15_1 j (by omega)) ho h63 (fun j hj => by
          by_cases h9 : j = i
          · subst h9
            exact hkk.kept (oq65 _ (by omega)) (oq65 _ (by omega))
          · exact (((hkq j (by omega)).kept (o58 _ (by omega)) (o58 _ (by omega))).kept (frk _ (by omega)) (frk _ (by omega))).kept (oq65 _ (by omega)) (oq65 _ (by omega))) (by omega) (fun p hp => (oq65 p (by omega)).trans ((frk p (by omega)).trans ((o58 p (by omega)).trans (fr p hp)))) hL hl
  refine W.widen (k := 1 + 2 * 0) (n := 64 + 10 * 0) (by omega) (by omega) ?_
  exact loop15 _ 0 (fun _ => none) H5 locs ls (Nat.lt_succ_self _) (by omega) (fun j hj => absurd hj (Nat.not_lt_zero j)) h6 h2 (fun j hj => absurd hj (Nat.not_lt_zero j)) (by omega) (fun p hp => (oq8 p (by omega)).trans (o4 p (by omega))) hL hl
