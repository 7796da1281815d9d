/-! the class Automaton, 2: printed by wip/specs/aut2.py -/
set_option maxHeartbeats 4000000 in
set_option maxRecDepth 100000 in
theorem c_Automaton_listPrefixes (l : Launch) (D : va_G) (q : Nat → ClassId) (H : Heap) (ab n P S sp fi : Nat) (ks : Nat → List Nat) (ho : va_at D CL (ab, .inr (5, [.ref (ab + 1), .int (nI n), .ref (ab + 130), .ref (ab + 131), .ref (ab + 132), .ref (ab + 133), .int (nI P), .ref (ab + 134), .int (nI S), .int (nI sp), .int (nI fi)])) H) (hk : aK D q H ab ks) (hn : n ≤ 64) (F T L G : Nat → Int32) (hF : va_at D CL (ab + 130, .inl (q 0, 513, .inl F)) H) (hT : va_at D CL (ab + 131, .inl (q 0, 513, .inl T)) H) (hL0 : va_at D CL (ab + 132, .inl (q 0, 513, .inl L)) H) (hG : va_at D CL (ab + 133, .inl (q 0, 513, .inl G)) H) : gC l y_Automaton_listPrefixes (Cond.code y_Automaton_listPrefixes b_Automaton_listPrefixes 4 none :: gWS) (gR 2 46 0 0) D CL (gY q) (fun _ => True) [.ref ab] H (fun v H1 => v = none ∧ va_at D CL (ab, .inr (5, [.ref (ab + 1), .int (nI n), .ref (ab + 130), .ref (ab + 131), .ref (ab + 132), .ref (ab + 133), .int (nI (a_pre ks n).length), .ref (ab + 134), .int (nI S), .int (nI sp), .int (nI fi)])) H1 ∧ (∃ F1 T1 L1 G1 : Nat → Int32, va_at D CL (ab + 130, .inl (q 0, 513, .inl F1)) H1 ∧ va_at D CL (ab + 131, .inl (q 0, 513, .inl T1)) H1 ∧ va_at D CL (ab + 132, .inl (q 0, 513, .inl L1)) H1 ∧ va_at D CL (ab + 133, .inl (q 0, 513, .inl G1)) H1 ∧ aE ks n (a_pre ks n) F1 T1 L1 G1) ∧ H1.size = H.size ∧ ∀ p : Nat, ¬ (p = ab ∨ (ab + 130 ≤ p ∧ p ≤ ab + 133)) → H1[p]? = H[p]?) 0 0 (fun p => p = ab ∨ (ab + 130 ≤ p ∧ p ≤ ab + 133)) := by
  refine gC.ofW R_Automaton "listPrefixes" (by decide) rfl rfl ?_
  intro p e s m below meth c hadm X hE hH B hne
  refine g_entry [some (.ref ab), none, none, none] rfl rfl (Nat.le_of_ble_eq_true rfl) (fun ls hl => ?_)
  have hkA := hk
  have hk0 := hk
  obtain ⟨⟨kf, hkf, hkg⟩, hks⟩ := hk
  have hk := hk0
  have hk8 : ∀ j, j < n → (ks j).length ≤ 8 := fun j hj => (hks j (by omega)).2.2.1
  have hs9 : ∀ j, j < n → a_sh ks j ≤ 9 := fun j hj => by (have h1 := t_lcp_le1 (ks j) (ks (j - 1))); (have h2 := hk8 j hj); unfold a_sh; split <;> omega
  refine lv_aload_n X.1.1 X.1.2.1 d_Automaton_listPrefixes_0 rfl (gl_at hl rfl) ?_
  refine lv_iconst (v := nI 0) X.1.1 X.1.2.1 d_Automaton_listPrefixes_1 (by decide) ?_
  refine g_put (A := (fun p => p = ab ∨ (ab + 130 ≤ p ∧ p ≤ ab + 133))) X kc_Automaton ho 6 (by decide) lk_Automaton_63 rfl rfl rfl (Nat.le_of_ble_eq_true rfl) d_Automaton_listPrefixes_2 (show _ ∨ _ by omega) (fun _ h => by cases h) (fun H1 locs h2 z3 oq4 hL => ?_)
  replace hkf := hkf.kept (oq4 _ (by omega))
  replace hF := hF.kept (oq4 _ (by omega))
  replace hT := hT.kept (oq4 _ (by omega))
  replace hL0 := hL0.kept (oq4 _ (by omega))
  replace hG := hG.kept (oq4 _ (by omega))
  refine lv_iconst (v := nI 0) X.1.1 X.1.2.1 d_Automaton_listPrefixes_5 (by decide) ?_
  refine g_istn X.1.1 X.1.2.1 hl 1 d_Automaton_listPrefixes_6 rfl (Nat.le_of_ble_eq_true rfl) rfl (fun ls hl => ?_)
  have loop7 : ∀ (fu : Nat) (i : Nat) (Hn : Heap) (locs : List Loc) (ls : Array Slot), n - i < fu → (i ≤ n) → (va_at D CL (ab, .inr (5, [.ref (ab + 1), .int (nI n), .ref (ab + 130), .ref (ab + 131), .ref (ab + 132), .ref (ab + 133), .int (nI (a_pre ks i).length), .ref (ab + 134), .int (nI S), .int (nI sp), .int (nI fi)])) Hn) → ((∃ F1 T1 L1 G1 : Nat → Int32, va_at D CL (ab + 130, .inl (q 0, 513, .inl F1)) Hn ∧ va_at D CL (ab + 131, .inl (q 0, 513, .inl T1)) Hn ∧ va_at D CL (ab + 132, .inl (q 0, 513, .inl L1)) Hn ∧ va_at D CL (ab + 133, .inl (q 0, 513, .inl G1)) Hn ∧ aE ks n (a_pre ks i) F1 T1 L1 G1)) → (∀ p : Nat, ¬ (p = ab ∨ (ab + 130 ≤ p ∧ p ≤ ab + 133)) → Hn[p]? = H[p]?) → (Hn.size = H.size) → (∀ x ∈ locs, (fun p => p = ab ∨ (ab + 130 ≤ p ∧ p ≤ ab + 133)) x.base) → gl ls [some (.ref ab), some (.int (nI i)), none, none] → W p l e (gR 2 46 0 0) s m ([.ref ab] : List Value).toArray below meth c Hn locs 0 0 (gQ below ([.ref ab] : List Value).toArray s (fun v H1 => v = none ∧ va_at D CL (ab, .inr (5, [.ref (ab + 1), .int (nI n), .ref (ab + 130), .ref (ab + 131), .ref (ab + 132), .ref (ab + 133), .int (nI (a_pre ks n).length), .ref (ab + 134), .int (nI S), .int (nI sp), .int (nI fi)])) H1 ∧ (∃ F1 T1 L1 G1 : Nat → Int32, va_at D CL (ab + 130, .inl (q 0, 513, .inl F1)) H1 ∧ va_at D CL (ab + 131, .inl (q 0, 513, .inl T1)) H1 ∧ va_at D CL (ab + 132, .inl (q 0, 513, .inl L1)) H1 ∧ va_at D CL (ab + 133, .inl (q 0, 513, .inl G1)) H1 ∧ aE ks n (a_pre ks n) F1 T1 L1 G1) ∧ H1.size = H.size ∧ ∀ p : Nat, ¬ (p = ab ∨ (ab + 130 ≤ p ∧ p ≤ ab + 133)) → H1[p]? = H[p]?) 0 0 (fun p => p = ab ∨ (ab + 130 ≤ p ∧ p ≤ ab + 133))) (F0 m 7 ls []) := by
    intro fu
    induction fu with
    | zero => intro i Hn locs ls hmu; omega
    | succ fu ih7 =>
      intro i Hn locs ls hmu7 hi7_0 ho hX fr zz hL hl
      obtain ⟨F, T, L, G, hF, hT, hL0, hG, hE0⟩ := hX
      have hk := hkA.kept (fun p h1 h2 => fr p (by omega))
      have hk0 := hk
      obtain ⟨⟨kf, hkf, hkg⟩, hks⟩ := hk
      have hk := hk0
      refine lv_iload_n X.1.1 X.1.2.1 d_Automaton_listPrefixes_7 rfl (gl_at hl rfl) ?_
      refine lv_aload_n X.1.1 X.1.2.1 d_Automaton_listPrefixes_8 rfl (gl_at hl rfl) ?_
      refine g_get X kc_Automaton ho 1 (by decide) lk_Automaton_40 rfl d_Automaton_listPrefixes_9 ?_
      refine gn_ge X.1.1 X.1.2.1 i n (by omega) (by omega) d_Automaton_listPrefixes_12 rfl (fun hc12 => ?_) (fun hc12 => ?_)
      · have e9 : i = n := by omega
        subst e9
        exact g_vret X B ⟨rfl, ho, ⟨F, T, L, G, hF, hT, hL0, hG, hE0⟩, zz, fr⟩ hL d_Automaton_listPrefixes_76 (by omega) (by omega)
      · refine lv_iload_n X.1.1 X.1.2.1 d_Automaton_listPrefixes_15 rfl (gl_at hl rfl) ?_
        refine gn_ne0 X.1.1 X.1.2.1 i (by omega) d_Automaton_listPrefixes_16 rfl (fun hc16 => ?_) (fun hc16 => ?_)
        · refine lv_aload_n X.1.1 X.1.2.1 d_Automaton_listPrefixes_23 rfl (gl_at hl rfl) ?_
          refine g_get X kc_Automaton ho 0 (by decide) lk_Automaton_11 rfl d_Automaton_listPrefixes_24 ?_
          refine lv_iload_n X.1.1 X.1.2.1 d_Automaton_listPrefixes_27 rfl (gl_at hl rfl) ?_
          refine g_aald X 3 hkf rfl i (by omega) (by decide) (v := .ref (ab + 2 + 2 * i)) (by rw [hkg _ (by omega)]; rfl) d_Automaton_listPrefixes_28 ?_
          refine lv_aload_n X.1.1 X.1.2.1 d_Automaton_listPrefixes_29 rfl (gl_at hl rfl) ?_
          refine g_get X kc_Automaton ho 0 (by decide) lk_Automaton_11 rfl d_Automaton_listPrefixes_30 ?_
          refine lv_iload_n X.1.1 X.1.2.1 d_Automaton_listPrefixes_33 rfl (gl_at hl rfl) ?_
          refine lv_iconst (v := nI 1) X.1.1 X.1.2.1 d_Automaton_listPrefixes_34 (by decide) ?_
          refine lv_isub X.1.1 X.1.2.1 d_Automaton_listPrefixes_35 ?_
          refine g_top (nI (i - 1)) (pk_sub (by omega)) ?_
          refine g_aald X 3 hkf rfl (i - 1) (by omega) (by decide) (v := .ref (ab + 2 + 2 * (i - 1))) (by rw [hkg _ (by omega)]; rfl) d_Automaton_listPrefixes_36 ?_
          have i1 := t_lcp_le1 (ks i) (ks (i - 1))
          refine g_cv (A := (fun p => p = ab ∨ (ab + 130 ≤ p ∧ p ≤ ab + 133))) X gWS_good mw_Automaton_66 kc_Key (hks i (by omega)).1 (c_Key_shared l D q Hn (ab + 2 + 2 * i) (ab + 2 + 2 * (i - 1)) (ks i) (ks (i - 1)) (hks i (by omega)) (hks (i - 1) (by omega))) (fun _ _ _ => trivial) gBlind.tt rfl rfl hl.1 (Nat.le_of_ble_eq_true rfl) rfl rfl ⟨by decide, by decide⟩ ⟨by decide, by decide⟩ d_Automaton_listPrefixes_37 (fun _ h => h.elim) hL (fun v5 H6 locs hp7 hL => ?_)
          obtain ⟨rfl, hHe⟩ := hp7
          rw [hHe]
          refine lv_iconst (v := nI 1) X.1.1 X.1.2.1 d_Automaton_listPrefixes_40 (by decide) ?_
          refine lv_iadd X.1.1 X.1.2.1 d_Automaton_listPrefixes_41 ?_
          refine g_top (nI ((t_lcp (ks i) (ks (i - 1))) + 1)) (nI_add _ _) ?_
          refine g_top (nI (a_sh ks i)) (by unfold a_sh; first | rw [if_pos hc16] | rw [if_neg hc16]) ?_
          refine g_istn X.1.1 X.1.2.1 hl 2 d_Automaton_listPrefixes_42 rfl (Nat.le_of_ble_eq_true rfl) rfl (fun ls hl => ?_)
          refine lv_iload_n X.1.1 X.1.2.1 d_Automaton_listPrefixes_43 rfl (gl_at hl rfl) ?_
          refine g_istn X.1.1 X.1.2.1 hl 3 d_Automaton_listPrefixes_44 rfl (Nat.le_of_ble_eq_true rfl) rfl (fun ls hl => ?_)
          have loop45 : ∀ (fu : Nat) (len : Nat) (Hn : Heap) (locs : List Loc) (ls : Array Slot), (ks i).length + 1 - len < fu → (a_sh ks i ≤ len) → (len ≤ (ks i).length + 1 ∨ len = a_sh ks i) → (va_at D CL (ab, .inr (5, [.ref (ab + 1), .int (nI n), .ref (ab + 130), .ref (ab + 131), .ref (ab + 132), .ref (ab + 133), .int (nI (a_es ks i len).length), .ref (ab + 134), .int (nI S), .int (nI sp), .int (nI fi)])) Hn) → ((∃ F1 T1 L1 G1 : Nat → Int32, va_at D CL (ab + 130, .inl (q 0, 513, .inl F1)) Hn ∧ va_at D CL (ab + 131, .inl (q 0, 513, .inl T1)) Hn ∧ va_at D CL (ab + 132, .inl (q 0, 513, .inl L1)) Hn ∧ va_at D CL (ab + 133, .inl (q 0, 513, .inl G1)) Hn ∧ aE ks n (a_es ks i len) F1 T1 L1 G1)) → (∀ p : Nat, ¬ (p = ab ∨ (ab + 130 ≤ p ∧ p ≤ ab + 133)) → Hn[p]? = H[p]?) → (Hn.size = H.size) → (∀ x ∈ locs, (fun p => p = ab ∨ (ab + 130 ≤ p ∧ p ≤ ab + 133)) x.base) → gl ls [some (.ref ab), some (.int (nI i)), some (.int (nI (a_sh ks i))), some (.int (nI len))] → W p l e (gR 2 46 0 0) s m ([.ref ab] : List Value).toArray below meth c Hn locs 0 0 (gQ below ([.ref ab] : List Value).toArray s (fun v H1 => v = none ∧ va_at D CL (ab, .inr (5, [.ref (ab + 1), .int (nI n), .ref (ab + 130), .ref (ab + 131), .ref (ab + 132), .ref (ab + 133), .int (nI (a_pre ks n).length), .ref (ab + 134), .int (nI S), .int (nI sp), .int (nI fi)])) H1 ∧ (∃ F1 T1 L1 G1 : Nat → Int32, va_at D CL (ab + 130, .inl (q 0, 513, .inl F1)) H1 ∧ va_at D CL (ab + 131, .inl (q 0, 513, .inl T1)) H1 ∧ va_at D CL (ab + 132, .inl (q 0, 513, .inl L1)) H1 ∧ va_at D CL (ab + 133, .inl (q 0, 513, .inl G1)) H1 ∧ aE ks n (a_pre ks n) F1 T1 L1 G1) ∧ H1.size = H.size ∧ ∀ p : Nat, ¬ (p = ab ∨ (ab + 130 ≤ p ∧ p ≤ ab + 133)) → H1[p]? = H[p]?) 0 0 (fun p => p = ab ∨ (ab + 130 ≤ p ∧ p ≤ ab + 133))) (F0 m 45 ls []) := by
            intro fu
            induction fu with
            | zero => intro len Hn locs ls hmu; omega
            | succ fu ih45 =>
              intro len Hn locs ls hmu45 hi45_0 hi45_1 ho hX fr zz hL hl
              obtain ⟨F, T, L, G, hF, hT, hL0, hG, hE0⟩ := hX
              have hk := hkA.kept (fun p h1 h2 => fr p (by omega))
              have hk0 := hk
              obtain ⟨⟨kf, hkf, hkg⟩, hks⟩ := hk
              have hk := hk0
              have hs8 := hs9 i (by omega)
              have hx8 := hk8 i (by omega)
              refine lv_iload_n X.1.1 X.1.2.1 d_Automaton_listPrefixes_45 rfl (gl_at hl rfl) ?_
              refine lv_aload_n X.1.1 X.1.2.1 d_Automaton_listPrefixes_46 rfl (gl_at hl rfl) ?_
              refine g_get X kc_Automaton ho 0 (by decide) lk_Automaton_11 rfl d_Automaton_listPrefixes_47 ?_
              refine lv_iload_n X.1.1 X.1.2.1 d_Automaton_listPrefixes_50 rfl (gl_at hl rfl) ?_
              refine g_aald X 3 hkf rfl i (by omega) (by decide) (v := .ref (ab + 2 + 2 * i)) (by rw [hkg _ (by omega)]; rfl) d_Automaton_listPrefixes_51 ?_
              obtain ⟨hki, hli, hxl, hxc⟩ := hks i (by omega)
              refine g_get X kc_Key hki 1 (by decide) lk_Automaton_70 rfl d_Automaton_listPrefixes_52 ?_
              refine gn_gt X.1.1 X.1.2.1 len ((ks i).length) (by omega) (by omega) d_Automaton_listPrefixes_55 rfl (fun hc55 => ?_) (fun hc55 => ?_)
              · refine g_iinc X.1.1 X.1.2.1 (nI (i + 1)) hl 1 d_Automaton_listPrefixes_70 rfl (nI_1 _) rfl (fun ls hl => ?_)
                refine lv_goto X.1.1 X.1.2.1 d_Automaton_listPrefixes_73 rfl ?_
                exact ih7 (i + 1) Hn locs ls (by omega) (by omega) (by rw [← a_es_end hc55 hi45_1]; exact ho) (by rw [← a_es_end hc55 hi45_1]; exact ⟨F, T, L, G, hF, hT, hL0, hG, hE0⟩) fr zz hL (gl_forget (gl_forget hl 2) 3)
              · refine lv_aload_n X.1.1 X.1.2.1 d_Automaton_listPrefixes_58 rfl (gl_at hl rfl) ?_
                refine lv_iload_n X.1.1 X.1.2.1 d_Automaton_listPrefixes_59 rfl (gl_at hl rfl) ?_
                refine lv_iload_n X.1.1 X.1.2.1 d_Automaton_listPrefixes_60 rfl (gl_at hl rfl) ?_
                refine g_cv (A := (fun p => p = ab ∨ (ab + 130 ≤ p ∧ p ≤ ab + 133))) X gWS_good mw_Automaton_73 kc_Automaton ho (c_Automaton_addPrefix l D q Hn ab n (a_es ks i len) S sp fi ks ho hk hn F T L G hF hT hL0 hG hE0 (a_es_len hk8 hn (by omega) hi45_0 (by omega)) i len (by omega) (by omega)) (fun _ _ _ => trivial) gBlind.tt rfl rfl hl.1 (Nat.le_of_ble_eq_true rfl) rfl rfl ⟨by decide, by decide⟩ ⟨by decide, by decide⟩ d_Automaton_listPrefixes_61 (fun p h => h) hL (fun v8 H9 locs hp10 hL => ?_)
                obtain ⟨rfl, ho2, hX2, hz2, fr2⟩ := hp10
                rw [a_es_s hi45_0] at ho2 hX2
                refine g_iinc X.1.1 X.1.2.1 (nI (len + 1)) hl 3 d_Automaton_listPrefixes_64 rfl (nI_1 _) rfl (fun ls hl => ?_)
                refine lv_goto X.1.1 X.1.2.1 d_Automaton_listPrefixes_67 rfl ?_
                exact ih45 (len + 1) H9 locs ls (by omega) (by omega) (by omega) ho2 hX2 (fun p hp => (fr2 p hp).trans (fr p hp)) (hz2.trans zz) hL hl
          exact loop45 _ (a_sh ks i) Hn locs ls (Nat.lt_succ_self _) (Nat.le_refl _) (Or.inr rfl) (by rw [a_es_0]; exact ho) (by rw [a_es_0]; exact ⟨F, T, L, G, hF, hT, hL0, hG, hE0⟩) fr zz hL hl
        · refine lv_iconst (v := nI 0) X.1.1 X.1.2.1 d_Automaton_listPrefixes_19 (by decide) ?_
          refine lv_goto X.1.1 X.1.2.1 d_Automaton_listPrefixes_20 rfl ?_
          refine g_top (nI (a_sh ks i)) (by unfold a_sh; first | rw [if_pos hc16] | rw [if_neg hc16]) ?_
          refine g_istn X.1.1 X.1.2.1 hl 2 d_Automaton_listPrefixes_42 rfl (Nat.le_of_ble_eq_true rfl) rfl (fun ls hl => ?_)
          refine lv_iload_n X.1.1 X.1.2.1 d_Automaton_listPrefixes_43 rfl (gl_at hl rfl) ?_
          refine g_istn X.1.1 X.1.2.1 hl 3 d_Automaton_listPrefixes_44 rfl (Nat.le_of_ble_eq_true rfl) rfl (fun ls hl => ?_)
          have loop45 : ∀ (fu : Nat) (len : Nat) (Hn : Heap) (locs : List Loc) (ls : Array Slot), (ks i).length + 1 - len < fu → (a_sh ks i ≤ len) → (len ≤ (ks i).length + 1 ∨ len = a_sh ks i) → (va_at D CL (ab, .inr (5, [.ref (ab + 1), .int (nI n), .ref (ab + 130), .ref (ab + 131), .ref (ab + 132), .ref (ab + 133), .int (nI (a_es ks i len).length), .ref (ab + 134), .int (nI S), .int (nI sp), .int (nI fi)])) Hn) → ((∃ F1 T1 L1 G1 : Nat → Int32, va_at D CL (ab + 130, .inl (q 0, 513, .inl F1)) Hn ∧ va_at D CL (ab + 131, .inl (q 0, 513, .inl T1)) Hn ∧ va_at D CL (ab + 132, .inl (q 0, 513, .inl L1)) Hn ∧ va_at D CL (ab + 133, .inl (q 0, 513, .inl G1)) Hn ∧ aE ks n (a_es ks i len) F1 T1 L1 G1)) → (∀ p : Nat, ¬ (p = ab ∨ (ab + 130 ≤ p ∧ p ≤ ab + 133)) → Hn[p]? = H[p]?) → (Hn.size = H.size) → (∀ x ∈ locs, (fun p => p = ab ∨ (ab + 130 ≤ p ∧ p ≤ ab + 133)) x.base) → gl ls [some (.ref ab), some (.int (nI i)), some (.int (nI (a_sh ks i))), some (.int (nI len))] → W p l e (gR 2 46 0 0) s m ([.ref ab] : List Value).toArray below meth c Hn locs 0 0 (gQ below ([.ref ab] : List Value).toArray s (fun v H1 => v = none ∧ va_at D CL (ab, .inr (5, [.ref (ab + 1), .int (nI n), .ref (ab + 130), .ref (ab + 131), .ref (ab + 132), .ref (ab + 133), .int (nI (a_pre ks n).length), .ref (ab + 134), .int (nI S), .int (nI sp), .int (nI fi)])) H1 ∧ (∃ F1 T1 L1 G1 : Nat → Int32, va_at D CL (ab + 130, .inl (q 0, 513, .inl F1)) H1 ∧ va_at D CL (ab + 131, .inl (q 0, 513, .inl T1)) H1 ∧ va_at D CL (ab + 132, .inl (q 0, 513, .inl L1)) H1 ∧ va_at D CL (ab + 133, .inl (q 0, 513, .inl G1)) H1 ∧ aE ks n (a_pre ks n) F1 T1 L1 G1) ∧ H1.size = H.size ∧ ∀ p : Nat, ¬ (p = ab ∨ (ab + 130 ≤ p ∧ p ≤ ab + 133)) → H1[p]? = H[p]?) 0 0 (fun p => p = ab ∨ (ab + 130 ≤ p ∧ p ≤ ab + 133))) (F0 m 45 ls []) := by
            intro fu
            induction fu with
            | zero => intro len Hn locs ls hmu; omega
            | succ fu ih45 =>
              intro len Hn locs ls hmu45 hi45_0 hi45_1 ho hX fr zz hL hl
              obtain ⟨F, T, L, G, hF, hT, hL0, hG, hE0⟩ := hX
              have hk := hkA.kept (fun p h1 h2 => fr p (by omega))
              have hk0 := hk
              obtain ⟨⟨kf, hkf, hkg⟩, hks⟩ := hk
              have hk := hk0
              have hs8 := hs9 i (by omega)
              have hx8 := hk8 i (by omega)
              refine lv_iload_n X.1.1 X.1.2.1 d_Automaton_listPrefixes_45 rfl (gl_at hl rfl) ?_
              refine lv_aload_n X.1.1 X.1.2.1 d_Automaton_listPrefixes_46 rfl (gl_at hl rfl) ?_
              refine g_get X kc_Automaton ho 0 (by decide) lk_Automaton_11 rfl d_Automaton_listPrefixes_47 ?_
              refine lv_iload_n X.1.1 X.1.2.1 d_Automaton_listPrefixes_50 rfl (gl_at hl rfl) ?_
              refine g_aald X 3 hkf rfl i (by omega) (by decide) (v := .ref (ab + 2 + 2 * i)) (by rw [hkg _ (by omega)]; rfl) d_Automaton_listPrefixes_51 ?_
              obtain ⟨hki, hli, hxl, hxc⟩ := hks i (by omega)
              refine g_get X kc_Key hki 1 (by decide) lk_Automaton_70 rfl d_Automaton_listPrefixes_52 ?_
              refine gn_gt X.1.1 X.1.2.1 len ((ks i).length) (by omega) (by omega) d_Automaton_listPrefixes_55 rfl (fun hc55 => ?_) (fun hc55 => ?_)
              · refine g_iinc X.1.1 X.1.2.1 (nI (i + 1)) hl 1 d_Automaton_listPrefixes_70 rfl (nI_1 _) rfl (fun ls hl => ?_)
                refine lv_goto X.1.1 X.1.2.1 d_Automaton_listPrefixes_73 rfl ?_
                exact ih7 (i + 1) Hn locs ls (by omega) (by omega) (by rw [← a_es_end hc55 hi45_1]; exact ho) (by rw [← a_es_end hc55 hi45_1]; exact ⟨F, T, L, G, hF, hT, hL0, hG, hE0⟩) fr zz hL (gl_forget (gl_forget hl 2) 3)
              · refine lv_aload_n X.1.1 X.1.2.1 d_Automaton_listPrefixes_58 rfl (gl_at hl rfl) ?_
                refine lv_iload_n X.1.1 X.1.2.1 d_Automaton_listPrefixes_59 rfl (gl_at hl rfl) ?_
                refine lv_iload_n X.1.1 X.1.2.1 d_Automaton_listPrefixes_60 rfl (gl_at hl rfl) ?_
                refine g_cv (A := (fun p => p = ab ∨ (ab + 130 ≤ p ∧ p ≤ ab + 133))) X gWS_good mw_Automaton_73 kc_Automaton ho (c_Automaton_addPrefix l D q Hn ab n (a_es ks i len) S sp fi ks ho hk hn F T L G hF hT hL0 hG hE0 (a_es_len hk8 hn (by omega) hi45_0 (by omega)) i len (by omega) (by omega)) (fun _ _ _ => trivial) gBlind.tt rfl rfl hl.1 (Nat.le_of_ble_eq_true rfl) rfl rfl ⟨by decide, by decide⟩ ⟨by decide, by decide⟩ d_Automaton_listPrefixes_61 (fun p h => h) hL (fun v11 H12 locs hp13 hL => ?_)
                obtain ⟨rfl, ho2, hX2, hz2, fr2⟩ := hp13
                rw [a_es_s hi45_0] at ho2 hX2
                refine g_iinc X.1.1 X.1.2.1 (nI (len + 1)) hl 3 d_Automaton_listPrefixes_64 rfl (nI_1 _) rfl (fun ls hl => ?_)
                refine lv_goto X.1.1 X.1.2.1 d_Automaton_listPrefixes_67 rfl ?_
                exact ih45 (len + 1) H12 locs ls (by omega) (by omega) (by omega) ho2 hX2 (fun p hp => (fr2 p hp).trans (fr p hp)) (hz2.trans zz) hL hl
          exact loop45 _ (a_sh ks i) Hn locs ls (Nat.lt_succ_self _) (Nat.le_refl _) (Or.inr rfl) (by rw [a_es_0]; exact ho) (by rw [a_es_0]; exact ⟨F, T, L, G, hF, hT, hL0, hG, hE0⟩) fr zz hL hl
  exact loop7 _ 0 H1 locs ls (Nat.lt_succ_self _) (Nat.zero_le _) h2 ⟨F, T, L, G, hF, hT, hL0, hG, fun x hx => absurd hx (Nat.not_lt_zero x)⟩ (fun p hp => (oq4 p (by omega))) z3 hL hl

set_option maxHeartbeats 4000000 in
set_option maxRecDepth 100000 in
theorem c_Automaton_countStates (l : Launch) (D : va_G) (q : Nat → ClassId) (H : Heap) (ab n : Nat) (es : List (Nat × Nat)) (S sp fi : Nat) (ks : Nat → List Nat) (ho : va_at D CL (ab, .inr (5, [.ref (ab + 1), .int (nI n), .ref (ab + 130), .ref (ab + 131), .ref (ab + 132), .ref (ab + 133), .int (nI es.length), .ref (ab + 134), .int (nI S), .int (nI sp), .int (nI fi)])) H) (hk : aK D q H ab ks) (hn : n ≤ 64) (F T L G U : Nat → Int32) (hF : va_at D CL (ab + 130, .inl (q 0, 513, .inl F)) H) (hT : va_at D CL (ab + 131, .inl (q 0, 513, .inl T)) H) (hL0 : va_at D CL (ab + 132, .inl (q 0, 513, .inl L)) H) (hG : va_at D CL (ab + 133, .inl (q 0, 513, .inl G)) H) (hU : va_at D CL (ab + 134, .inl (q 0, 513, .inl U)) H) (hE0 : aE ks n es F T L G) (hok : a_ok ks n es) (hes : es.length ≤ 513) : gC l y_Automaton_countStates (Cond.code y_Automaton_countStates b_Automaton_countStates 4 none :: gWS) (gR 3 73 0 0) D CL (gY q) (fun _ => True) [.ref ab] H (fun v H1 => v = none ∧ (∃ us : List Nat, va_at D CL (ab, .inr (5, [.ref (ab + 1), .int (nI n), .ref (ab + 130), .ref (ab + 131), .ref (ab + 132), .ref (ab + 133), .int (nI es.length), .ref (ab + 134), .int (nI us.length), .int (nI (a_sum (a_stp ks n es) us)), .int (nI (a_sum (a_fnl ks es) us))])) H1 ∧ a_fin ks n es us) ∧ (∃ U1 : Nat → Int32, va_at D CL (ab + 134, .inl (q 0, 513, .inl U1)) H1) ∧ H1.size = H.size ∧ ∀ p : Nat, ¬ (p = ab ∨ p = ab + 134) → H1[p]? = H[p]?) 0 0 (fun p => p = ab ∨ p = ab + 134) := by
  refine gC.ofW R_Automaton "countStates" (by decide) rfl rfl ?_
  intro p e s m below meth c hadm X hE hH B hne
  refine g_entry [some (.ref ab), none, none, none] rfl rfl (Nat.le_of_ble_eq_true rfl) (fun ls hl => ?_)
  have hkA := hk
  have hFA := hF
  have hTA := hT
  have hL0A := hL0
  have hGA := hG
  have hk0 := hk
  obtain ⟨⟨kf, hkf, hkg⟩, hks⟩ := hk
  have hk := hk0
  have hk8 : ∀ j, j < n → (ks j).length ≤ 8 := fun j hj => (hks j (by omega)).2.2.1
  refine lv_aload_n X.1.1 X.1.2.1 d_Automaton_countStates_0 rfl (gl_at hl rfl) ?_
  refine lv_iconst (v := nI 0) X.1.1 X.1.2.1 d_Automaton_countStates_1 (by decide) ?_
  refine g_put (A := (fun p => p = ab ∨ p = ab + 134)) X kc_Automaton ho 8 (by decide) lk_Automaton_83 rfl rfl rfl (Nat.le_of_ble_eq_true rfl) d_Automaton_countStates_2 (show _ ∨ _ by omega) (fun _ h => by cases h) (fun H1 locs h2 z3 oq4 hL => ?_)
  replace hkf := hkf.kept (oq4 _ (by omega))
  replace hF := hF.kept (oq4 _ (by omega))
  replace hT := hT.kept (oq4 _ (by omega))
  replace hL0 := hL0.kept (oq4 _ (by omega))
  replace hG := hG.kept (oq4 _ (by omega))
  replace hU := hU.kept (oq4 _ (by omega))
  refine lv_aload_n X.1.1 X.1.2.1 d_Automaton_countStates_5 rfl (gl_at hl rfl) ?_
  refine lv_iconst (v := nI 0) X.1.1 X.1.2.1 d_Automaton_countStates_6 (by decide) ?_
  refine g_put (A := (fun p => p = ab ∨ p = ab + 134)) X kc_Automaton h2 9 (by decide) lk_Automaton_86 rfl rfl rfl (Nat.le_of_ble_eq_true rfl) d_Automaton_countStates_7 (show _ ∨ _ by omega) hL (fun H5 locs h6 z7 oq8 hL => ?_)
  replace hkf := hkf.kept (oq8 _ (by omega))
  replace hF := hF.kept (oq8 _ (by omega))
  replace hT := hT.kept (oq8 _ (by omega))
  replace hL0 := hL0.kept (oq8 _ (by omega))
  replace hG := hG.kept (oq8 _ (by omega))
  replace hU := hU.kept (oq8 _ (by omega))
  refine lv_aload_n X.1.1 X.1.2.1 d_Automaton_countStates_10 rfl (gl_at hl rfl) ?_
  refine lv_iconst (v := nI 0) X.1.1 X.1.2.1 d_Automaton_countStates_11 (by decide) ?_
  refine g_put (A := (fun p => p = ab ∨ p = ab + 134)) X kc_Automaton h6 10 (by decide) lk_Automaton_89 rfl rfl rfl (Nat.le_of_ble_eq_true rfl) d_Automaton_countStates_12 (show _ ∨ _ by omega) hL (fun H9 locs h10 z11 oq12 hL => ?_)
  replace hkf := hkf.kept (oq12 _ (by omega))
  replace hF := hF.kept (oq12 _ (by omega))
  replace hT := hT.kept (oq12 _ (by omega))
  replace hL0 := hL0.kept (oq12 _ (by omega))
  replace hG := hG.kept (oq12 _ (by omega))
  replace hU := hU.kept (oq12 _ (by omega))
  refine lv_iconst (v := nI 0) X.1.1 X.1.2.1 d_Automaton_countStates_15 (by decide) ?_
  refine g_istn X.1.1 X.1.2.1 hl 1 d_Automaton_countStates_16 rfl (Nat.le_of_ble_eq_true rfl) rfl (fun ls hl => ?_)
  have loop17 : ∀ (fu : Nat) (h : Nat) (us : List Nat) (Hn : Heap) (locs : List Loc) (ls : Array Slot), 9 - h < fu → (h ≤ 9) → (a_stI ks n es h 0 us) → (va_at D CL (ab, .inr (5, [.ref (ab + 1), .int (nI n), .ref (ab + 130), .ref (ab + 131), .ref (ab + 132), .ref (ab + 133), .int (nI es.length), .ref (ab + 134), .int (nI us.length), .int (nI (a_sum (a_stp ks n es) us)), .int (nI (a_sum (a_fnl ks es) us))])) Hn) → ((∃ U1 : Nat → Int32, va_at D CL (ab + 134, .inl (q 0, 513, .inl U1)) Hn ∧ ∀ t, t < us.length → U1 t = nI (us.getD t 0))) → (∀ p : Nat, ¬ (p = ab ∨ p = ab + 134) → Hn[p]? = H[p]?) → (Hn.size = H.size) → (∀ x ∈ locs, (fun p => p = ab ∨ p = ab + 134) x.base) → gl ls [some (.ref ab), some (.int (nI h)), none, none] → W p l e (gR 3 73 0 0) s m ([.ref ab] : List Value).toArray below meth c Hn locs 0 0 (gQ below ([.ref ab] : List Value).toArray s (fun v H1 => v = none ∧ (∃ us : List Nat, va_at D CL (ab, .inr (5, [.ref (ab + 1), .int (nI n), .ref (ab + 130), .ref (ab + 131), .ref (ab + 132), .ref (ab + 133), .int (nI es.length), .ref (ab + 134), .int (nI us.length), .int (nI (a_sum (a_stp ks n es) us)), .int (nI (a_sum (a_fnl ks es) us))])) H1 ∧ a_fin ks n es us) ∧ (∃ U1 : Nat → Int32, va_at D CL (ab + 134, .inl (q 0, 513, .inl U1)) H1) ∧ H1.size = H.size ∧ ∀ p : Nat, ¬ (p = ab ∨ p = ab + 134) → H1[p]? = H[p]?) 0 0 (fun p => p = ab ∨ p = ab + 134)) (F0 m 17 ls []) := by
    intro fu
    induction fu with
    | zero => intro h us Hn locs ls hmu; omega
    | succ fu ih17 =>
      intro h us Hn locs ls hmu17 hi17_0 hi17_1 ho hUX fr zz hL hl
      obtain ⟨U, hU, hus⟩ := hUX
      have hk := hkA.kept (fun p h1 h2 => fr p (by omega))
      have hF := va_at.kept hFA (fr _ (by omega))
      have hT := va_at.kept hTA (fr _ (by omega))
      have hL0 := va_at.kept hL0A (fr _ (by omega))
      have hG := va_at.kept hGA (fr _ (by omega))
      have hk0 := hk
      obtain ⟨⟨kf, hkf, hkg⟩, hks⟩ := hk
      have hk := hk0
      refine lv_iload_n X.1.1 X.1.2.1 d_Automaton_countStates_17 rfl (gl_at hl rfl) ?_
      refine lv_bipush (v := nI 8) X.1.1 X.1.2.1 d_Automaton_countStates_18 (by decide) ?_
      refine gn_gt X.1.1 X.1.2.1 h 8 (by omega) (by omega) d_Automaton_countStates_20 rfl (fun hc20 => ?_) (fun hc20 => ?_)
      · have e9 : h = 9 := by omega
        rw [e9] at hi17_1
        exact g_vret X B ⟨rfl, ⟨us, ho, hi17_1.fin hk8 hok⟩, ⟨U, hU⟩, zz, fr⟩ hL d_Automaton_countStates_74 (by omega) (by omega)
      · refine lv_aload_n X.1.1 X.1.2.1 d_Automaton_countStates_23 rfl (gl_at hl rfl) ?_
        refine g_get X kc_Automaton ho 8 (by decide) lk_Automaton_83 rfl d_Automaton_countStates_24 ?_
        obtain ⟨f0, hf0⟩ : ∃ z, z = us.length := ⟨_, rfl⟩
        refine g_top (nI f0) (by rw [hf0]) ?_
        refine g_istn X.1.1 X.1.2.1 hl 2 d_Automaton_countStates_27 rfl (Nat.le_of_ble_eq_true rfl) rfl (fun ls hl => ?_)
        refine lv_iconst (v := nI 0) X.1.1 X.1.2.1 d_Automaton_countStates_28 (by decide) ?_
        refine g_istn X.1.1 X.1.2.1 hl 3 d_Automaton_countStates_29 rfl (Nat.le_of_ble_eq_true rfl) rfl (fun ls hl => ?_)
        have loop30 : ∀ (fu : Nat) (x : Nat) (us : List Nat) (Hn : Heap) (locs : List Loc) (ls : Array Slot), es.length - x < fu → (x ≤ es.length) → (a_stI ks n es h x us) → (a_lo ks n es h f0 us) → (va_at D CL (ab, .inr (5, [.ref (ab + 1), .int (nI n), .ref (ab + 130), .ref (ab + 131), .ref (ab + 132), .ref (ab + 133), .int (nI es.length), .ref (ab + 134), .int (nI us.length), .int (nI (a_sum (a_stp ks n es) us)), .int (nI (a_sum (a_fnl ks es) us))])) Hn) → ((∃ U1 : Nat → Int32, va_at D CL (ab + 134, .inl (q 0, 513, .inl U1)) Hn ∧ ∀ t, t < us.length → U1 t = nI (us.getD t 0))) → (∀ p : Nat, ¬ (p = ab ∨ p = ab + 134) → Hn[p]? = H[p]?) → (Hn.size = H.size) → (∀ x ∈ locs, (fun p => p = ab ∨ p = ab + 134) x.base) → gl ls [some (.ref ab), some (.int (nI h)), some (.int (nI f0)), some (.int (nI x))] → W p l e (gR 3 73 0 0) s m ([.ref ab] : List Value).toArray below meth c Hn locs 0 0 (gQ below ([.ref ab] : List Value).toArray s (fun v H1 => v = none ∧ (∃ us : List Nat, va_at D CL (ab, .inr (5, [.ref (ab + 1), .int (nI n), .ref (ab + 130), .ref (ab + 131), .ref (ab + 132), .ref (ab + 133), .int (nI es.length), .ref (ab + 134), .int (nI us.length), .int (nI (a_sum (a_stp ks n es) us)), .int (nI (a_sum (a_fnl ks es) us))])) H1 ∧ a_fin ks n es us) ∧ (∃ U1 : Nat → Int32, va_at D CL (ab + 134, .inl (q 0, 513, .inl U1)) H1) ∧ H1.size = H.size ∧ ∀ p : Nat, ¬ (p = ab ∨ p = ab + 134) → H1[p]? = H[p]?) 0 0 (fun p => p = ab ∨ p = ab + 134)) (F0 m 30 ls []) := by
          intro fu
          induction fu with
          | zero => intro x us Hn locs ls hmu; omega
          | succ fu ih30 =>
            intro x us Hn locs ls hmu30 hi30_0 hi30_1 hi30_2 ho hUX fr zz hL hl
            obtain ⟨U, hU, hus⟩ := hUX
            have hk := hkA.kept (fun p h1 h2 => fr p (by omega))
            have hF := va_at.kept hFA (fr _ (by omega))
            have hT := va_at.kept hTA (fr _ (by omega))
            have hL0 := va_at.kept hL0A (fr _ (by omega))
            have hG := va_at.kept hGA (fr _ (by omega))
            have hk0 := hk
            obtain ⟨⟨kf, hkf, hkg⟩, hks⟩ := hk
            have hk := hk0
            refine lv_iload_n X.1.1 X.1.2.1 d_Automaton_countStates_30 rfl (gl_at hl rfl) ?_
            refine lv_aload_n X.1.1 X.1.2.1 d_Automaton_countStates_31 rfl (gl_at hl rfl) ?_
            refine g_get X kc_Automaton ho 6 (by decide) lk_Automaton_63 rfl d_Automaton_countStates_32 ?_
            refine gn_ge X.1.1 X.1.2.1 x es.length (by omega) (by omega) d_Automaton_countStates_35 rfl (fun hc35 => ?_) (fun hc35 => ?_)
            · have e8 : x = es.length := by omega
              refine g_iinc X.1.1 X.1.2.1 (nI (h + 1)) hl 1 d_Automaton_countStates_68 rfl (nI_1 _) rfl (fun ls hl => ?_)
              refine lv_goto X.1.1 X.1.2.1 d_Automaton_countStates_71 rfl ?_
              exact ih17 (h + 1) us Hn locs ls (by omega) (by omega) (a_stI.next (by rw [← e8]; exact hi30_1)) ho ⟨U, hU, hus⟩ fr zz hL (gl_forget (gl_forget hl 2) 3)
            · refine lv_aload_n X.1.1 X.1.2.1 d_Automaton_countStates_38 rfl (gl_at hl rfl) ?_
              refine g_get X kc_Automaton ho 5 (by decide) lk_Automaton_28 rfl d_Automaton_countStates_39 ?_
              refine lv_iload_n X.1.1 X.1.2.1 d_Automaton_countStates_42 rfl (gl_at hl rfl) ?_
              refine g_iald X 0 hG rfl x (by omega) (by decide) d_Automaton_countStates_43 ?_
              have hh8 := a_h_le hk8 hok (y := x) (by omega)
              refine g_top (nI (a_h ks n es x)) (hE0 x (by omega)).2.2.2 ?_
              refine lv_iload_n X.1.1 X.1.2.1 d_Automaton_countStates_44 rfl (gl_at hl rfl) ?_
              refine gn_ne X.1.1 X.1.2.1 (a_h ks n es x) h (by omega) (by omega) d_Automaton_countStates_45 rfl (fun hc45 => ?_) (fun hc45 => ?_)
              · refine g_iinc X.1.1 X.1.2.1 (nI (x + 1)) hl 3 d_Automaton_countStates_62 rfl (nI_1 _) rfl (fun ls hl => ?_)
                refine lv_goto X.1.1 X.1.2.1 d_Automaton_countStates_65 rfl ?_
                exact ih30 (x + 1) us Hn locs ls (by omega) (by omega) (by first | exact hi30_1.skip hc45 | exact hi30_1.known hi30_2 hc45 hc54 | exact hi30_1.add hi30_2 (by omega) hc45 hc54) hi30_2 ho ⟨U, hU, hus⟩ fr zz hL hl
              · refine lv_aload_n X.1.1 X.1.2.1 d_Automaton_countStates_48 rfl (gl_at hl rfl) ?_
                refine lv_iload_n X.1.1 X.1.2.1 d_Automaton_countStates_49 rfl (gl_at hl rfl) ?_
                refine lv_iload_n X.1.1 X.1.2.1 d_Automaton_countStates_50 rfl (gl_at hl rfl) ?_
                have hul := Nat.le_of_lt (hi30_1.lt (by omega) hc45)
                refine g_cv (A := (fun p => p = ab ∨ p = ab + 134)) X gWS_good mw_Automaton_92 kc_Automaton ho (c_Automaton_isKnown l D q Hn ab n es us _ _ ks ho hk hn F T L G U hF hT hL0 hG hU hE0 hok hes (by omega) (fun t ht => ⟨hus t ht, (hi30_1.2.1 _ (a_mem ht)).1⟩) x f0 (by omega) hi30_2.1) (fun _ _ _ => trivial) gBlind.tt rfl rfl hl.1 (Nat.le_of_ble_eq_true rfl) rfl rfl ⟨by decide, by decide⟩ ⟨by decide, by decide⟩ d_Automaton_countStates_51 (fun _ h => h.elim) hL (fun v13 H14 locs hp15 hL => ?_)
                obtain ⟨rfl, hHe⟩ := hp15
                rw [hHe]
                refine lv_if_ne X.1.1 X.1.2.1 d_Automaton_countStates_54 rfl (fun hc54 => ?_) (fun hc54 => ?_)
                · replace hc54 := gz_t hc54
                  refine g_iinc X.1.1 X.1.2.1 (nI (x + 1)) hl 3 d_Automaton_countStates_62 rfl (nI_1 _) rfl (fun ls hl => ?_)
                  refine lv_goto X.1.1 X.1.2.1 d_Automaton_countStates_65 rfl ?_
                  exact ih30 (x + 1) us Hn locs ls (by omega) (by omega) (by first | exact hi30_1.skip hc45 | exact hi30_1.known hi30_2 hc45 hc54 | exact hi30_1.add hi30_2 (by omega) hc45 hc54) hi30_2 ho ⟨U, hU, hus⟩ fr zz hL hl
                · replace hc54 := gz_f hc54
                  refine lv_aload_n X.1.1 X.1.2.1 d_Automaton_countStates_57 rfl (gl_at hl rfl) ?_
                  refine lv_iload_n X.1.1 X.1.2.1 d_Automaton_countStates_58 rfl (gl_at hl rfl) ?_
                  have hus9 := hi30_1.lt (by omega) hc45
                  obtain ⟨x1, x2, x3, x4⟩ := hE0 x (by omega)
                  obtain ⟨x5, x6, x7⟩ := a_t_ok hok (x := x) (by omega)
                  have x8 := hk8 _ (hok x (by omega)).1
                  have x9 := (hok x (by omega)).2
                  refine g_cv (A := (fun p => p = ab ∨ p = ab + 134)) X gWS_good mw_Automaton_96 kc_Automaton ho (c_Automaton_addState l D q Hn ab n es.length us.length _ _ ks ho hk hn F T L hF hT hL0 U hU (by omega) x (by omega) _ _ _ x1 x2 x3 (by omega) (by omega) (by omega) (by omega)) (fun _ _ _ => trivial) gBlind.tt rfl rfl hl.1 (Nat.le_of_ble_eq_true rfl) rfl rfl ⟨by decide, by decide⟩ ⟨by decide, by decide⟩ d_Automaton_countStates_59 (fun p h => h) hL (fun v16 H17 locs hp18 hL => ?_)
                  obtain ⟨rfl, ho2, hU2, hz2, fr2⟩ := hp18
                  refine g_iinc X.1.1 X.1.2.1 (nI (x + 1)) hl 3 d_Automaton_countStates_62 rfl (nI_1 _) rfl (fun ls hl => ?_)
                  refine lv_goto X.1.1 X.1.2.1 d_Automaton_countStates_65 rfl ?_
                  exact ih30 (x + 1) (us ++ [x]) H17 locs ls (by omega) (by omega) (by first | exact hi30_1.skip hc45 | exact hi30_1.known hi30_2 hc45 hc54 | exact hi30_1.add hi30_2 (by omega) hc45 hc54) (hi30_2.add hc45) (by rw [List.length_append, a_sum_app, a_sum_app]; exact ho2) ⟨_, hU2, fun t ht => by
                    rw [List.length_append, List.length_singleton] at ht
                    by_cases h9 : t = us.length
                    · rw [h9, pk_us, t_get_last]
                    · rw [pk_un h9, t_get_app (by omega)]
                      exact hus t (by omega)⟩ (fun p hp => (fr2 p hp).trans (fr p hp)) (hz2.trans zz) hL hl
        exact loop30 _ 0 us Hn locs ls (Nat.lt_succ_self _) (Nat.zero_le _) hi17_1 (by rw [hf0]; exact hi17_1.lo) ho ⟨U, hU, hus⟩ fr zz hL hl
  exact loop17 _ 0 ([]) H9 locs ls (Nat.lt_succ_self _) (Nat.zero_le _) a_stI_0 h10 ⟨U, hU, fun t ht => absurd ht (Nat.not_lt_zero t)⟩ (fun p hp => ((oq12 p (by omega)).trans ((oq8 p (by omega)).trans (oq4 p (by omega))))) (z11.trans (z7.trans z3)) hL hl
