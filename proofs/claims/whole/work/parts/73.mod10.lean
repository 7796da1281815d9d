/-! the class KeyHallModel, 10: printed by wip/specs/m10.py -/
/-- the automaton that was frozen last, of the keys K: state s stands for the text rs s -/
def pA (w : Nat → Int32) (ar : Nat → Nat → Int32) (K : List Nat → Prop) (sN tN : Nat) (rs : Nat → List Nat) : Prop :=
  w 26 = nI sN ∧ w 27 = nI tN ∧ sN ≤ 580 ∧ tN ≤ 580 ∧ (∀ s, s < sN → k_pre K (rs s)) ∧ (∀ s t, s < sN → t < sN → k_eq K (rs s) (rs t) → s = t) ∧ (∀ u, k_pre K u → ∃ s, s < sN ∧ k_eq K (rs s) u) ∧
  (∀ s, s < sN → (K (rs s) → ar 22 s = nI 1) ∧ (¬ K (rs s) → ar 22 s = nI 0)) ∧
  (∀ s c, s < sN → c < 65536 → (∃ t, t < sN ∧ k_eq K (rs t) (rs s ++ [c]) ∧ d_go (ar 23) (ar 24) (ar 25) (nI s) (nI c) tN = nI t) ∨ (¬ k_pre K (rs s ++ [c]) ∧ d_go (ar 23) (ar 24) (ar 25) (nI s) (nI c) tN = -1)) ∧
  (0 < sN → ∃ s, s < sN ∧ w 28 = nI s ∧ k_eq K (rs s) [])

set_option maxHeartbeats 4000000 in
set_option maxRecDepth 100000 in
/-- automaton: states -/
theorem c_Model_automaton0 (l : Launch) (D : va_G) (q : Nat → ClassId) (H : Heap) (d : Nat) (w : Nat → Int32) (ar : Nat → Nat → Int32) (hR : dR D q H d w ar) : gC l y_Model_automaton (Cond.code y_Model_automaton b_Model_automaton 5 (some .int) :: gWS) (gR 1 23 0 0) D CL (gY q) (fun _ => True) [.ref d, .int (nI 0)] H (fun v1 H1 => v1 = some (.int (w 26)) ∧ dR D q H1 d (upd w 0 (nI 0)) ar ∧ H1.size = H.size ∧ ∀ p : Nat, (p < d ∨ d + 28 < p) → H1[p]? = H[p]?) 0 0 (fun p => d ≤ p ∧ p ≤ d + 28) := by
  refine gC.ofW R_Model "automaton" (by decide) rfl rfl ?_
  intro p e s m below meth c hadm X hE hH B hne
  refine g_entry [some (.ref d), some (.int (nI 0)), none, none, none] rfl rfl (Nat.le_of_ble_eq_true rfl) (fun ls hl => ?_)
  refine lv_aload_n X.1.1 X.1.2.1 d_Model_automaton_0 rfl (gl_at hl rfl) ?_
  refine lv_iconst (v := nI 0) X.1.1 X.1.2.1 d_Model_automaton_1 (by decide) ?_
  have mo1 : va_at D CL (d, .inr (10, [.int (w 0), .ref (d + 1), .int (w 2), .ref (d + 2), .ref (d + 3), .ref (d + 4), .ref (d + 5), .ref (d + 6), .int (w 8), .ref (d + 7), .ref (d + 8), .ref (d + 9), .ref (d + 10), .ref (d + 11), .ref (d + 12), .ref (d + 13), .ref (d + 14), .ref (d + 15), .ref (d + 16), .ref (d + 17), .int (w 20), .ref (d + 18), .int (w 22), .ref (d + 19), .ref (d + 20), .ref (d + 21), .int (w 26), .int (w 27), .int (w 28), .ref (d + 22), .ref (d + 23), .ref (d + 24), .ref (d + 25), .ref (d + 26), .int (w 34), .ref (d + 27), .ref (d + 28), .int (w 37), .int (w 38)])) H := hR.1
  refine g_put (A := (fun p => d ≤ p ∧ p ≤ d + 28)) X kc_Model mo1 0 (by decide) lk_Model_99 rfl rfl rfl (Nat.le_of_ble_eq_true rfl) d_Model_automaton_2 ⟨by omega, by omega⟩ (fun _ h => by cases h) (fun H2 locs h3 z4 oq5 hL => ?_)
  have hR6 : dR D q H2 d (upd w 0 (nI 0)) ar := hR.putO h3 oq5
  refine lv_iload_n X.1.1 X.1.2.1 d_Model_automaton_5 rfl (gl_at hl rfl) ?_
  refine gn_ne0 X.1.1 X.1.2.1 0 (by omega) d_Model_automaton_6 rfl (fun hc6 => ?_) (fun hc6 => ?_)
  · omega
  · refine lv_aload_n X.1.1 X.1.2.1 d_Model_automaton_9 rfl (gl_at hl rfl) ?_
    have mo7 : va_at D CL (d, .inr (10, [.int (nI 0), .ref (d + 1), .int (w 2), .ref (d + 2), .ref (d + 3), .ref (d + 4), .ref (d + 5), .ref (d + 6), .int (w 8), .ref (d + 7), .ref (d + 8), .ref (d + 9), .ref (d + 10), .ref (d + 11), .ref (d + 12), .ref (d + 13), .ref (d + 14), .ref (d + 15), .ref (d + 16), .ref (d + 17), .int (w 20), .ref (d + 18), .int (w 22), .ref (d + 19), .ref (d + 20), .ref (d + 21), .int (w 26), .int (w 27), .int (w 28), .ref (d + 22), .ref (d + 23), .ref (d + 24), .ref (d + 25), .ref (d + 26), .int (w 34), .ref (d + 27), .ref (d + 28), .int (w 37), .int (w 38)])) H2 := hR6.1
    refine g_get X kc_Model mo7 26 (by decide) lk_Model_196 rfl d_Model_automaton_10 ?_
    exact g_iret X B ⟨rfl, hR6, z4, fun p hp => (oq5 p (by omega))⟩ hL d_Model_automaton_13 (by omega) (by omega)

set_option maxHeartbeats 4000000 in
set_option maxRecDepth 100000 in
/-- automaton: steps -/
theorem c_Model_automaton1 (l : Launch) (D : va_G) (q : Nat → ClassId) (H : Heap) (d : Nat) (w : Nat → Int32) (ar : Nat → Nat → Int32) (hR : dR D q H d w ar) : gC l y_Model_automaton (Cond.code y_Model_automaton b_Model_automaton 5 (some .int) :: gWS) (gR 1 23 0 0) D CL (gY q) (fun _ => True) [.ref d, .int (nI 1)] H (fun v1 H1 => v1 = some (.int (w 27)) ∧ dR D q H1 d (upd w 0 (nI 0)) ar ∧ H1.size = H.size ∧ ∀ p : Nat, (p < d ∨ d + 28 < p) → H1[p]? = H[p]?) 0 0 (fun p => d ≤ p ∧ p ≤ d + 28) := by
  refine gC.ofW R_Model "automaton" (by decide) rfl rfl ?_
  intro p e s m below meth c hadm X hE hH B hne
  refine g_entry [some (.ref d), some (.int (nI 1)), none, none, none] rfl rfl (Nat.le_of_ble_eq_true rfl) (fun ls hl => ?_)
  refine lv_aload_n X.1.1 X.1.2.1 d_Model_automaton_0 rfl (gl_at hl rfl) ?_
  refine lv_iconst (v := nI 0) X.1.1 X.1.2.1 d_Model_automaton_1 (by decide) ?_
  have mo1 : va_at D CL (d, .inr (10, [.int (w 0), .ref (d + 1), .int (w 2), .ref (d + 2), .ref (d + 3), .ref (d + 4), .ref (d + 5), .ref (d + 6), .int (w 8), .ref (d + 7), .ref (d + 8), .ref (d + 9), .ref (d + 10), .ref (d + 11), .ref (d + 12), .ref (d + 13), .ref (d + 14), .ref (d + 15), .ref (d + 16), .ref (d + 17), .int (w 20), .ref (d + 18), .int (w 22), .ref (d + 19), .ref (d + 20), .ref (d + 21), .int (w 26), .int (w 27), .int (w 28), .ref (d + 22), .ref (d + 23), .ref (d + 24), .ref (d + 25), .ref (d + 26), .int (w 34), .ref (d + 27), .ref (d + 28), .int (w 37), .int (w 38)])) H := hR.1
  refine g_put (A := (fun p => d ≤ p ∧ p ≤ d + 28)) X kc_Model mo1 0 (by decide) lk_Model_99 rfl rfl rfl (Nat.le_of_ble_eq_true rfl) d_Model_automaton_2 ⟨by omega, by omega⟩ (fun _ h => by cases h) (fun H2 locs h3 z4 oq5 hL => ?_)
  have hR6 : dR D q H2 d (upd w 0 (nI 0)) ar := hR.putO h3 oq5
  refine lv_iload_n X.1.1 X.1.2.1 d_Model_automaton_5 rfl (gl_at hl rfl) ?_
  refine gn_ne0 X.1.1 X.1.2.1 1 (by omega) d_Model_automaton_6 rfl (fun hc6 => ?_) (fun hc6 => ?_)
  · refine lv_iload_n X.1.1 X.1.2.1 d_Model_automaton_14 rfl (gl_at hl rfl) ?_
    refine lv_iconst (v := nI 1) X.1.1 X.1.2.1 d_Model_automaton_15 (by decide) ?_
    refine gn_ne X.1.1 X.1.2.1 1 1 (by omega) (by omega) d_Model_automaton_16 rfl (fun hc16 => ?_) (fun hc16 => ?_)
    · omega
    · refine lv_aload_n X.1.1 X.1.2.1 d_Model_automaton_19 rfl (gl_at hl rfl) ?_
      have mo7 : va_at D CL (d, .inr (10, [.int (nI 0), .ref (d + 1), .int (w 2), .ref (d + 2), .ref (d + 3), .ref (d + 4), .ref (d + 5), .ref (d + 6), .int (w 8), .ref (d + 7), .ref (d + 8), .ref (d + 9), .ref (d + 10), .ref (d + 11), .ref (d + 12), .ref (d + 13), .ref (d + 14), .ref (d + 15), .ref (d + 16), .ref (d + 17), .int (w 20), .ref (d + 18), .int (w 22), .ref (d + 19), .ref (d + 20), .ref (d + 21), .int (w 26), .int (w 27), .int (w 28), .ref (d + 22), .ref (d + 23), .ref (d + 24), .ref (d + 25), .ref (d + 26), .int (w 34), .ref (d + 27), .ref (d + 28), .int (w 37), .int (w 38)])) H2 := hR6.1
      refine g_get X kc_Model mo7 27 (by decide) lk_Model_199 rfl d_Model_automaton_20 ?_
      exact g_iret X B ⟨rfl, hR6, z4, fun p hp => (oq5 p (by omega))⟩ hL d_Model_automaton_23 (by omega) (by omega)
  · omega

set_option maxHeartbeats 4000000 in
set_option maxRecDepth 100000 in
/-- automaton: finals -/
theorem c_Model_automaton2 (l : Launch) (D : va_G) (q : Nat → ClassId) (H : Heap) (d : Nat) (w : Nat → Int32) (ar : Nat → Nat → Int32) (hR : dR D q H d w ar) (K : List Nat → Prop) (sN tN : Nat) (rs : Nat → List Nat) (hA : pA w ar K sN tN rs) : gC l y_Model_automaton (Cond.code y_Model_automaton b_Model_automaton 5 (some .int) :: gWS) (gR 1 23 0 0) D CL (gY q) (fun _ => True) [.ref d, .int (nI 2)] H (fun v1 H1 => v1 = some (.int (nI (v_cnt (fun s => decide (¬ ar 22 s = 0)) 0 sN))) ∧ dR D q H1 d (upd w 0 (nI 0)) ar ∧ H1.size = H.size ∧ ∀ p : Nat, (p < d ∨ d + 28 < p) → H1[p]? = H[p]?) 0 0 (fun p => d ≤ p ∧ p ≤ d + 28) := by
  refine gC.ofW R_Model "automaton" (by decide) rfl rfl ?_
  intro p e s m below meth c hadm X hE hH B hne
  refine g_entry [some (.ref d), some (.int (nI 2)), none, none, none] rfl rfl (Nat.le_of_ble_eq_true rfl) (fun ls hl => ?_)
  obtain ⟨ha1, ha2, ha3, ha4, ha5, ha6, ha7, ha8, ha9, haa⟩ := hA
  refine lv_aload_n X.1.1 X.1.2.1 d_Model_automaton_0 rfl (gl_at hl rfl) ?_
  refine lv_iconst (v := nI 0) X.1.1 X.1.2.1 d_Model_automaton_1 (by decide) ?_
  have mo1 : va_at D CL (d, .inr (10, [.int (w 0), .ref (d + 1), .int (w 2), .ref (d + 2), .ref (d + 3), .ref (d + 4), .ref (d + 5), .ref (d + 6), .int (w 8), .ref (d + 7), .ref (d + 8), .ref (d + 9), .ref (d + 10), .ref (d + 11), .ref (d + 12), .ref (d + 13), .ref (d + 14), .ref (d + 15), .ref (d + 16), .ref (d + 17), .int (w 20), .ref (d + 18), .int (w 22), .ref (d + 19), .ref (d + 20), .ref (d + 21), .int (w 26), .int (w 27), .int (w 28), .ref (d + 22), .ref (d + 23), .ref (d + 24), .ref (d + 25), .ref (d + 26), .int (w 34), .ref (d + 27), .ref (d + 28), .int (w 37), .int (w 38)])) H := hR.1
  refine g_put (A := (fun p => d ≤ p ∧ p ≤ d + 28)) X kc_Model mo1 0 (by decide) lk_Model_99 rfl rfl rfl (Nat.le_of_ble_eq_true rfl) d_Model_automaton_2 ⟨by omega, by omega⟩ (fun _ h => by cases h) (fun H2 locs h3 z4 oq5 hL => ?_)
  have hR6 : dR D q H2 d (upd w 0 (nI 0)) ar := hR.putO h3 oq5
  refine lv_iload_n X.1.1 X.1.2.1 d_Model_automaton_5 rfl (gl_at hl rfl) ?_
  refine gn_ne0 X.1.1 X.1.2.1 2 (by omega) d_Model_automaton_6 rfl (fun hc6 => ?_) (fun hc6 => ?_)
  · refine lv_iload_n X.1.1 X.1.2.1 d_Model_automaton_14 rfl (gl_at hl rfl) ?_
    refine lv_iconst (v := nI 1) X.1.1 X.1.2.1 d_Model_automaton_15 (by decide) ?_
    refine gn_ne X.1.1 X.1.2.1 2 1 (by omega) (by omega) d_Model_automaton_16 rfl (fun hc16 => ?_) (fun hc16 => ?_)
    · refine lv_iload_n X.1.1 X.1.2.1 d_Model_automaton_24 rfl (gl_at hl rfl) ?_
      refine lv_iconst (v := nI 2) X.1.1 X.1.2.1 d_Model_automaton_25 (by decide) ?_
      refine gn_ne X.1.1 X.1.2.1 2 2 (by omega) (by omega) d_Model_automaton_26 rfl (fun hc26 => ?_) (fun hc26 => ?_)
      · omega
      · refine lv_iconst (v := nI 0) X.1.1 X.1.2.1 d_Model_automaton_29 (by decide) ?_
        refine g_istn X.1.1 X.1.2.1 hl 2 d_Model_automaton_30 rfl (Nat.le_of_ble_eq_true rfl) rfl (fun ls hl => ?_)
        refine lv_iconst (v := nI 0) X.1.1 X.1.2.1 d_Model_automaton_31 (by decide) ?_
        refine g_istn X.1.1 X.1.2.1 hl 3 d_Model_automaton_32 rfl (Nat.le_of_ble_eq_true rfl) rfl (fun ls hl => ?_)
        have loop33 : ∀ (fu : Nat) (i : Nat) (z0 : Nat) (ls : Array Slot), sN - i < fu → (i ≤ sN) → (z0 = v_cnt (fun s => decide (¬ ar 22 s = 0)) 0 i) →  gl ls [some (.ref d), some (.int (nI 2)), some (.int (nI z0)), some (.int (nI i)), none] → W p l e (gR 1 23 0 0) s m ([.ref d, .int (nI 2)] : List Value).toArray below meth c H2 locs 0 0 (gQ below ([.ref d, .int (nI 2)] : List Value).toArray s (fun v1 H1 => v1 = some (.int (nI (v_cnt (fun s => decide (¬ ar 22 s = 0)) 0 sN))) ∧ dR D q H1 d (upd w 0 (nI 0)) ar ∧ H1.size = H.size ∧ ∀ p : Nat, (p < d ∨ d + 28 < p) → H1[p]? = H[p]?) 0 0 (fun p => d ≤ p ∧ p ≤ d + 28)) (F0 m 33 ls []) := by
          intro fu
          induction fu with
          | zero => intro i z0 ls hmu; omega
          | succ fu ih33 =>
            intro i z0 ls hmu33 hi33_0 hi33_1 hl
            have hz9 := v_cnt_le (fun s => decide (¬ ar 22 s = 0)) 0 i
            refine lv_iload_n X.1.1 X.1.2.1 d_Model_automaton_33 rfl (gl_at hl rfl) ?_
            refine lv_aload_n X.1.1 X.1.2.1 d_Model_automaton_34 rfl (gl_at hl rfl) ?_
            have mo7 : va_at D CL (d, .inr (10, [.int (nI 0), .ref (d + 1), .int (w 2), .ref (d + 2), .ref (d + 3), .ref (d + 4), .ref (d + 5), .ref (d + 6), .int (w 8), .ref (d + 7), .ref (d + 8), .ref (d + 9), .ref (d + 10), .ref (d + 11), .ref (d + 12), .ref (d + 13), .ref (d + 14), .ref (d + 15), .ref (d + 16), .ref (d + 17), .int (w 20), .ref (d + 18), .int (w 22), .ref (d + 19), .ref (d + 20), .ref (d + 21), .int (w 26), .int (w 27), .int (w 28), .ref (d + 22), .ref (d + 23), .ref (d + 24), .ref (d + 25), .ref (d + 26), .int (w 34), .ref (d + 27), .ref (d + 28), .int (w 37), .int (w 38)])) H2 := hR6.1
            refine g_get X kc_Model mo7 26 (by decide) lk_Model_196 rfl d_Model_automaton_35 ?_
            refine g_top (nI sN) ha1 ?_
            refine gn_ge X.1.1 X.1.2.1 i sN (by omega) (by omega) d_Model_automaton_38 rfl (fun hc38 => ?_) (fun hc38 => ?_)
            · refine lv_iload_n X.1.1 X.1.2.1 d_Model_automaton_64 rfl (gl_at hl rfl) ?_
              exact g_iret X B ⟨by rw [hi33_1, show i = sN by omega], hR6, z4, fun p hp => (oq5 p (by omega))⟩ hL d_Model_automaton_65 (by omega) (by omega)
            · refine lv_iload_n X.1.1 X.1.2.1 d_Model_automaton_41 rfl (gl_at hl rfl) ?_
              refine lv_aload_n X.1.1 X.1.2.1 d_Model_automaton_42 rfl (gl_at hl rfl) ?_
              refine g_get X kc_Model mo7 29 (by decide) lk_Model_78 rfl d_Model_automaton_43 ?_
              refine lv_iload_n X.1.1 X.1.2.1 d_Model_automaton_46 rfl (gl_at hl rfl) ?_
              have ma8 : va_at D CL (d + 22, .inl (q 1, 580, .inl (ar 22))) H2 := hR6.a22
              refine g_zald X 1 ma8 rfl i (by omega) (by omega) d_Model_automaton_47 ?_
              refine lv_if_eq X.1.1 X.1.2.1 d_Model_automaton_48 rfl (fun hc48 => ?_) (fun hc48 => ?_)
              · refine lv_iconst (v := nI 0) X.1.1 X.1.2.1 d_Model_automaton_55 (by decide) ?_
                refine lv_iadd X.1.1 X.1.2.1 d_Model_automaton_56 ?_
                refine g_top (nI (z0 + 0)) (nI_add _ _) ?_
                refine g_istn X.1.1 X.1.2.1 hl 2 d_Model_automaton_57 rfl (Nat.le_of_ble_eq_true rfl) rfl (fun ls hl => ?_)
                refine g_iinc X.1.1 X.1.2.1 (nI (i + 1)) hl 3 d_Model_automaton_58 rfl (nI_1 _) rfl (fun ls hl => ?_)
                refine lv_goto X.1.1 X.1.2.1 d_Model_automaton_61 rfl ?_
                exact ih33 (i + 1) (z0 + 0) ls (by omega) (by omega) (by
                  rw [v_cnt_s0, if_neg (show ¬ decide (¬ ar 22 i = 0) = true from fun h9 => of_decide_eq_true h9 hc48), ← hi33_1]) hl
              · refine lv_iconst (v := nI 1) X.1.1 X.1.2.1 d_Model_automaton_51 (by decide) ?_
                refine lv_goto X.1.1 X.1.2.1 d_Model_automaton_52 rfl ?_
                refine lv_iadd X.1.1 X.1.2.1 d_Model_automaton_56 ?_
                refine g_top (nI (z0 + 1)) (nI_add _ _) ?_
                refine g_istn X.1.1 X.1.2.1 hl 2 d_Model_automaton_57 rfl (Nat.le_of_ble_eq_true rfl) rfl (fun ls hl => ?_)
                refine g_iinc X.1.1 X.1.2.1 (nI (i + 1)) hl 3 d_Model_automaton_58 rfl (nI_1 _) rfl (fun ls hl => ?_)
                refine lv_goto X.1.1 X.1.2.1 d_Model_automaton_61 rfl ?_
                exact ih33 (i + 1) (z0 + 1) ls (by omega) (by omega) (by
                  rw [v_cnt_s0, if_pos (show decide (¬ ar 22 i = 0) = true from decide_eq_true hc48), ← hi33_1]) hl
        exact loop33 _ 0 0 ls (Nat.lt_succ_self _) (Nat.zero_le _) rfl hl
    · omega
  · omega

set_option maxHeartbeats 4000000 in
set_option maxRecDepth 100000 in
/-- automaton: no such question -/
theorem c_Model_automatonN (l : Launch) (D : va_G) (q : Nat → ClassId) (H : Heap) (d : Nat) (w : Nat → Int32) (ar : Nat → Nat → Int32) (hR : dR D q H d w ar) (x : Int32) (hx : ¬ x = 0 ∧ ¬ x = nI 1 ∧ ¬ x = nI 2 ∧ ¬ x = nI 3 ∧ ¬ x = nI 4) : gC l y_Model_automaton (Cond.code y_Model_automaton b_Model_automaton 5 (some .int) :: gWS) (gR 1 23 0 0) D CL (gY q) (fun _ => True) [.ref d, .int x] H (fun v1 H1 => v1 = some (.int (-1)) ∧ dR D q H1 d (upd w 0 (nI 0)) ar ∧ H1.size = H.size ∧ ∀ p : Nat, (p < d ∨ d + 28 < p) → H1[p]? = H[p]?) 0 0 (fun p => d ≤ p ∧ p ≤ d + 28) := by
  refine gC.ofW R_Model "automaton" (by decide) rfl rfl ?_
  intro p e s m below meth c hadm X hE hH B hne
  refine g_entry [some (.ref d), some (.int x), none, none, none] rfl rfl (Nat.le_of_ble_eq_true rfl) (fun ls hl => ?_)
  refine lv_aload_n X.1.1 X.1.2.1 d_Model_automaton_0 rfl (gl_at hl rfl) ?_
  refine lv_iconst (v := nI 0) X.1.1 X.1.2.1 d_Model_automaton_1 (by decide) ?_
  have mo1 : va_at D CL (d, .inr (10, [.int (w 0), .ref (d + 1), .int (w 2), .ref (d + 2), .ref (d + 3), .ref (d + 4), .ref (d + 5), .ref (d + 6), .int (w 8), .ref (d + 7), .ref (d + 8), .ref (d + 9), .ref (d + 10), .ref (d + 11), .ref (d + 12), .ref (d + 13), .ref (d + 14), .ref (d + 15), .ref (d + 16), .ref (d + 17), .int (w 20), .ref (d + 18), .int (w 22), .ref (d + 19), .ref (d + 20), .ref (d + 21), .int (w 26), .int (w 27), .int (w 28), .ref (d + 22), .ref (d + 23), .ref (d + 24), .ref (d + 25), .ref (d + 26), .int (w 34), .ref (d + 27), .ref (d + 28), .int (w 37), .int (w 38)])) H := hR.1
  refine g_put (A := (fun p => d ≤ p ∧ p ≤ d + 28)) X kc_Model mo1 0 (by decide) lk_Model_99 rfl rfl rfl (Nat.le_of_ble_eq_true rfl) d_Model_automaton_2 ⟨by omega, by omega⟩ (fun _ h => by cases h) (fun H2 locs h3 z4 oq5 hL => ?_)
  have hR6 : dR D q H2 d (upd w 0 (nI 0)) ar := hR.putO h3 oq5
  refine lv_iload_n X.1.1 X.1.2.1 d_Model_automaton_5 rfl (gl_at hl rfl) ?_
  refine lv_if_ne X.1.1 X.1.2.1 d_Model_automaton_6 rfl (fun hc6 => ?_) (fun hc6 => ?_)
  · refine lv_iload_n X.1.1 X.1.2.1 d_Model_automaton_14 rfl (gl_at hl rfl) ?_
    refine lv_iconst (v := nI 1) X.1.1 X.1.2.1 d_Model_automaton_15 (by decide) ?_
    refine lv_icmp_ne X.1.1 X.1.2.1 d_Model_automaton_16 rfl (fun hc16 => ?_) (fun hc16 => ?_)
    · refine lv_iload_n X.1.1 X.1.2.1 d_Model_automaton_24 rfl (gl_at hl rfl) ?_
      refine lv_iconst (v := nI 2) X.1.1 X.1.2.1 d_Model_automaton_25 (by decide) ?_
      refine lv_icmp_ne X.1.1 X.1.2.1 d_Model_automaton_26 rfl (fun hc26 => ?_) (fun hc26 => ?_)
      · refine lv_iload_n X.1.1 X.1.2.1 d_Model_automaton_66 rfl (gl_at hl rfl) ?_
        refine lv_iconst (v := nI 3) X.1.1 X.1.2.1 d_Model_automaton_67 (by decide) ?_
        refine lv_icmp_eq X.1.1 X.1.2.1 d_Model_automaton_68 rfl (fun hc68 => ?_) (fun hc68 => ?_)
        · exact absurd hc68 hx.2.2.2.1
        · refine lv_iload_n X.1.1 X.1.2.1 d_Model_automaton_71 rfl (gl_at hl rfl) ?_
          refine lv_iconst (v := nI 4) X.1.1 X.1.2.1 d_Model_automaton_72 (by decide) ?_
          refine lv_icmp_eq X.1.1 X.1.2.1 d_Model_automaton_73 rfl (fun hc73 => ?_) (fun hc73 => ?_)
          · exact absurd hc73 hx.2.2.2.2
          · refine lv_iconst (v := (-1)) X.1.1 X.1.2.1 d_Model_automaton_76 (by decide) ?_
            exact g_iret X B ⟨rfl, hR6, z4, fun p hp => (oq5 p (by omega))⟩ hL d_Model_automaton_77 (by omega) (by omega)
      · exact absurd hc26 hx.2.2.1
    · exact absurd hc16 hx.2.1
  · exact absurd hc6 hx.1

set_option maxHeartbeats 4000000 in
set_option maxRecDepth 100000 in
/-- automaton: nothing frozen -/
theorem c_Model_automaton3E (l : Launch) (D : va_G) (q : Nat → ClassId) (H : Heap) (d : Nat) (w : Nat → Int32) (ar : Nat → Nat → Int32) (hR : dR D q H d w ar) (tp : List Nat) (ht : pT w ar tp) (h26 : w 26 = nI 0) : gC l y_Model_automaton (Cond.code y_Model_automaton b_Model_automaton 5 (some .int) :: gWS) (gR 1 23 0 0) D CL (gY q) (fun _ => True) [.ref d, .int (nI 3)] H (fun v1 H1 => v1 = some (.int (-1)) ∧ dR D q H1 d (upd (upd w 0 (nI 0)) 2 (nI 0)) ar ∧ H1.size = H.size ∧ ∀ p : Nat, (p < d ∨ d + 28 < p) → H1[p]? = H[p]?) 0 0 (fun p => d ≤ p ∧ p ≤ d + 28) := by
  refine gC.ofW R_Model "automaton" (by decide) rfl rfl ?_
  intro p e s m below meth c hadm X hE hH B hne
  refine g_entry [some (.ref d), some (.int (nI 3)), none, none, none] rfl rfl (Nat.le_of_ble_eq_true rfl) (fun ls hl => ?_)
  refine lv_aload_n X.1.1 X.1.2.1 d_Model_automaton_0 rfl (gl_at hl rfl) ?_
  refine lv_iconst (v := nI 0) X.1.1 X.1.2.1 d_Model_automaton_1 (by decide) ?_
  have mo1 : va_at D CL (d, .inr (10, [.int (w 0), .ref (d + 1), .int (w 2), .ref (d + 2), .ref (d + 3), .ref (d + 4), .ref (d + 5), .ref (d + 6), .int (w 8), .ref (d + 7), .ref (d + 8), .ref (d + 9), .ref (d + 10), .ref (d + 11), .ref (d + 12), .ref (d + 13), .ref (d + 14), .ref (d + 15), .ref (d + 16), .ref (d + 17), .int (w 20), .ref (d + 18), .int (w 22), .ref (d + 19), .ref (d + 20), .ref (d + 21), .int (w 26), .int (w 27), .int (w 28), .ref (d + 22), .ref (d + 23), .ref (d + 24), .ref (d + 25), .ref (d + 26), .int (w 34), .ref (d + 27), .ref (d + 28), .int (w 37), .int (w 38)])) H := hR.1
  refine g_put (A := (fun p => d ≤ p ∧ p ≤ d + 28)) X kc_Model mo1 0 (by decide) lk_Model_99 rfl rfl rfl (Nat.le_of_ble_eq_true rfl) d_Model_automaton_2 ⟨by omega, by omega⟩ (fun _ h => by cases h) (fun H2 locs h3 z4 oq5 hL => ?_)
  have hR6 : dR D q H2 d (upd w 0 (nI 0)) ar := hR.putO h3 oq5
  refine lv_iload_n X.1.1 X.1.2.1 d_Model_automaton_5 rfl (gl_at hl rfl) ?_
  refine gn_ne0 X.1.1 X.1.2.1 3 (by omega) d_Model_automaton_6 rfl (fun hc6 => ?_) (fun hc6 => ?_)
  · refine lv_iload_n X.1.1 X.1.2.1 d_Model_automaton_14 rfl (gl_at hl rfl) ?_
    refine lv_iconst (v := nI 1) X.1.1 X.1.2.1 d_Model_automaton_15 (by decide) ?_
    refine gn_ne X.1.1 X.1.2.1 3 1 (by omega) (by omega) d_Model_automaton_16 rfl (fun hc16 => ?_) (fun hc16 => ?_)
    · refine lv_iload_n X.1.1 X.1.2.1 d_Model_automaton_24 rfl (gl_at hl rfl) ?_
      refine lv_iconst (v := nI 2) X.1.1 X.1.2.1 d_Model_automaton_25 (by decide) ?_
      refine gn_ne X.1.1 X.1.2.1 3 2 (by omega) (by omega) d_Model_automaton_26 rfl (fun hc26 => ?_) (fun hc26 => ?_)
      · refine lv_iload_n X.1.1 X.1.2.1 d_Model_automaton_66 rfl (gl_at hl rfl) ?_
        refine lv_iconst (v := nI 3) X.1.1 X.1.2.1 d_Model_automaton_67 (by decide) ?_
        refine gn_eq X.1.1 X.1.2.1 3 3 (by omega) (by omega) d_Model_automaton_68 rfl (fun hc68 => ?_) (fun hc68 => ?_)
        · refine lv_aload_n X.1.1 X.1.2.1 d_Model_automaton_78 rfl (gl_at hl rfl) ?_
          have mo7 : va_at D CL (d, .inr (10, [.int (nI 0), .ref (d + 1), .int (w 2), .ref (d + 2), .ref (d + 3), .ref (d + 4), .ref (d + 5), .ref (d + 6), .int (w 8), .ref (d + 7), .ref (d + 8), .ref (d + 9), .ref (d + 10), .ref (d + 11), .ref (d + 12), .ref (d + 13), .ref (d + 14), .ref (d + 15), .ref (d + 16), .ref (d + 17), .int (w 20), .ref (d + 18), .int (w 22), .ref (d + 19), .ref (d + 20), .ref (d + 21), .int (w 26), .int (w 27), .int (w 28), .ref (d + 22), .ref (d + 23), .ref (d + 24), .ref (d + 25), .ref (d + 26), .int (w 34), .ref (d + 27), .ref (d + 28), .int (w 37), .int (w 38)])) H2 := hR6.1
          refine g_get X kc_Model mo7 2 (by decide) lk_Model_102 rfl d_Model_automaton_79 ?_
          refine g_top (nI tp.length) ht.1 ?_
          refine g_istn X.1.1 X.1.2.1 hl 2 d_Model_automaton_82 rfl (Nat.le_of_ble_eq_true rfl) rfl (fun ls hl => ?_)
          refine lv_aload_n X.1.1 X.1.2.1 d_Model_automaton_83 rfl (gl_at hl rfl) ?_
          refine lv_iconst (v := nI 0) X.1.1 X.1.2.1 d_Model_automaton_84 (by decide) ?_
          refine g_put (A := (fun p => d ≤ p ∧ p ≤ d + 28)) X kc_Model mo7 2 (by decide) lk_Model_102 rfl rfl rfl (Nat.le_of_ble_eq_true rfl) d_Model_automaton_85 ⟨by omega, by omega⟩ hL (fun H8 locs h9 z10 oq11 hL => ?_)
          have hR12 : dR D q H8 d (upd (upd w 0 (nI 0)) 2 (nI 0)) ar := hR6.putO h9 oq11
          refine lv_aload_n X.1.1 X.1.2.1 d_Model_automaton_88 rfl (gl_at hl rfl) ?_
          have mo13 : va_at D CL (d, .inr (10, [.int (nI 0), .ref (d + 1), .int (nI 0), .ref (d + 2), .ref (d + 3), .ref (d + 4), .ref (d + 5), .ref (d + 6), .int (w 8), .ref (d + 7), .ref (d + 8), .ref (d + 9), .ref (d + 10), .ref (d + 11), .ref (d + 12), .ref (d + 13), .ref (d + 14), .ref (d + 15), .ref (d + 16), .ref (d + 17), .int (w 20), .ref (d + 18), .int (w 22), .ref (d + 19), .ref (d + 20), .ref (d + 21), .int (w 26), .int (w 27), .int (w 28), .ref (d + 22), .ref (d + 23), .ref (d + 24), .ref (d + 25), .ref (d + 26), .int (w 34), .ref (d + 27), .ref (d + 28), .int (w 37), .int (w 38)])) H8 := hR12.1
          refine g_get X kc_Model mo13 26 (by decide) lk_Model_196 rfl d_Model_automaton_89 ?_
          refine g_top (nI 0) h26 ?_
          refine gn_ne0 X.1.1 X.1.2.1 0 (by omega) d_Model_automaton_92 rfl (fun hc92 => ?_) (fun hc92 => ?_)
          · omega
          · refine lv_iconst (v := (-1)) X.1.1 X.1.2.1 d_Model_automaton_95 (by decide) ?_
            refine lv_goto X.1.1 X.1.2.1 d_Model_automaton_96 rfl ?_
            refine g_istn X.1.1 X.1.2.1 hl 3 d_Model_automaton_103 rfl (Nat.le_of_ble_eq_true rfl) rfl (fun ls hl => ?_)
            refine lv_iconst (v := nI 0) X.1.1 X.1.2.1 d_Model_automaton_104 (by decide) ?_
            refine g_ist X.1.1 X.1.2.1 hl 4 d_Model_automaton_105 (Nat.le_of_ble_eq_true rfl) rfl (fun ls hl => ?_)
            refine lv_iload_n X.1.1 X.1.2.1 d_Model_automaton_107 rfl (gl_at hl rfl) ?_
            refine lv_iconst (v := (-1)) X.1.1 X.1.2.1 d_Model_automaton_108 (by decide) ?_
            refine lv_icmp_eq X.1.1 X.1.2.1 d_Model_automaton_109 rfl (fun hc109 => ?_) (fun hc109 => ?_)
            · refine lv_iload_n X.1.1 X.1.2.1 d_Model_automaton_153 rfl (gl_at hl rfl) ?_
              refine lv_iconst (v := nI 3) X.1.1 X.1.2.1 d_Model_automaton_154 (by decide) ?_
              refine gn_ne X.1.1 X.1.2.1 3 3 (by omega) (by omega) d_Model_automaton_155 rfl (fun hc155 => ?_) (fun hc155 => ?_)
              · omega
              · refine lv_aload_n X.1.1 X.1.2.1 d_Model_automaton_158 rfl (gl_at hl rfl) ?_
                refine g_get X kc_Model mo13 26 (by decide) lk_Model_196 rfl d_Model_automaton_159 ?_
                refine g_top (nI 0) h26 ?_
                refine gn_ne0 X.1.1 X.1.2.1 0 (by omega) d_Model_automaton_162 rfl (fun hc162 => ?_) (fun hc162 => ?_)
                · omega
                · refine lv_iconst (v := (-1)) X.1.1 X.1.2.1 d_Model_automaton_165 (by decide) ?_
                  refine lv_goto X.1.1 X.1.2.1 d_Model_automaton_166 rfl ?_
                  exact g_iret X B ⟨rfl, hR12, (z10.trans z4), fun p hp => ((oq11 p (by omega)).trans (oq5 p (by omega)))⟩ hL d_Model_automaton_171 (by omega) (by omega)
            · exact absurd rfl hc109
        · omega
      · omega
    · omega
  · omega

set_option maxHeartbeats 4000000 in
set_option maxRecDepth 100000 in
/-- automaton: nothing frozen -/
theorem c_Model_automaton4E (l : Launch) (D : va_G) (q : Nat → ClassId) (H : Heap) (d : Nat) (w : Nat → Int32) (ar : Nat → Nat → Int32) (hR : dR D q H d w ar) (tp : List Nat) (ht : pT w ar tp) (h26 : w 26 = nI 0) : gC l y_Model_automaton (Cond.code y_Model_automaton b_Model_automaton 5 (some .int) :: gWS) (gR 1 23 0 0) D CL (gY q) (fun _ => True) [.ref d, .int (nI 4)] H (fun v1 H1 => v1 = some (.int (nI 0)) ∧ dR D q H1 d (upd (upd w 0 (nI 0)) 2 (nI 0)) ar ∧ H1.size = H.size ∧ ∀ p : Nat, (p < d ∨ d + 28 < p) → H1[p]? = H[p]?) 0 0 (fun p => d ≤ p ∧ p ≤ d + 28) := by
  refine gC.ofW R_Model "automaton" (by decide) rfl rfl ?_
  intro p e s m below meth c hadm X hE hH B hne
  refine g_entry [some (.ref d), some (.int (nI 4)), none, none, none] rfl rfl (Nat.le_of_ble_eq_true rfl) (fun ls hl => ?_)
  refine lv_aload_n X.1.1 X.1.2.1 d_Model_automaton_0 rfl (gl_at hl rfl) ?_
  refine lv_iconst (v := nI 0) X.1.1 X.1.2.1 d_Model_automaton_1 (by decide) ?_
  have mo1 : va_at D CL (d, .inr (10, [.int (w 0), .ref (d + 1), .int (w 2), .ref (d + 2), .ref (d + 3), .ref (d + 4), .ref (d + 5), .ref (d + 6), .int (w 8), .ref (d + 7), .ref (d + 8), .ref (d + 9), .ref (d + 10), .ref (d + 11), .ref (d + 12), .ref (d + 13), .ref (d + 14), .ref (d + 15), .ref (d + 16), .ref (d + 17), .int (w 20), .ref (d + 18), .int (w 22), .ref (d + 19), .ref (d + 20), .ref (d + 21), .int (w 26), .int (w 27), .int (w 28), .ref (d + 22), .ref (d + 23), .ref (d + 24), .ref (d + 25), .ref (d + 26), .int (w 34), .ref (d + 27), .ref (d + 28), .int (w 37), .int (w 38)])) H := hR.1
  refine g_put (A := (fun p => d ≤ p ∧ p ≤ d + 28)) X kc_Model mo1 0 (by decide) lk_Model_99 rfl rfl rfl (Nat.le_of_ble_eq_true rfl) d_Model_automaton_2 ⟨by omega, by omega⟩ (fun _ h => by cases h) (fun H2 locs h3 z4 oq5 hL => ?_)
  have hR6 : dR D q H2 d (upd w 0 (nI 0)) ar := hR.putO h3 oq5
  refine lv_iload_n X.1.1 X.1.2.1 d_Model_automaton_5 rfl (gl_at hl rfl) ?_
  refine gn_ne0 X.1.1 X.1.2.1 4 (by omega) d_Model_automaton_6 rfl (fun hc6 => ?_) (fun hc6 => ?_)
  · refine lv_iload_n X.1.1 X.1.2.1 d_Model_automaton_14 rfl (gl_at hl rfl) ?_
    refine lv_iconst (v := nI 1) X.1.1 X.1.2.1 d_Model_automaton_15 (by decide) ?_
    refine gn_ne X.1.1 X.1.2.1 4 1 (by omega) (by omega) d_Model_automaton_16 rfl (fun hc16 => ?_) (fun hc16 => ?_)
    · refine lv_iload_n X.1.1 X.1.2.1 d_Model_automaton_24 rfl (gl_at hl rfl) ?_
      refine lv_iconst (v := nI 2) X.1.1 X.1.2.1 d_Model_automaton_25 (by decide) ?_
      refine gn_ne X.1.1 X.1.2.1 4 2 (by omega) (by omega) d_Model_automaton_26 rfl (fun hc26 => ?_) (fun hc26 => ?_)
      · refine lv_iload_n X.1.1 X.1.2.1 d_Model_automaton_66 rfl (gl_at hl rfl) ?_
        refine lv_iconst (v := nI 3) X.1.1 X.1.2.1 d_Model_automaton_67 (by decide) ?_
        refine gn_eq X.1.1 X.1.2.1 4 3 (by omega) (by omega) d_Model_automaton_68 rfl (fun hc68 => ?_) (fun hc68 => ?_)
        · omega
        · refine lv_iload_n X.1.1 X.1.2.1 d_Model_automaton_71 rfl (gl_at hl rfl) ?_
          refine lv_iconst (v := nI 4) X.1.1 X.1.2.1 d_Model_automaton_72 (by decide) ?_
          refine gn_eq X.1.1 X.1.2.1 4 4 (by omega) (by omega) d_Model_automaton_73 rfl (fun hc73 => ?_) (fun hc73 => ?_)
          · refine lv_aload_n X.1.1 X.1.2.1 d_Model_automaton_78 rfl (gl_at hl rfl) ?_
            have mo7 : va_at D CL (d, .inr (10, [.int (nI 0), .ref (d + 1), .int (w 2), .ref (d + 2), .ref (d + 3), .ref (d + 4), .ref (d + 5), .ref (d + 6), .int (w 8), .ref (d + 7), .ref (d + 8), .ref (d + 9), .ref (d + 10), .ref (d + 11), .ref (d + 12), .ref (d + 13), .ref (d + 14), .ref (d + 15), .ref (d + 16), .ref (d + 17), .int (w 20), .ref (d + 18), .int (w 22), .ref (d + 19), .ref (d + 20), .ref (d + 21), .int (w 26), .int (w 27), .int (w 28), .ref (d + 22), .ref (d + 23), .ref (d + 24), .ref (d + 25), .ref (d + 26), .int (w 34), .ref (d + 27), .ref (d + 28), .int (w 37), .int (w 38)])) H2 := hR6.1
            refine g_get X kc_Model mo7 2 (by decide) lk_Model_102 rfl d_Model_automaton_79 ?_
            refine g_top (nI tp.length) ht.1 ?_
            refine g_istn X.1.1 X.1.2.1 hl 2 d_Model_automaton_82 rfl (Nat.le_of_ble_eq_true rfl) rfl (fun ls hl => ?_)
            refine lv_aload_n X.1.1 X.1.2.1 d_Model_automaton_83 rfl (gl_at hl rfl) ?_
            refine lv_iconst (v := nI 0) X.1.1 X.1.2.1 d_Model_automaton_84 (by decide) ?_
            refine g_put (A := (fun p => d ≤ p ∧ p ≤ d + 28)) X kc_Model mo7 2 (by decide) lk_Model_102 rfl rfl rfl (Nat.le_of_ble_eq_true rfl) d_Model_automaton_85 ⟨by omega, by omega⟩ hL (fun H8 locs h9 z10 oq11 hL => ?_)
            have hR12 : dR D q H8 d (upd (upd w 0 (nI 0)) 2 (nI 0)) ar := hR6.putO h9 oq11
            refine lv_aload_n X.1.1 X.1.2.1 d_Model_automaton_88 rfl (gl_at hl rfl) ?_
            have mo13 : va_at D CL (d, .inr (10, [.int (nI 0), .ref (d + 1), .int (nI 0), .ref (d + 2), .ref (d + 3), .ref (d + 4), .ref (d + 5), .ref (d + 6), .int (w 8), .ref (d + 7), .ref (d + 8), .ref (d + 9), .ref (d + 10), .ref (d + 11), .ref (d + 12), .ref (d + 13), .ref (d + 14), .ref (d + 15), .ref (d + 16), .ref (d + 17), .int (w 20), .ref (d + 18), .int (w 22), .ref (d + 19), .ref (d + 20), .ref (d + 21), .int (w 26), .int (w 27), .int (w 28), .ref (d + 22), .ref (d + 23), .ref (d + 24), .ref (d + 25), .ref (d + 26), .int (w 34), .ref (d + 27), .ref (d + 28), .int (w 37), .int (w 38)])) H8 := hR12.1
            refine g_get X kc_Model mo13 26 (by decide) lk_Model_196 rfl d_Model_automaton_89 ?_
            refine g_top (nI 0) h26 ?_
            refine gn_ne0 X.1.1 X.1.2.1 0 (by omega) d_Model_automaton_92 rfl (fun hc92 => ?_) (fun hc92 => ?_)
            · omega
            · refine lv_iconst (v := (-1)) X.1.1 X.1.2.1 d_Model_automaton_95 (by decide) ?_
              refine lv_goto X.1.1 X.1.2.1 d_Model_automaton_96 rfl ?_
              refine g_istn X.1.1 X.1.2.1 hl 3 d_Model_automaton_103 rfl (Nat.le_of_ble_eq_true rfl) rfl (fun ls hl => ?_)
              refine lv_iconst (v := nI 0) X.1.1 X.1.2.1 d_Model_automaton_104 (by decide) ?_
              refine g_ist X.1.1 X.1.2.1 hl 4 d_Model_automaton_105 (Nat.le_of_ble_eq_true rfl) rfl (fun ls hl => ?_)
              refine lv_iload_n X.1.1 X.1.2.1 d_Model_automaton_107 rfl (gl_at hl rfl) ?_
              refine lv_iconst (v := (-1)) X.1.1 X.1.2.1 d_Model_automaton_108 (by decide) ?_
              refine lv_icmp_eq X.1.1 X.1.2.1 d_Model_automaton_109 rfl (fun hc109 => ?_) (fun hc109 => ?_)
              · refine lv_iload_n X.1.1 X.1.2.1 d_Model_automaton_153 rfl (gl_at hl rfl) ?_
                refine lv_iconst (v := nI 3) X.1.1 X.1.2.1 d_Model_automaton_154 (by decide) ?_
                refine gn_ne X.1.1 X.1.2.1 4 3 (by omega) (by omega) d_Model_automaton_155 rfl (fun hc155 => ?_) (fun hc155 => ?_)
                · refine lv_iload_n X.1.1 X.1.2.1 d_Model_automaton_172 rfl (gl_at hl rfl) ?_
                  refine lv_iconst (v := (-1)) X.1.1 X.1.2.1 d_Model_automaton_173 (by decide) ?_
                  refine lv_icmp_eq X.1.1 X.1.2.1 d_Model_automaton_174 rfl (fun hc174 => ?_) (fun hc174 => ?_)
                  · refine lv_iconst (v := nI 0) X.1.1 X.1.2.1 d_Model_automaton_196 (by decide) ?_
                    exact g_iret X B ⟨rfl, hR12, (z10.trans z4), fun p hp => ((oq11 p (by omega)).trans (oq5 p (by omega)))⟩ hL d_Model_automaton_197 (by omega) (by omega)
                  · exact absurd rfl hc174
                · omega
              · exact absurd rfl hc109
          · omega
      · omega
    · omega
  · omega

theorem k_take {K : List Nat → Prop} {u tp : List Nat} {k : Nat} (h : k_eq K u (tp.take k)) (hk : k < tp.length) : k_eq K (u ++ [tp.getD k 0]) (tp.take (k + 1)) := by
  rw [t_take_s hk]
  exact h.app _
theorem k_pre_le {K : List Nat → Prop} {tp : List Nat} {k : Nat} (h : K tp) : k_pre K (tp.take k) := ⟨tp.drop k, by rw [List.take_append_drop]; exact h⟩

set_option maxHeartbeats 4000000 in
set_option maxRecDepth 100000 in
/-- automaton: 3 -/
theorem c_Model_automaton3 (l : Launch) (D : va_G) (q : Nat → ClassId) (H : Heap) (d : Nat) (w : Nat → Int32) (ar : Nat → Nat → Int32) (hR : dR D q H d w ar) (tp : List Nat) (ht : pT w ar tp) (K : List Nat → Prop) (sN tN : Nat) (rs : Nat → List Nat) (hA : pA w ar K sN tN rs) (hs0 : 0 < sN) : gC l y_Model_automaton (Cond.code y_Model_automaton b_Model_automaton 5 (some .int) :: gWS) (gR 1 23 0 0) D CL (gY q) (fun _ => True) [.ref d, .int (nI 3)] H (fun v1 H1 => (∃ k : Nat, v1 = some (.int (nI k)) ∧ k ≤ tp.length ∧ k_pre K (tp.take k) ∧ (k = tp.length ∨ ¬ k_pre K (tp.take (k + 1)))) ∧ dR D q H1 d (upd (upd w 0 (nI 0)) 2 (nI 0)) ar ∧ H1.size = H.size ∧ ∀ p : Nat, (p < d ∨ d + 28 < p) → H1[p]? = H[p]?) 0 0 (fun p => d ≤ p ∧ p ≤ d + 28) := by
  refine gC.ofW R_Model "automaton" (by decide) rfl rfl ?_
  intro p e s m below meth c hadm X hE hH B hne
  refine g_entry [some (.ref d), some (.int (nI 3)), none, none, none] rfl rfl (Nat.le_of_ble_eq_true rfl) (fun ls hl => ?_)
  obtain ⟨ha1, ha2, ha3, ha4, ha5, ha6, ha7, ha8, ha9, haa⟩ := hA
  obtain ⟨st0, hb1, hb2, hb3⟩ := haa hs0
  have ht8 := ht.2.2.1
  refine lv_aload_n X.1.1 X.1.2.1 d_Model_automaton_0 rfl (gl_at hl rfl) ?_
  refine lv_iconst (v := nI 0) X.1.1 X.1.2.1 d_Model_automaton_1 (by decide) ?_
  have mo1 : va_at D CL (d, .inr (10, [.int (w 0), .ref (d + 1), .int (w 2), .ref (d + 2), .ref (d + 3), .ref (d + 4), .ref (d + 5), .ref (d + 6), .int (w 8), .ref (d + 7), .ref (d + 8), .ref (d + 9), .ref (d + 10), .ref (d + 11), .ref (d + 12), .ref (d + 13), .ref (d + 14), .ref (d + 15), .ref (d + 16), .ref (d + 17), .int (w 20), .ref (d + 18), .int (w 22), .ref (d + 19), .ref (d + 20), .ref (d + 21), .int (w 26), .int (w 27), .int (w 28), .ref (d + 22), .ref (d + 23), .ref (d + 24), .ref (d + 25), .ref (d + 26), .int (w 34), .ref (d + 27), .ref (d + 28), .int (w 37), .int (w 38)])) H := hR.1
  refine g_put (A := (fun p => d ≤ p ∧ p ≤ d + 28)) X kc_Model mo1 0 (by decide) lk_Model_99 rfl rfl rfl (Nat.le_of_ble_eq_true rfl) d_Model_automaton_2 ⟨by omega, by omega⟩ (fun _ h => by cases h) (fun H2 locs h3 z4 oq5 hL => ?_)
  have hR6 : dR D q H2 d (upd w 0 (nI 0)) ar := hR.putO h3 oq5
  refine lv_iload_n X.1.1 X.1.2.1 d_Model_automaton_5 rfl (gl_at hl rfl) ?_
  refine gn_ne0 X.1.1 X.1.2.1 3 (by omega) d_Model_automaton_6 rfl (fun hc6 => ?_) (fun hc6 => ?_)
  · refine lv_iload_n X.1.1 X.1.2.1 d_Model_automaton_14 rfl (gl_at hl rfl) ?_
    refine lv_iconst (v := nI 1) X.1.1 X.1.2.1 d_Model_automaton_15 (by decide) ?_
    refine gn_ne X.1.1 X.1.2.1 3 1 (by omega) (by omega) d_Model_automaton_16 rfl (fun hc16 => ?_) (fun hc16 => ?_)
    · refine lv_iload_n X.1.1 X.1.2.1 d_Model_automaton_24 rfl (gl_at hl rfl) ?_
      refine lv_iconst (v := nI 2) X.1.1 X.1.2.1 d_Model_automaton_25 (by decide) ?_
      refine gn_ne X.1.1 X.1.2.1 3 2 (by omega) (by omega) d_Model_automaton_26 rfl (fun hc26 => ?_) (fun hc26 => ?_)
      · refine lv_iload_n X.1.1 X.1.2.1 d_Model_automaton_66 rfl (gl_at hl rfl) ?_
        refine lv_iconst (v := nI 3) X.1.1 X.1.2.1 d_Model_automaton_67 (by decide) ?_
        refine gn_eq X.1.1 X.1.2.1 3 3 (by omega) (by omega) d_Model_automaton_68 rfl (fun hc68 => ?_) (fun hc68 => ?_)
        · refine lv_aload_n X.1.1 X.1.2.1 d_Model_automaton_78 rfl (gl_at hl rfl) ?_
          have mo7 : va_at D CL (d, .inr (10, [.int (nI 0), .ref (d + 1), .int (w 2), .ref (d + 2), .ref (d + 3), .ref (d + 4), .ref (d + 5), .ref (d + 6), .int (w 8), .ref (d + 7), .ref (d + 8), .ref (d + 9), .ref (d + 10), .ref (d + 11), .ref (d + 12), .ref (d + 13), .ref (d + 14), .ref (d + 15), .ref (d + 16), .ref (d + 17), .int (w 20), .ref (d + 18), .int (w 22), .ref (d + 19), .ref (d + 20), .ref (d + 21), .int (w 26), .int (w 27), .int (w 28), .ref (d + 22), .ref (d + 23), .ref (d + 24), .ref (d + 25), .ref (d + 26), .int (w 34), .ref (d + 27), .ref (d + 28), .int (w 37), .int (w 38)])) H2 := hR6.1
          refine g_get X kc_Model mo7 2 (by decide) lk_Model_102 rfl d_Model_automaton_79 ?_
          refine g_top (nI tp.length) ht.1 ?_
          refine g_istn X.1.1 X.1.2.1 hl 2 d_Model_automaton_82 rfl (Nat.le_of_ble_eq_true rfl) rfl (fun ls hl => ?_)
          refine lv_aload_n X.1.1 X.1.2.1 d_Model_automaton_83 rfl (gl_at hl rfl) ?_
          refine lv_iconst (v := nI 0) X.1.1 X.1.2.1 d_Model_automaton_84 (by decide) ?_
          refine g_put (A := (fun p => d ≤ p ∧ p ≤ d + 28)) X kc_Model mo7 2 (by decide) lk_Model_102 rfl rfl rfl (Nat.le_of_ble_eq_true rfl) d_Model_automaton_85 ⟨by omega, by omega⟩ hL (fun H8 locs h9 z10 oq11 hL => ?_)
          have hR12 : dR D q H8 d (upd (upd w 0 (nI 0)) 2 (nI 0)) ar := hR6.putO h9 oq11
          refine lv_aload_n X.1.1 X.1.2.1 d_Model_automaton_88 rfl (gl_at hl rfl) ?_
          have mo13 : va_at D CL (d, .inr (10, [.int (nI 0), .ref (d + 1), .int (nI 0), .ref (d + 2), .ref (d + 3), .ref (d + 4), .ref (d + 5), .ref (d + 6), .int (w 8), .ref (d + 7), .ref (d + 8), .ref (d + 9), .ref (d + 10), .ref (d + 11), .ref (d + 12), .ref (d + 13), .ref (d + 14), .ref (d + 15), .ref (d + 16), .ref (d + 17), .int (w 20), .ref (d + 18), .int (w 22), .ref (d + 19), .ref (d + 20), .ref (d + 21), .int (w 26), .int (w 27), .int (w 28), .ref (d + 22), .ref (d + 23), .ref (d + 24), .ref (d + 25), .ref (d + 26), .int (w 34), .ref (d + 27), .ref (d + 28), .int (w 37), .int (w 38)])) H8 := hR12.1
          refine g_get X kc_Model mo13 26 (by decide) lk_Model_196 rfl d_Model_automaton_89 ?_
          refine g_top (nI sN) ha1 ?_
          refine gn_ne0 X.1.1 X.1.2.1 sN (by omega) d_Model_automaton_92 rfl (fun hc92 => ?_) (fun hc92 => ?_)
          · refine lv_aload_n X.1.1 X.1.2.1 d_Model_automaton_99 rfl (gl_at hl rfl) ?_
            refine g_get X kc_Model mo13 28 (by decide) lk_Model_202 rfl d_Model_automaton_100 ?_
            refine g_top (nI st0) hb2 ?_
            refine g_istn X.1.1 X.1.2.1 hl 3 d_Model_automaton_103 rfl (Nat.le_of_ble_eq_true rfl) rfl (fun ls hl => ?_)
            refine lv_iconst (v := nI 0) X.1.1 X.1.2.1 d_Model_automaton_104 (by decide) ?_
            refine g_ist X.1.1 X.1.2.1 hl 4 d_Model_automaton_105 (Nat.le_of_ble_eq_true rfl) rfl (fun ls hl => ?_)
            have loop107 : ∀ (fu : Nat) (k : Nat) (s0 : Nat) (locs : List Loc) (ls : Array Slot), tp.length - k < fu → (k ≤ tp.length) → (s0 < sN) → (k_eq K (rs s0) (tp.take k)) → (∀ x ∈ locs, (fun p => d ≤ p ∧ p ≤ d + 28) x.base) → gl ls [some (.ref d), some (.int (nI 3)), some (.int (nI tp.length)), some (.int (nI s0)), some (.int (nI k))] → W p l e (gR 1 23 0 0) s m ([.ref d, .int (nI 3)] : List Value).toArray below meth c H8 locs 0 0 (gQ below ([.ref d, .int (nI 3)] : List Value).toArray s (fun v1 H1 => (∃ k : Nat, v1 = some (.int (nI k)) ∧ k ≤ tp.length ∧ k_pre K (tp.take k) ∧ (k = tp.length ∨ ¬ k_pre K (tp.take (k + 1)))) ∧ dR D q H1 d (upd (upd w 0 (nI 0)) 2 (nI 0)) ar ∧ H1.size = H.size ∧ ∀ p : Nat, (p < d ∨ d + 28 < p) → H1[p]? = H[p]?) 0 0 (fun p => d ≤ p ∧ p ≤ d + 28)) (F0 m 107 ls []) := by
              intro fu
              induction fu with
              | zero => intro k s0 locs ls hmu; omega
              | succ fu ih107 =>
                intro k s0 locs ls hmu107 hi107_0 hi107_1 hi107_2 hL hl
                refine lv_iload_n X.1.1 X.1.2.1 d_Model_automaton_107 rfl (gl_at hl rfl) ?_
                refine lv_iconst (v := (-1)) X.1.1 X.1.2.1 d_Model_automaton_108 (by decide) ?_
                refine lv_icmp_eq X.1.1 X.1.2.1 d_Model_automaton_109 rfl (fun hc109 => ?_) (fun hc109 => ?_)
                · exact absurd hc109 (d_m1 (by omega))
                · refine lv_iload X.1.1 X.1.2.1 d_Model_automaton_112 (gl_at hl rfl) ?_
                  refine lv_iload_n X.1.1 X.1.2.1 d_Model_automaton_114 rfl (gl_at hl rfl) ?_
                  refine gn_ge X.1.1 X.1.2.1 k tp.length (by omega) (by omega) d_Model_automaton_115 rfl (fun hc115 => ?_) (fun hc115 => ?_)
                  · refine lv_iload_n X.1.1 X.1.2.1 d_Model_automaton_153 rfl (gl_at hl rfl) ?_
                    refine lv_iconst (v := nI 3) X.1.1 X.1.2.1 d_Model_automaton_154 (by decide) ?_
                    refine gn_ne X.1.1 X.1.2.1 3 3 (by omega) (by omega) d_Model_automaton_155 rfl (fun hc155 => ?_) (fun hc155 => ?_)
                    · omega
                    · refine lv_aload_n X.1.1 X.1.2.1 d_Model_automaton_158 rfl (gl_at hl rfl) ?_
                      refine g_get X kc_Model mo13 26 (by decide) lk_Model_196 rfl d_Model_automaton_159 ?_
                      refine g_top (nI sN) ha1 ?_
                      refine gn_ne0 X.1.1 X.1.2.1 sN (by omega) d_Model_automaton_162 rfl (fun hc162 => ?_) (fun hc162 => ?_)
                      · refine lv_iload X.1.1 X.1.2.1 d_Model_automaton_169 (gl_at hl rfl) ?_
                        exact g_iret X B ⟨⟨k, rfl, hi107_0, hi107_2.pre (ha5 s0 hi107_1), by first | exact Or.inl (by omega) | exact Or.inr hnp⟩, hR12, (z10.trans z4), fun p hp => ((oq11 p (by omega)).trans (oq5 p (by omega)))⟩ hL d_Model_automaton_171 (by omega) (by omega)
                      · omega
                  · have hgo := ha9 s0 (tp.getD k 0) hi107_1 (t_lt ht.2.2.2 k)
                    refine lv_aload_n X.1.1 X.1.2.1 d_Model_automaton_118 rfl (gl_at hl rfl) ?_
                    refine lv_iload_n X.1.1 X.1.2.1 d_Model_automaton_119 rfl (gl_at hl rfl) ?_
                    refine lv_aload_n X.1.1 X.1.2.1 d_Model_automaton_120 rfl (gl_at hl rfl) ?_
                    refine g_get X kc_Model mo13 1 (by decide) lk_Model_7 rfl d_Model_automaton_121 ?_
                    refine lv_iload X.1.1 X.1.2.1 d_Model_automaton_124 (gl_at hl rfl) ?_
                    have ma14 : va_at D CL (d + 1, .inl (q 0, 8, .inl (ar 1))) H8 := hR12.a1
                    refine g_iald X 0 ma14 rfl k (by omega) (by omega) d_Model_automaton_126 ?_
                    refine g_top (nI (tp.getD k 0)) ((congrArg (ar 1) (by omega)).trans (ht.2.1 k (by omega))) ?_
                    refine g_cv (A := (fun p => d ≤ p ∧ p ≤ d + 28)) X gWS_good mw_Model_226 kc_Model mo13 (c_Model_go l D q H8 d (upd (upd w 0 (nI 0)) 2 (nI 0)) ar hR12 tN ha2 (by omega) (nI s0) (nI (tp.getD k 0))) (fun _ _ _ => trivial) gBlind.tt rfl rfl hl.1 (Nat.le_of_ble_eq_true rfl) rfl rfl ⟨by decide, by decide⟩ ⟨by decide, by decide⟩ d_Model_automaton_127 (fun _ h => h.elim) hL (fun v15 H16 locs hp17 hL => ?_)
                    obtain ⟨rfl, hHe⟩ := hp17
                    rw [hHe]
                    refine lv_iconst (v := (-1)) X.1.1 X.1.2.1 d_Model_automaton_130 (by decide) ?_
                    refine lv_icmp_eq X.1.1 X.1.2.1 d_Model_automaton_131 rfl (fun hc131 => ?_) (fun hc131 => ?_)
                    · have hnp : ¬ k_pre K (tp.take (k + 1)) := by
                        rcases hgo with ⟨t1, h1, h2, h3⟩ | ⟨h1, h2⟩
                        · exact absurd (h3.symm.trans hc131) (d_m1 (by omega))
                        · exact fun h9 => h1 ((k_take hi107_2 (by omega)).symm.pre h9)
                      refine lv_iload_n X.1.1 X.1.2.1 d_Model_automaton_153 rfl (gl_at hl rfl) ?_
                      refine lv_iconst (v := nI 3) X.1.1 X.1.2.1 d_Model_automaton_154 (by decide) ?_
                      refine gn_ne X.1.1 X.1.2.1 3 3 (by omega) (by omega) d_Model_automaton_155 rfl (fun hc155 => ?_) (fun hc155 => ?_)
                      · omega
                      · refine lv_aload_n X.1.1 X.1.2.1 d_Model_automaton_158 rfl (gl_at hl rfl) ?_
                        refine g_get X kc_Model mo13 26 (by decide) lk_Model_196 rfl d_Model_automaton_159 ?_
                        refine g_top (nI sN) ha1 ?_
                        refine gn_ne0 X.1.1 X.1.2.1 sN (by omega) d_Model_automaton_162 rfl (fun hc162 => ?_) (fun hc162 => ?_)
                        · refine lv_iload X.1.1 X.1.2.1 d_Model_automaton_169 (gl_at hl rfl) ?_
                          exact g_iret X B ⟨⟨k, rfl, hi107_0, hi107_2.pre (ha5 s0 hi107_1), by first | exact Or.inl (by omega) | exact Or.inr hnp⟩, hR12, (z10.trans z4), fun p hp => ((oq11 p (by omega)).trans (oq5 p (by omega)))⟩ hL d_Model_automaton_171 (by omega) (by omega)
                        · omega
                    · obtain ⟨t1, ht1a, ht1b, hgo1⟩ := hgo.resolve_right (fun h9 => hc131 h9.2)
                      refine lv_aload_n X.1.1 X.1.2.1 d_Model_automaton_134 rfl (gl_at hl rfl) ?_
                      refine lv_iload_n X.1.1 X.1.2.1 d_Model_automaton_135 rfl (gl_at hl rfl) ?_
                      refine lv_aload_n X.1.1 X.1.2.1 d_Model_automaton_136 rfl (gl_at hl rfl) ?_
                      refine g_get X kc_Model mo13 1 (by decide) lk_Model_7 rfl d_Model_automaton_137 ?_
                      refine lv_iload X.1.1 X.1.2.1 d_Model_automaton_140 (gl_at hl rfl) ?_
                      refine g_iald X 0 ma14 rfl k (by omega) (by omega) d_Model_automaton_142 ?_
                      refine g_top (nI (tp.getD k 0)) ((congrArg (ar 1) (by omega)).trans (ht.2.1 k (by omega))) ?_
                      refine g_cv (A := (fun p => d ≤ p ∧ p ≤ d + 28)) X gWS_good mw_Model_226 kc_Model mo13 (c_Model_go l D q H8 d (upd (upd w 0 (nI 0)) 2 (nI 0)) ar hR12 tN ha2 (by omega) (nI s0) (nI (tp.getD k 0))) (fun _ _ _ => trivial) gBlind.tt rfl rfl hl.1 (Nat.le_of_ble_eq_true rfl) rfl rfl ⟨by decide, by decide⟩ ⟨by decide, by decide⟩ d_Model_automaton_143 (fun _ h => h.elim) hL (fun v18 H19 locs hp20 hL => ?_)
                      obtain ⟨rfl, hHe⟩ := hp20
                      rw [hHe]
                      refine g_top (nI t1) hgo1 ?_
                      refine g_istn X.1.1 X.1.2.1 hl 3 d_Model_automaton_146 rfl (Nat.le_of_ble_eq_true rfl) rfl (fun ls hl => ?_)
                      refine g_iinc X.1.1 X.1.2.1 (nI (k + 1)) hl 4 d_Model_automaton_147 rfl (nI_1 _) rfl (fun ls hl => ?_)
                      refine lv_goto X.1.1 X.1.2.1 d_Model_automaton_150 rfl ?_
                      exact ih107 (k + 1) t1 locs ls (by omega) (by omega) ht1a (ht1b.trans (k_take hi107_2 (by omega))) hL hl
            exact loop107 _ 0 st0 locs ls (Nat.lt_succ_self _) (Nat.zero_le _) hb1 (by rw [List.take_zero]; exact hb3) hL hl
          · omega
        · omega
      · omega
    · omega
  · omega

set_option maxHeartbeats 4000000 in
set_option maxRecDepth 100000 in
/-- automaton: 4 -/
theorem c_Model_automaton4 (l : Launch) (D : va_G) (q : Nat → ClassId) (H : Heap) (d : Nat) (w : Nat → Int32) (ar : Nat → Nat → Int32) (hR : dR D q H d w ar) (tp : List Nat) (ht : pT w ar tp) (K : List Nat → Prop) (sN tN : Nat) (rs : Nat → List Nat) (hA : pA w ar K sN tN rs) (hs0 : 0 < sN) : gC l y_Model_automaton (Cond.code y_Model_automaton b_Model_automaton 5 (some .int) :: gWS) (gR 1 23 0 0) D CL (gY q) (fun _ => True) [.ref d, .int (nI 4)] H (fun v1 H1 => ((K tp → v1 = some (.int (nI 1))) ∧ (¬ K tp → v1 = some (.int (nI 0)))) ∧ dR D q H1 d (upd (upd w 0 (nI 0)) 2 (nI 0)) ar ∧ H1.size = H.size ∧ ∀ p : Nat, (p < d ∨ d + 28 < p) → H1[p]? = H[p]?) 0 0 (fun p => d ≤ p ∧ p ≤ d + 28) := by
  refine gC.ofW R_Model "automaton" (by decide) rfl rfl ?_
  intro p e s m below meth c hadm X hE hH B hne
  refine g_entry [some (.ref d), some (.int (nI 4)), none, none, none] rfl rfl (Nat.le_of_ble_eq_true rfl) (fun ls hl => ?_)
  obtain ⟨ha1, ha2, ha3, ha4, ha5, ha6, ha7, ha8, ha9, haa⟩ := hA
  obtain ⟨st0, hb1, hb2, hb3⟩ := haa hs0
  have ht8 := ht.2.2.1
  refine lv_aload_n X.1.1 X.1.2.1 d_Model_automaton_0 rfl (gl_at hl rfl) ?_
  refine lv_iconst (v := nI 0) X.1.1 X.1.2.1 d_Model_automaton_1 (by decide) ?_
  have mo1 : va_at D CL (d, .inr (10, [.int (w 0), .ref (d + 1), .int (w 2), .ref (d + 2), .ref (d + 3), .ref (d + 4), .ref (d + 5), .ref (d + 6), .int (w 8), .ref (d + 7), .ref (d + 8), .ref (d + 9), .ref (d + 10), .ref (d + 11), .ref (d + 12), .ref (d + 13), .ref (d + 14), .ref (d + 15), .ref (d + 16), .ref (d + 17), .int (w 20), .ref (d + 18), .int (w 22), .ref (d + 19), .ref (d + 20), .ref (d + 21), .int (w 26), .int (w 27), .int (w 28), .ref (d + 22), .ref (d + 23), .ref (d + 24), .ref (d + 25), .ref (d + 26), .int (w 34), .ref (d + 27), .ref (d + 28), .int (w 37), .int (w 38)])) H := hR.1
  refine g_put (A := (fun p => d ≤ p ∧ p ≤ d + 28)) X kc_Model mo1 0 (by decide) lk_Model_99 rfl rfl rfl (Nat.le_of_ble_eq_true rfl) d_Model_automaton_2 ⟨by omega, by omega⟩ (fun _ h => by cases h) (fun H2 locs h3 z4 oq5 hL => ?_)
  have hR6 : dR D q H2 d (upd w 0 (nI 0)) ar := hR.putO h3 oq5
  refine lv_iload_n X.1.1 X.1.2.1 d_Model_automaton_5 rfl (gl_at hl rfl) ?_
  refine gn_ne0 X.1.1 X.1.2.1 4 (by omega) d_Model_automaton_6 rfl (fun hc6 => ?_) (fun hc6 => ?_)
  · refine lv_iload_n X.1.1 X.1.2.1 d_Model_automaton_14 rfl (gl_at hl rfl) ?_
    refine lv_iconst (v := nI 1) X.1.1 X.1.2.1 d_Model_automaton_15 (by decide) ?_
    refine gn_ne X.1.1 X.1.2.1 4 1 (by omega) (by omega) d_Model_automaton_16 rfl (fun hc16 => ?_) (fun hc16 => ?_)
    · refine lv_iload_n X.1.1 X.1.2.1 d_Model_automaton_24 rfl (gl_at hl rfl) ?_
      refine lv_iconst (v := nI 2) X.1.1 X.1.2.1 d_Model_automaton_25 (by decide) ?_
      refine gn_ne X.1.1 X.1.2.1 4 2 (by omega) (by omega) d_Model_automaton_26 rfl (fun hc26 => ?_) (fun hc26 => ?_)
      · refine lv_iload_n X.1.1 X.1.2.1 d_Model_automaton_66 rfl (gl_at hl rfl) ?_
        refine lv_iconst (v := nI 3) X.1.1 X.1.2.1 d_Model_automaton_67 (by decide) ?_
        refine gn_eq X.1.1 X.1.2.1 4 3 (by omega) (by omega) d_Model_automaton_68 rfl (fun hc68 => ?_) (fun hc68 => ?_)
        · omega
        · refine lv_iload_n X.1.1 X.1.2.1 d_Model_automaton_71 rfl (gl_at hl rfl) ?_
          refine lv_iconst (v := nI 4) X.1.1 X.1.2.1 d_Model_automaton_72 (by decide) ?_
          refine gn_eq X.1.1 X.1.2.1 4 4 (by omega) (by omega) d_Model_automaton_73 rfl (fun hc73 => ?_) (fun hc73 => ?_)
          · refine lv_aload_n X.1.1 X.1.2.1 d_Model_automaton_78 rfl (gl_at hl rfl) ?_
            have mo7 : va_at D CL (d, .inr (10, [.int (nI 0), .ref (d + 1), .int (w 2), .ref (d + 2), .ref (d + 3), .ref (d + 4), .ref (d + 5), .ref (d + 6), .int (w 8), .ref (d + 7), .ref (d + 8), .ref (d + 9), .ref (d + 10), .ref (d + 11), .ref (d + 12), .ref (d + 13), .ref (d + 14), .ref (d + 15), .ref (d + 16), .ref (d + 17), .int (w 20), .ref (d + 18), .int (w 22), .ref (d + 19), .ref (d + 20), .ref (d + 21), .int (w 26), .int (w 27), .int (w 28), .ref (d + 22), .ref (d + 23), .ref (d + 24), .ref (d + 25), .ref (d + 26), .int (w 34), .ref (d + 27), .ref (d + 28), .int (w 37), .int (w 38)])) H2 := hR6.1
            refine g_get X kc_Model mo7 2 (by decide) lk_Model_102 rfl d_Model_automaton_79 ?_
            refine g_top (nI tp.length) ht.1 ?_
            refine g_istn X.1.1 X.1.2.1 hl 2 d_Model_automaton_82 rfl (Nat.le_of_ble_eq_true rfl) rfl (fun ls hl => ?_)
            refine lv_aload_n X.1.1 X.1.2.1 d_Model_automaton_83 rfl (gl_at hl rfl) ?_
            refine lv_iconst (v := nI 0) X.1.1 X.1.2.1 d_Model_automaton_84 (by decide) ?_
            refine g_put (A := (fun p => d ≤ p ∧ p ≤ d + 28)) X kc_Model mo7 2 (by decide) lk_Model_102 rfl rfl rfl (Nat.le_of_ble_eq_true rfl) d_Model_automaton_85 ⟨by omega, by omega⟩ hL (fun H8 locs h9 z10 oq11 hL => ?_)
            have hR12 : dR D q H8 d (upd (upd w 0 (nI 0)) 2 (nI 0)) ar := hR6.putO h9 oq11
            refine lv_aload_n X.1.1 X.1.2.1 d_Model_automaton_88 rfl (gl_at hl rfl) ?_
            have mo13 : va_at D CL (d, .inr (10, [.int (nI 0), .ref (d + 1), .int (nI 0), .ref (d + 2), .ref (d + 3), .ref (d + 4), .ref (d + 5), .ref (d + 6), .int (w 8), .ref (d + 7), .ref (d + 8), .ref (d + 9), .ref (d + 10), .ref (d + 11), .ref (d + 12), .ref (d + 13), .ref (d + 14), .ref (d + 15), .ref (d + 16), .ref (d + 17), .int (w 20), .ref (d + 18), .int (w 22), .ref (d + 19), .ref (d + 20), .ref (d + 21), .int (w 26), .int (w 27), .int (w 28), .ref (d + 22), .ref (d + 23), .ref (d + 24), .ref (d + 25), .ref (d + 26), .int (w 34), .ref (d + 27), .ref (d + 28), .int (w 37), .int (w 38)])) H8 := hR12.1
            refine g_get X kc_Model mo13 26 (by decide) lk_Model_196 rfl d_Model_automaton_89 ?_
            refine g_top (nI sN) ha1 ?_
            refine gn_ne0 X.1.1 X.1.2.1 sN (by omega) d_Model_automaton_92 rfl (fun hc92 => ?_) (fun hc92 => ?_)
            · refine lv_aload_n X.1.1 X.1.2.1 d_Model_automaton_99 rfl (gl_at hl rfl) ?_
              refine g_get X kc_Model mo13 28 (by decide) lk_Model_202 rfl d_Model_automaton_100 ?_
              refine g_top (nI st0) hb2 ?_
              refine g_istn X.1.1 X.1.2.1 hl 3 d_Model_automaton_103 rfl (Nat.le_of_ble_eq_true rfl) rfl (fun ls hl => ?_)
              refine lv_iconst (v := nI 0) X.1.1 X.1.2.1 d_Model_automaton_104 (by decide) ?_
              refine g_ist X.1.1 X.1.2.1 hl 4 d_Model_automaton_105 (Nat.le_of_ble_eq_true rfl) rfl (fun ls hl => ?_)
              have loop107 : ∀ (fu : Nat) (k : Nat) (s0 : Nat) (locs : List Loc) (ls : Array Slot), tp.length - k < fu → (k ≤ tp.length) → (s0 < sN) → (k_eq K (rs s0) (tp.take k)) → (∀ x ∈ locs, (fun p => d ≤ p ∧ p ≤ d + 28) x.base) → gl ls [some (.ref d), some (.int (nI 4)), some (.int (nI tp.length)), some (.int (nI s0)), some (.int (nI k))] → W p l e (gR 1 23 0 0) s m ([.ref d, .int (nI 4)] : List Value).toArray below meth c H8 locs 0 0 (gQ below ([.ref d, .int (nI 4)] : List Value).toArray s (fun v1 H1 => ((K tp → v1 = some (.int (nI 1))) ∧ (¬ K tp → v1 = some (.int (nI 0)))) ∧ dR D q H1 d (upd (upd w 0 (nI 0)) 2 (nI 0)) ar ∧ H1.size = H.size ∧ ∀ p : Nat, (p < d ∨ d + 28 < p) → H1[p]? = H[p]?) 0 0 (fun p => d ≤ p ∧ p ≤ d + 28)) (F0 m 107 ls []) := by
                intro fu
                induction fu with
                | zero => intro k s0 locs ls hmu; omega
                | succ fu ih107 =>
                  intro k s0 locs ls hmu107 hi107_0 hi107_1 hi107_2 hL hl
                  refine lv_iload_n X.1.1 X.1.2.1 d_Model_automaton_107 rfl (gl_at hl rfl) ?_
                  refine lv_iconst (v := (-1)) X.1.1 X.1.2.1 d_Model_automaton_108 (by decide) ?_
                  refine lv_icmp_eq X.1.1 X.1.2.1 d_Model_automaton_109 rfl (fun hc109 => ?_) (fun hc109 => ?_)
                  · exact absurd hc109 (d_m1 (by omega))
                  · refine lv_iload X.1.1 X.1.2.1 d_Model_automaton_112 (gl_at hl rfl) ?_
                    refine lv_iload_n X.1.1 X.1.2.1 d_Model_automaton_114 rfl (gl_at hl rfl) ?_
                    refine gn_ge X.1.1 X.1.2.1 k tp.length (by omega) (by omega) d_Model_automaton_115 rfl (fun hc115 => ?_) (fun hc115 => ?_)
                    · refine lv_iload_n X.1.1 X.1.2.1 d_Model_automaton_153 rfl (gl_at hl rfl) ?_
                      refine lv_iconst (v := nI 3) X.1.1 X.1.2.1 d_Model_automaton_154 (by decide) ?_
                      refine gn_ne X.1.1 X.1.2.1 4 3 (by omega) (by omega) d_Model_automaton_155 rfl (fun hc155 => ?_) (fun hc155 => ?_)
                      · refine lv_iload_n X.1.1 X.1.2.1 d_Model_automaton_172 rfl (gl_at hl rfl) ?_
                        refine lv_iconst (v := (-1)) X.1.1 X.1.2.1 d_Model_automaton_173 (by decide) ?_
                        refine lv_icmp_eq X.1.1 X.1.2.1 d_Model_automaton_174 rfl (fun hc174 => ?_) (fun hc174 => ?_)
                        · exact absurd hc174 (d_m1 (by omega))
                        · refine lv_iload X.1.1 X.1.2.1 d_Model_automaton_177 (gl_at hl rfl) ?_
                          refine lv_iload_n X.1.1 X.1.2.1 d_Model_automaton_179 rfl (gl_at hl rfl) ?_
                          refine gn_ne X.1.1 X.1.2.1 k tp.length (by omega) (by omega) d_Model_automaton_180 rfl (fun hc180 => ?_) (fun hc180 => ?_)
                          · refine lv_iconst (v := nI 0) X.1.1 X.1.2.1 d_Model_automaton_196 (by decide) ?_
                            exact g_iret X B ⟨⟨fun h9 => by
                              first
                              | (exact absurd (k_pre_le h9) hnp)
                              | (have e1 := ha8 s0 hi107_1
                                 have e2 := hi107_2 []
                                 rw [List.append_nil, List.append_nil, show k = tp.length by omega, List.take_length] at e2
                                 exact absurd ((e1.1 (e2.mpr h9)).symm.trans hc189) (by decide))
                              | omega, fun _ => rfl⟩, hR12, (z10.trans z4), fun p hp => ((oq11 p (by omega)).trans (oq5 p (by omega)))⟩ hL d_Model_automaton_197 (by omega) (by omega)
                          · refine lv_aload_n X.1.1 X.1.2.1 d_Model_automaton_183 rfl (gl_at hl rfl) ?_
                            refine g_get X kc_Model mo13 29 (by decide) lk_Model_78 rfl d_Model_automaton_184 ?_
                            refine lv_iload_n X.1.1 X.1.2.1 d_Model_automaton_187 rfl (gl_at hl rfl) ?_
                            have ma14 : va_at D CL (d + 22, .inl (q 1, 580, .inl (ar 22))) H8 := hR12.a22
                            refine g_zald X 1 ma14 rfl s0 (by omega) (by omega) d_Model_automaton_188 ?_
                            refine lv_if_eq X.1.1 X.1.2.1 d_Model_automaton_189 rfl (fun hc189 => ?_) (fun hc189 => ?_)
                            · refine lv_iconst (v := nI 0) X.1.1 X.1.2.1 d_Model_automaton_196 (by decide) ?_
                              exact g_iret X B ⟨⟨fun h9 => by
                                first
                                | (exact absurd (k_pre_le h9) hnp)
                                | (have e1 := ha8 s0 hi107_1
                                   have e2 := hi107_2 []
                                   rw [List.append_nil, List.append_nil, show k = tp.length by omega, List.take_length] at e2
                                   exact absurd ((e1.1 (e2.mpr h9)).symm.trans hc189) (by decide))
                                | omega, fun _ => rfl⟩, hR12, (z10.trans z4), fun p hp => ((oq11 p (by omega)).trans (oq5 p (by omega)))⟩ hL d_Model_automaton_197 (by omega) (by omega)
                            · refine lv_iconst (v := nI 1) X.1.1 X.1.2.1 d_Model_automaton_192 (by decide) ?_
                              refine lv_goto X.1.1 X.1.2.1 d_Model_automaton_193 rfl ?_
                              exact g_iret X B ⟨⟨fun _ => rfl, fun h9 => by
                                have e1 := ha8 s0 hi107_1
                                have e2 := hi107_2 []
                                rw [List.append_nil, List.append_nil, show k = tp.length by omega, List.take_length] at e2
                                exact absurd (e1.2 (fun h8 => h9 (e2.mp h8))) hc189⟩, hR12, (z10.trans z4), fun p hp => ((oq11 p (by omega)).trans (oq5 p (by omega)))⟩ hL d_Model_automaton_197 (by omega) (by omega)
                      · omega
                    · have hgo := ha9 s0 (tp.getD k 0) hi107_1 (t_lt ht.2.2.2 k)
                      refine lv_aload_n X.1.1 X.1.2.1 d_Model_automaton_118 rfl (gl_at hl rfl) ?_
                      refine lv_iload_n X.1.1 X.1.2.1 d_Model_automaton_119 rfl (gl_at hl rfl) ?_
                      refine lv_aload_n X.1.1 X.1.2.1 d_Model_automaton_120 rfl (gl_at hl rfl) ?_
                      refine g_get X kc_Model mo13 1 (by decide) lk_Model_7 rfl d_Model_automaton_121 ?_
                      refine lv_iload X.1.1 X.1.2.1 d_Model_automaton_124 (gl_at hl rfl) ?_
                      have ma15 : va_at D CL (d + 1, .inl (q 0, 8, .inl (ar 1))) H8 := hR12.a1
                      refine g_iald X 0 ma15 rfl k (by omega) (by omega) d_Model_automaton_126 ?_
                      refine g_top (nI (tp.getD k 0)) ((congrArg (ar 1) (by omega)).trans (ht.2.1 k (by omega))) ?_
                      refine g_cv (A := (fun p => d ≤ p ∧ p ≤ d + 28)) X gWS_good mw_Model_226 kc_Model mo13 (c_Model_go l D q H8 d (upd (upd w 0 (nI 0)) 2 (nI 0)) ar hR12 tN ha2 (by omega) (nI s0) (nI (tp.getD k 0))) (fun _ _ _ => trivial) gBlind.tt rfl rfl hl.1 (Nat.le_of_ble_eq_true rfl) rfl rfl ⟨by decide, by decide⟩ ⟨by decide, by decide⟩ d_Model_automaton_127 (fun _ h => h.elim) hL (fun v16 H17 locs hp18 hL => ?_)
                      obtain ⟨rfl, hHe⟩ := hp18
                      rw [hHe]
                      refine lv_iconst (v := (-1)) X.1.1 X.1.2.1 d_Model_automaton_130 (by decide) ?_
                      refine lv_icmp_eq X.1.1 X.1.2.1 d_Model_automaton_131 rfl (fun hc131 => ?_) (fun hc131 => ?_)
                      · have hnp : ¬ k_pre K (tp.take (k + 1)) := by
                          rcases hgo with ⟨t1, h1, h2, h3⟩ | ⟨h1, h2⟩
                          · exact absurd (h3.symm.trans hc131) (d_m1 (by omega))
                          · exact fun h9 => h1 ((k_take hi107_2 (by omega)).symm.pre h9)
                        refine lv_iload_n X.1.1 X.1.2.1 d_Model_automaton_153 rfl (gl_at hl rfl) ?_
                        refine lv_iconst (v := nI 3) X.1.1 X.1.2.1 d_Model_automaton_154 (by decide) ?_
                        refine gn_ne X.1.1 X.1.2.1 4 3 (by omega) (by omega) d_Model_automaton_155 rfl (fun hc155 => ?_) (fun hc155 => ?_)
                        · refine lv_iload_n X.1.1 X.1.2.1 d_Model_automaton_172 rfl (gl_at hl rfl) ?_
                          refine lv_iconst (v := (-1)) X.1.1 X.1.2.1 d_Model_automaton_173 (by decide) ?_
                          refine lv_icmp_eq X.1.1 X.1.2.1 d_Model_automaton_174 rfl (fun hc174 => ?_) (fun hc174 => ?_)
                          · exact absurd hc174 (d_m1 (by omega))
                          · refine lv_iload X.1.1 X.1.2.1 d_Model_automaton_177 (gl_at hl rfl) ?_
                            refine lv_iload_n X.1.1 X.1.2.1 d_Model_automaton_179 rfl (gl_at hl rfl) ?_
                            refine gn_ne X.1.1 X.1.2.1 k tp.length (by omega) (by omega) d_Model_automaton_180 rfl (fun hc180 => ?_) (fun hc180 => ?_)
                            · refine lv_iconst (v := nI 0) X.1.1 X.1.2.1 d_Model_automaton_196 (by decide) ?_
                              exact g_iret X B ⟨⟨fun h9 => by
                                first
                                | (exact absurd (k_pre_le h9) hnp)
                                | (have e1 := ha8 s0 hi107_1
                                   have e2 := hi107_2 []
                                   rw [List.append_nil, List.append_nil, show k = tp.length by omega, List.take_length] at e2
                                   exact absurd ((e1.1 (e2.mpr h9)).symm.trans hc189) (by decide))
                                | omega, fun _ => rfl⟩, hR12, (z10.trans z4), fun p hp => ((oq11 p (by omega)).trans (oq5 p (by omega)))⟩ hL d_Model_automaton_197 (by omega) (by omega)
                            · refine lv_aload_n X.1.1 X.1.2.1 d_Model_automaton_183 rfl (gl_at hl rfl) ?_
                              refine g_get X kc_Model mo13 29 (by decide) lk_Model_78 rfl d_Model_automaton_184 ?_
                              refine lv_iload_n X.1.1 X.1.2.1 d_Model_automaton_187 rfl (gl_at hl rfl) ?_
                              have ma19 : va_at D CL (d + 22, .inl (q 1, 580, .inl (ar 22))) H8 := hR12.a22
                              refine g_zald X 1 ma19 rfl s0 (by omega) (by omega) d_Model_automaton_188 ?_
                              refine lv_if_eq X.1.1 X.1.2.1 d_Model_automaton_189 rfl (fun hc189 => ?_) (fun hc189 => ?_)
                              · refine lv_iconst (v := nI 0) X.1.1 X.1.2.1 d_Model_automaton_196 (by decide) ?_
                                exact g_iret X B ⟨⟨fun h9 => by
                                  first
                                  | (exact absurd (k_pre_le h9) hnp)
                                  | (have e1 := ha8 s0 hi107_1
                                     have e2 := hi107_2 []
                                     rw [List.append_nil, List.append_nil, show k = tp.length by omega, List.take_length] at e2
                                     exact absurd ((e1.1 (e2.mpr h9)).symm.trans hc189) (by decide))
                                  | omega, fun _ => rfl⟩, hR12, (z10.trans z4), fun p hp => ((oq11 p (by omega)).trans (oq5 p (by omega)))⟩ hL d_Model_automaton_197 (by omega) (by omega)
                              · refine lv_iconst (v := nI 1) X.1.1 X.1.2.1 d_Model_automaton_192 (by decide) ?_
                                refine lv_goto X.1.1 X.1.2.1 d_Model_automaton_193 rfl ?_
                                exact g_iret X B ⟨⟨fun _ => rfl, fun h9 => by
                                  have e1 := ha8 s0 hi107_1
                                  have e2 := hi107_2 []
                                  rw [List.append_nil, List.append_nil, show k = tp.length by omega, List.take_length] at e2
                                  exact absurd (e1.2 (fun h8 => h9 (e2.mp h8))) hc189⟩, hR12, (z10.trans z4), fun p hp => ((oq11 p (by omega)).trans (oq5 p (by omega)))⟩ hL d_Model_automaton_197 (by omega) (by omega)
                        · omega
                      · obtain ⟨t1, ht1a, ht1b, hgo1⟩ := hgo.resolve_right (fun h9 => hc131 h9.2)
                        refine lv_aload_n X.1.1 X.1.2.1 d_Model_automaton_134 rfl (gl_at hl rfl) ?_
                        refine lv_iload_n X.1.1 X.1.2.1 d_Model_automaton_135 rfl (gl_at hl rfl) ?_
                        refine lv_aload_n X.1.1 X.1.2.1 d_Model_automaton_136 rfl (gl_at hl rfl) ?_
                        refine g_get X kc_Model mo13 1 (by decide) lk_Model_7 rfl d_Model_automaton_137 ?_
                        refine lv_iload X.1.1 X.1.2.1 d_Model_automaton_140 (gl_at hl rfl) ?_
                        refine g_iald X 0 ma15 rfl k (by omega) (by omega) d_Model_automaton_142 ?_
                        refine g_top (nI (tp.getD k 0)) ((congrArg (ar 1) (by omega)).trans (ht.2.1 k (by omega))) ?_
                        refine g_cv (A := (fun p => d ≤ p ∧ p ≤ d + 28)) X gWS_good mw_Model_226 kc_Model mo13 (c_Model_go l D q H8 d (upd (upd w 0 (nI 0)) 2 (nI 0)) ar hR12 tN ha2 (by omega) (nI s0) (nI (tp.getD k 0))) (fun _ _ _ => trivial) gBlind.tt rfl rfl hl.1 (Nat.le_of_ble_eq_true rfl) rfl rfl ⟨by decide, by decide⟩ ⟨by decide, by decide⟩ d_Model_automaton_143 (fun _ h => h.elim) hL (fun v20 H21 locs hp22 hL => ?_)
                        obtain ⟨rfl, hHe⟩ := hp22
                        rw [hHe]
                        refine g_top (nI t1) hgo1 ?_
                        refine g_istn X.1.1 X.1.2.1 hl 3 d_Model_automaton_146 rfl (Nat.le_of_ble_eq_true rfl) rfl (fun ls hl => ?_)
                        refine g_iinc X.1.1 X.1.2.1 (nI (k + 1)) hl 4 d_Model_automaton_147 rfl (nI_1 _) rfl (fun ls hl => ?_)
                        refine lv_goto X.1.1 X.1.2.1 d_Model_automaton_150 rfl ?_
                        exact ih107 (k + 1) t1 locs ls (by omega) (by omega) ht1a (ht1b.trans (k_take hi107_2 (by omega))) hL hl
              exact loop107 _ 0 st0 locs ls (Nat.lt_succ_self _) (Nat.zero_le _) hb1 (by rw [List.take_zero]; exact hb3) hL hl
            · omega
          · omega
      · omega
    · omega
  · omega

theorem kf_Model : ∀ j, j < 39 → defaultValue (t_Model j) = vp_V [.int 0, .null, .int 0, .null, .null, .null, .null, .null, .int 0, .null, .null, .null, .null, .null, .null, .null, .null, .null, .null, .null, .int 0, .null, .int 0, .null, .null, .null, .int 0, .int 0, .int 0, .null, .null, .null, .null, .null, .int 0, .null, .null, .int 0, .int 0] j := kf_zero (by decide +kernel)