/-! the class SuffixOrder: printed by wip/specs/suffix.py -/
set_option maxHeartbeats 4000000 in
set_option maxRecDepth 100000 in
theorem c_SuffixOrder_init (l : Launch) (D : va_G) (q : Nat → ClassId) (H : Heap) (sb : Nat) (hz : H.size = sb + 1) (ho : va_at D CL (sb, .inr (8, [.null, .null])) H) : gC l y_SuffixOrder_init (Cond.code y_SuffixOrder_init b_SuffixOrder_init 1 none :: gWS) (gR 1 12 2 241) D CL (gY q) (fun _ => True) [.ref sb] H (fun v H1 => v = none ∧ va_at D CL (sb, .inr (8, [.ref (sb + 1), .ref (sb + 2)])) H1 ∧ (∃ F, va_at D CL (sb + 1, .inl (q 0, 120, .inl F)) H1) ∧ (∃ K, va_at D CL (sb + 2, .inl (q 0, 121, .inl K)) H1) ∧ H1.size = sb + 3 ∧ ∀ p : Nat, p < sb → H1[p]? = H[p]?) 2 241 (fun p => sb ≤ p) := by
  refine gC.ofW R_SuffixOrder "<init>" (by decide) rfl rfl ?_
  intro p e s m below meth c hadm X hE hH B hne
  refine g_entry [some (.ref sb)] rfl rfl (Nat.le_of_ble_eq_true rfl) (fun ls hl => ?_)
  refine lv_aload_n X.1.1 X.1.2.1 d_SuffixOrder_init_0 rfl (gl_at hl rfl) ?_
  refine W.objInit X.1.1 X.1.2.1 X.1.2.2.2.1 (X.1.2.2.2.2 _ mo_SuffixOrder_3.1) (X.1.2.2.2.2 _ mo_SuffixOrder_3.2.1) (X.1.2.2.2.2 _ mo_SuffixOrder_3.2.2) rfl (by rw [X.1.2.2.1]; exact hl.1) rfl d_SuffixOrder_init_1 (Nat.le_of_ble_eq_true rfl) (Nat.le_of_ble_eq_true rfl) ?_
  refine W.eq (g2 := F0 m 4 ls []) rfl ?_
  refine lv_aload_n X.1.1 X.1.2.1 d_SuffixOrder_init_4 rfl (gl_at hl rfl) ?_
  refine lv_bipush (v := nI 120) X.1.1 X.1.2.1 d_SuffixOrder_init_5 (by decide) ?_
  refine g_newi X 0 rfl ka_int 120 (by decide) (Nat.le_of_ble_eq_true rfl) (Nat.le_of_ble_eq_true rfl) d_SuffixOrder_init_7 (fun H1 h2 z3 o4 => ?_)
  rw [hz] at h2 z3 o4 ⊢
  replace ho := ho.kept (o4 _ (by omega))
  refine g_putF (A := (fun p => sb ≤ p)) X B.2.2 kc_SuffixOrder ho 0 (by decide) lk_SuffixOrder_9 rfl rfl rfl rfl (Nat.le_of_ble_eq_true rfl) d_SuffixOrder_init_9 (show sb ≤ _ by omega) (fun _ h => by cases h) (fun H5 locs h6 z7 oq8 hL => ?_)
  replace h2 := h2.kept (oq8 _ (by omega))
  have hz9 := z7.trans z3
  refine lv_aload_n X.1.1 X.1.2.1 d_SuffixOrder_init_12 rfl (gl_at hl rfl) ?_
  refine lv_bipush (v := nI 121) X.1.1 X.1.2.1 d_SuffixOrder_init_13 (by decide) ?_
  refine g_newi X 0 rfl ka_int 121 (by decide) (Nat.le_of_ble_eq_true rfl) (Nat.le_of_ble_eq_true rfl) d_SuffixOrder_init_15 (fun H10 h11 z12 o13 => ?_)
  rw [hz9] at h11 z12 o13 ⊢
  replace h6 := h6.kept (o13 _ (by omega))
  replace h2 := h2.kept (o13 _ (by omega))
  refine g_putF (A := (fun p => sb ≤ p)) X B.2.2 kc_SuffixOrder h6 1 (by decide) lk_SuffixOrder_15 rfl rfl rfl rfl (Nat.le_of_ble_eq_true rfl) d_SuffixOrder_init_17 (show sb ≤ _ by omega) hL (fun H14 locs h15 z16 oq17 hL => ?_)
  replace h2 := h2.kept (oq17 _ (by omega))
  replace h11 := h11.kept (oq17 _ (by omega))
  have hz18 := z16.trans z12
  exact g_vret X B ⟨rfl, h15, ⟨_, h2⟩, ⟨_, h11⟩, by omega, fun p hp => ((oq17 p (by omega)).trans ((o13 p (by omega)).trans ((oq8 p (by omega)).trans (o4 p (by omega)))))⟩ hL d_SuffixOrder_init_20 (by omega) (by omega)

noncomputable def sf_dec (xs : List Nat) (K : Nat → Int32) (i j : Nat) : Decidable (sf_less xs K i j) := Classical.propDecidable _

set_option maxHeartbeats 4000000 in
set_option maxRecDepth 100000 in
theorem c_SuffixOrder_isLess (l : Launch) (D : va_G) (q : Nat → ClassId) (H : Heap) (sb : Nat) (K : Nat → Int32) (ho : va_at D CL (sb, .inr (8, [.ref (sb + 1), .ref (sb + 2)])) H) (hK : va_at D CL (sb + 2, .inl (q 0, 121, .inl K)) H) (ca : Nat) (f : Nat → Int32) (hca : va_at D CL (ca, .inl (q 0, 120, .inl f)) H) (xs : List Nat) (hxl : xs.length ≤ 120) (hxc : ∀ x ∈ xs, x < 65536) (hf : tX f xs) (i j : Nat) (hi : i < xs.length) (hj : j < xs.length) : gC l y_SuffixOrder_isLess (Cond.code y_SuffixOrder_isLess b_SuffixOrder_isLess 4 (some .boolean) :: gWS) (gR 0 0 0 0) D CL (gY q) (fun _ => True) [.ref sb, .ref ca, .int (nI i), .int (nI j)] H (fun v H1 => v = some (.int (nI (@ite _ (sf_less xs K i j) (sf_dec xs K i j) 1 0))) ∧ H1 = H) 0 0 (fun _ => False) := by
  refine gC.ofW R_SuffixOrder "isLess" (by decide) rfl rfl ?_
  intro p e s m below meth c hadm X hE hH B hne
  refine g_entry [some (.ref sb), some (.ref ca), some (.int (nI i)), some (.int (nI j))] rfl rfl (Nat.le_of_ble_eq_true rfl) (fun ls hl => ?_)
  have e1 := t_lt hxc i
  have e2 := t_lt hxc j
  refine lv_aload_n X.1.1 X.1.2.1 d_SuffixOrder_isLess_0 rfl (gl_at hl rfl) ?_
  refine lv_iload_n X.1.1 X.1.2.1 d_SuffixOrder_isLess_1 rfl (gl_at hl rfl) ?_
  refine g_iald X 0 hca rfl i (by omega) (by decide) d_SuffixOrder_isLess_2 ?_
  refine g_top (nI (xs.getD i 0)) (hf _ (by omega)) ?_
  refine lv_aload_n X.1.1 X.1.2.1 d_SuffixOrder_isLess_3 rfl (gl_at hl rfl) ?_
  refine lv_iload_n X.1.1 X.1.2.1 d_SuffixOrder_isLess_4 rfl (gl_at hl rfl) ?_
  refine g_iald X 0 hca rfl j (by omega) (by decide) d_SuffixOrder_isLess_5 ?_
  refine g_top (nI (xs.getD j 0)) (hf _ (by omega)) ?_
  refine gn_eq X.1.1 X.1.2.1 (xs.getD i 0) (xs.getD j 0) (by omega) (by omega) d_SuffixOrder_isLess_6 rfl (fun hc6 => ?_) (fun hc6 => ?_)
  · refine lv_aload_n X.1.1 X.1.2.1 d_SuffixOrder_isLess_24 rfl (gl_at hl rfl) ?_
    refine g_get X kc_SuffixOrder ho 1 (by decide) lk_SuffixOrder_15 rfl d_SuffixOrder_isLess_25 ?_
    refine lv_iload_n X.1.1 X.1.2.1 d_SuffixOrder_isLess_28 rfl (gl_at hl rfl) ?_
    refine lv_iconst (v := nI 1) X.1.1 X.1.2.1 d_SuffixOrder_isLess_29 (by decide) ?_
    refine lv_iadd X.1.1 X.1.2.1 d_SuffixOrder_isLess_30 ?_
    refine g_top (nI (i + 1)) (nI_add _ _) ?_
    refine g_iald X 0 hK rfl (i + 1) (by omega) (by decide) d_SuffixOrder_isLess_31 ?_
    refine lv_aload_n X.1.1 X.1.2.1 d_SuffixOrder_isLess_32 rfl (gl_at hl rfl) ?_
    refine g_get X kc_SuffixOrder ho 1 (by decide) lk_SuffixOrder_15 rfl d_SuffixOrder_isLess_33 ?_
    refine lv_iload_n X.1.1 X.1.2.1 d_SuffixOrder_isLess_36 rfl (gl_at hl rfl) ?_
    refine lv_iconst (v := nI 1) X.1.1 X.1.2.1 d_SuffixOrder_isLess_37 (by decide) ?_
    refine lv_iadd X.1.1 X.1.2.1 d_SuffixOrder_isLess_38 ?_
    refine g_top (nI (j + 1)) (nI_add _ _) ?_
    refine g_iald X 0 hK rfl (j + 1) (by omega) (by decide) d_SuffixOrder_isLess_39 ?_
    refine lv_icmp_ge X.1.1 X.1.2.1 d_SuffixOrder_isLess_40 rfl (fun hc40 => ?_) (fun hc40 => ?_)
    · refine lv_iconst (v := nI 0) X.1.1 X.1.2.1 d_SuffixOrder_isLess_47 (by decide) ?_
      exact g_zret X B (by decide) ⟨by rw [if_neg (by unfold sf_less; rw [if_pos hc6]; exact Int32.not_lt.mpr hc40)], rfl⟩ (fun _ h => by cases h) d_SuffixOrder_isLess_48 (by omega) (by omega)
    · refine lv_iconst (v := nI 1) X.1.1 X.1.2.1 d_SuffixOrder_isLess_43 (by decide) ?_
      refine lv_goto X.1.1 X.1.2.1 d_SuffixOrder_isLess_44 rfl ?_
      exact g_zret X B (by decide) ⟨by rw [if_pos (by unfold sf_less; rw [if_pos hc6]; exact Int32.not_le.mp hc40)], rfl⟩ (fun _ h => by cases h) d_SuffixOrder_isLess_48 (by omega) (by omega)
  · refine lv_aload_n X.1.1 X.1.2.1 d_SuffixOrder_isLess_9 rfl (gl_at hl rfl) ?_
    refine lv_iload_n X.1.1 X.1.2.1 d_SuffixOrder_isLess_10 rfl (gl_at hl rfl) ?_
    refine g_iald X 0 hca rfl i (by omega) (by decide) d_SuffixOrder_isLess_11 ?_
    refine g_top (nI (xs.getD i 0)) (hf _ (by omega)) ?_
    refine lv_aload_n X.1.1 X.1.2.1 d_SuffixOrder_isLess_12 rfl (gl_at hl rfl) ?_
    refine lv_iload_n X.1.1 X.1.2.1 d_SuffixOrder_isLess_13 rfl (gl_at hl rfl) ?_
    refine g_iald X 0 hca rfl j (by omega) (by decide) d_SuffixOrder_isLess_14 ?_
    refine g_top (nI (xs.getD j 0)) (hf _ (by omega)) ?_
    refine gn_ge X.1.1 X.1.2.1 (xs.getD i 0) (xs.getD j 0) (by omega) (by omega) d_SuffixOrder_isLess_15 rfl (fun hc15 => ?_) (fun hc15 => ?_)
    · refine lv_iconst (v := nI 0) X.1.1 X.1.2.1 d_SuffixOrder_isLess_22 (by decide) ?_
      exact g_zret X B (by decide) ⟨by rw [if_neg (by unfold sf_less; rw [if_neg hc6]; omega)], rfl⟩ (fun _ h => by cases h) d_SuffixOrder_isLess_23 (by omega) (by omega)
    · refine lv_iconst (v := nI 1) X.1.1 X.1.2.1 d_SuffixOrder_isLess_18 (by decide) ?_
      refine lv_goto X.1.1 X.1.2.1 d_SuffixOrder_isLess_19 rfl ?_
      exact g_zret X B (by decide) ⟨by rw [if_pos (by unfold sf_less; rw [if_neg hc6]; exact hc15)], rfl⟩ (fun _ h => by cases h) d_SuffixOrder_isLess_23 (by omega) (by omega)

theorem sf_t {xs : List Nat} {K : Nat → Int32} {i j : Nat} (h : ¬ nI (@ite _ (sf_less xs K i j) (sf_dec xs K i j) 1 0) = 0) : sf_less xs K i j := @gz_t _ (sf_dec xs K i j) h
theorem sf_f {xs : List Nat} {K : Nat → Int32} {i j : Nat} (h : nI (@ite _ (sf_less xs K i j) (sf_dec xs K i j) 1 0) = 0) : ¬ sf_less xs K i j := @gz_f _ (sf_dec xs K i j) h

set_option maxHeartbeats 4000000 in
set_option maxRecDepth 100000 in
theorem c_SuffixOrder_sort (l : Launch) (D : va_G) (q : Nat → ClassId) (H : Heap) (sb : Nat) (Fa K0 : Nat → Int32) (ho : va_at D CL (sb, .inr (8, [.ref (sb + 1), .ref (sb + 2)])) H) (hs : va_at D CL (sb + 1, .inl (q 0, 120, .inl Fa)) H) (hK : va_at D CL (sb + 2, .inl (q 0, 121, .inl K0)) H) (ca : Nat) (f : Nat → Int32) (hca : va_at D CL (ca, .inl (q 0, 120, .inl f)) H) (hcs : ca < sb ∨ sb + 2 < ca) (xs : List Nat) (hxl : xs.length ≤ 120) (hxc : ∀ x ∈ xs, x < 65536) (hf : tX f xs) (n : Nat) (hn : n = xs.length) : gC l y_SuffixOrder_sort (Cond.code y_SuffixOrder_sort b_SuffixOrder_sort 5 none :: gWS) (gR 1 23 0 0) D CL (gY q) (fun _ => True) [.ref sb, .ref ca, .int (nI n)] H (fun v H1 => v = none ∧ (∃ F K st, va_at D CL (sb + 1, .inl (q 0, 120, .inl F)) H1 ∧ va_at D CL (sb + 2, .inl (q 0, 121, .inl K)) H1 ∧ sfP xs n n st ∧ ∀ j, j < n → F j = nI (st j)) ∧ H1.size = H.size ∧ ∀ p : Nat, ¬ (p = sb + 1 ∨ p = sb + 2) → H1[p]? = H[p]?) 0 0 (fun p => p = sb + 1 ∨ p = sb + 2) := by
  refine gC.ofW R_SuffixOrder "sort" (by decide) rfl rfl ?_
  intro p e s m below meth c hadm X hE hH B hne
  refine g_entry [some (.ref sb), some (.ref ca), some (.int (nI n)), none, none] rfl rfl (Nat.le_of_ble_eq_true rfl) (fun ls hl => ?_)
  have ho0 := ho
  have hca0 := hca
  refine lv_aload_n X.1.1 X.1.2.1 d_SuffixOrder_sort_0 rfl (gl_at hl rfl) ?_
  refine g_get X kc_SuffixOrder ho 1 (by decide) lk_SuffixOrder_15 rfl d_SuffixOrder_sort_1 ?_
  refine lv_iload_n X.1.1 X.1.2.1 d_SuffixOrder_sort_4 rfl (gl_at hl rfl) ?_
  refine lv_iconst (v := (-1)) X.1.1 X.1.2.1 d_SuffixOrder_sort_5 (by decide) ?_
  refine g_iast (A := (fun p => p = sb + 1 ∨ p = sb + 2)) X 0 hK rfl n (by omega) (by decide) d_SuffixOrder_sort_6 (show _ ∨ _ by omega) (fun _ h => by cases h) (fun H1 locs h2 z3 oq4 hL => ?_)
  replace ho := ho.kept (oq4 _ (by omega))
  replace hs := hs.kept (oq4 _ (by omega))
  replace hca := hca.kept (oq4 _ (by omega))
  refine lv_iload_n X.1.1 X.1.2.1 d_SuffixOrder_sort_7 rfl (gl_at hl rfl) ?_
  refine lv_iconst (v := nI 1) X.1.1 X.1.2.1 d_SuffixOrder_sort_8 (by decide) ?_
  refine lv_isub X.1.1 X.1.2.1 d_SuffixOrder_sort_9 ?_
  refine g_istn X.1.1 X.1.2.1 hl 3 d_SuffixOrder_sort_10 rfl (Nat.le_of_ble_eq_true rfl) rfl (fun ls hl => ?_)
  have loop11 : ∀ (fu : Nat) (k : Nat) (F : Nat → Int32) (K : Nat → Int32) (st : Nat → Nat) (Hn : Heap) (locs : List Loc) (ls : Array Slot), k < fu → (k ≤ n) → (sfP xs n (n - k) st) → (sfI F K n (n - k) (n - k) st) → (va_at D CL (sb + 1, .inl (q 0, 120, .inl F)) Hn) → (va_at D CL (sb + 2, .inl (q 0, 121, .inl K)) Hn) → (∀ p : Nat, ¬ (p = sb + 1 ∨ p = sb + 2) → Hn[p]? = H[p]?) → (Hn.size = H.size) → (∀ x ∈ locs, (fun p => p = sb + 1 ∨ p = sb + 2) x.base) → gl ls [some (.ref sb), some (.ref ca), some (.int (nI n)), some (.int (nI k - 1)), none] → W p l e (gR 1 23 0 0) s m ([.ref sb, .ref ca, .int (nI n)] : List Value).toArray below meth c Hn locs 0 0 (gQ below ([.ref sb, .ref ca, .int (nI n)] : List Value).toArray s (fun v H1 => v = none ∧ (∃ F K st, va_at D CL (sb + 1, .inl (q 0, 120, .inl F)) H1 ∧ va_at D CL (sb + 2, .inl (q 0, 121, .inl K)) H1 ∧ sfP xs n n st ∧ ∀ j, j < n → F j = nI (st j)) ∧ H1.size = H.size ∧ ∀ p : Nat, ¬ (p = sb + 1 ∨ p = sb + 2) → H1[p]? = H[p]?) 0 0 (fun p => p = sb + 1 ∨ p = sb + 2)) (F0 m 11 ls []) := by
    intro fu
    induction fu with
    | zero => intro k F K st Hn locs ls hmu; omega
    | succ fu ih11 =>
      intro k F K st Hn locs ls hmu11 hi11_0 hi11_1 hi11_2 hs hK fr zz hL hl
      have ho := ho0.kept (fr sb (by omega))
      have hca := va_at.kept hca0 (fr ca (by omega))
      refine lv_iload_n X.1.1 X.1.2.1 d_SuffixOrder_sort_11 rfl (gl_at hl rfl) ?_
      refine lv_if_lt X.1.1 X.1.2.1 d_SuffixOrder_sort_12 rfl (fun hc12 => ?_) (fun hc12 => ?_)
      · have e9 := gs_lt (by omega) hc12
        subst e9
        exact g_vret X B ⟨rfl, ⟨F, K, st, hs, hK, hi11_1, hi11_2.1⟩, zz, fr⟩ hL d_SuffixOrder_sort_103 (by omega) (by omega)
      · have hk0 := gs_nlt hc12
        rw [gs_pos hk0] at hl
        refine lv_iload_n X.1.1 X.1.2.1 d_SuffixOrder_sort_15 rfl (gl_at hl rfl) ?_
        refine lv_iconst (v := nI 1) X.1.1 X.1.2.1 d_SuffixOrder_sort_16 (by decide) ?_
        refine lv_isub X.1.1 X.1.2.1 d_SuffixOrder_sort_17 ?_
        refine g_top (nI (n - 1)) (pk_sub (by omega)) ?_
        refine lv_iload_n X.1.1 X.1.2.1 d_SuffixOrder_sort_18 rfl (gl_at hl rfl) ?_
        refine lv_isub X.1.1 X.1.2.1 d_SuffixOrder_sort_19 ?_
        refine g_top (nI ((n - 1) - (k - 1))) (pk_sub (by omega)) ?_
        refine g_top (nI (n - k)) (by congr 1; omega) ?_
        refine g_ist X.1.1 X.1.2.1 hl 4 d_SuffixOrder_sort_20 (Nat.le_of_ble_eq_true rfl) rfl (fun ls hl => ?_)
        have loop22 : ∀ (fu : Nat) (r : Nat) (F : Nat → Int32) (K : Nat → Int32) (Hn : Heap) (locs : List Loc) (ls : Array Slot), r < fu → (r ≤ n - k) → (True) → (sfI F K n (n - k) r st) → (∀ i, r ≤ i → i < n - k → t_ord (xs.drop (n - (n - k) - 1)) (xs.drop (st i)) < 0) → (va_at D CL (sb + 1, .inl (q 0, 120, .inl F)) Hn) → (va_at D CL (sb + 2, .inl (q 0, 121, .inl K)) Hn) → (∀ p : Nat, ¬ (p = sb + 1 ∨ p = sb + 2) → Hn[p]? = H[p]?) → (Hn.size = H.size) → (∀ x ∈ locs, (fun p => p = sb + 1 ∨ p = sb + 2) x.base) → gl ls [some (.ref sb), some (.ref ca), some (.int (nI n)), some (.int (nI (k - 1))), some (.int (nI r))] → W p l e (gR 1 23 0 0) s m ([.ref sb, .ref ca, .int (nI n)] : List Value).toArray below meth c Hn locs 0 0 (gQ below ([.ref sb, .ref ca, .int (nI n)] : List Value).toArray s (fun v H1 => v = none ∧ (∃ F K st, va_at D CL (sb + 1, .inl (q 0, 120, .inl F)) H1 ∧ va_at D CL (sb + 2, .inl (q 0, 121, .inl K)) H1 ∧ sfP xs n n st ∧ ∀ j, j < n → F j = nI (st j)) ∧ H1.size = H.size ∧ ∀ p : Nat, ¬ (p = sb + 1 ∨ p = sb + 2) → H1[p]? = H[p]?) 0 0 (fun p => p = sb + 1 ∨ p = sb + 2)) (F0 m 22 ls []) := by
          intro fu
          induction fu with
          | zero => intro r F K Hn locs ls hmu; omega
          | succ fu ih22 =>
            intro r F K Hn locs ls hmu22 hi22_0 hi22_1 hi22_2 hi22_3 hs hK fr zz hL hl
            have ho := ho0.kept (fr sb (by omega))
            have hca := va_at.kept hca0 (fr ca (by omega))
            refine lv_iload X.1.1 X.1.2.1 d_SuffixOrder_sort_22 (gl_at hl rfl) ?_
            refine gn_le0 X.1.1 X.1.2.1 r (by omega) d_SuffixOrder_sort_24 rfl (fun hc24 => ?_) (fun hc24 => ?_)
            · have hnew : 0 < r → ¬ t_ord (xs.drop (n - (n - k) - 1)) (xs.drop (st (r - 1))) < 0 := by first | (intro h9; omega) | (intro h9; rw [← sf_less_iff hn (by omega) hi11_1 hi22_2 (by omega) (by omega), show n - (n - k) - 1 = k - 1 by omega]; exact sf_f hc42)
              refine lv_aload_n X.1.1 X.1.2.1 d_SuffixOrder_sort_81 rfl (gl_at hl rfl) ?_
              refine g_get X kc_SuffixOrder ho 0 (by decide) lk_SuffixOrder_9 rfl d_SuffixOrder_sort_82 ?_
              refine lv_iload X.1.1 X.1.2.1 d_SuffixOrder_sort_85 (gl_at hl rfl) ?_
              refine lv_iload_n X.1.1 X.1.2.1 d_SuffixOrder_sort_87 rfl (gl_at hl rfl) ?_
              refine g_iast (A := (fun p => p = sb + 1 ∨ p = sb + 2)) X 0 hs rfl r (by omega) (by decide) d_SuffixOrder_sort_88 (show _ ∨ _ by omega) hL (fun H5 locs h6 z7 oq8 hL => ?_)
              replace ho := ho.kept (oq8 _ (by omega))
              replace hK := hK.kept (oq8 _ (by omega))
              replace hca := hca.kept (oq8 _ (by omega))
              refine lv_aload_n X.1.1 X.1.2.1 d_SuffixOrder_sort_89 rfl (gl_at hl rfl) ?_
              refine g_get X kc_SuffixOrder ho 1 (by decide) lk_SuffixOrder_15 rfl d_SuffixOrder_sort_90 ?_
              refine lv_iload_n X.1.1 X.1.2.1 d_SuffixOrder_sort_93 rfl (gl_at hl rfl) ?_
              refine lv_iload X.1.1 X.1.2.1 d_SuffixOrder_sort_94 (gl_at hl rfl) ?_
              refine g_iast (A := (fun p => p = sb + 1 ∨ p = sb + 2)) X 0 hK rfl (k - 1) (by omega) (by decide) d_SuffixOrder_sort_96 (show _ ∨ _ by omega) hL (fun H9 locs h10 z11 oq12 hL => ?_)
              replace ho := ho.kept (oq12 _ (by omega))
              replace h6 := h6.kept (oq12 _ (by omega))
              replace hca := hca.kept (oq12 _ (by omega))
              refine g_iinc X.1.1 X.1.2.1 (nI (k - 1) - 1) hl 3 d_SuffixOrder_sort_97 rfl (gs_inc _) rfl (fun ls hl => ?_)
              refine lv_goto X.1.1 X.1.2.1 d_SuffixOrder_sort_100 rfl ?_
              exact ih11 (k - 1) (upd F r (nI (k - 1))) (upd K (k - 1) (nI r)) (sf_ins st r (k - 1)) H9 locs ls (by omega) (by omega) (by have h9 := sfP_new hn hi11_1 hi22_0 (by omega) hi22_3 hnew; rw [show n - (n - k) - 1 = k - 1 by omega, show n - k + 1 = n - (k - 1) by omega] at h9; exact h9) (by have h9 := sfI_new hi11_1 hi22_2 hi22_0 (by omega); rw [show n - (n - k) - 1 = k - 1 by omega, show n - k + 1 = n - (k - 1) by omega] at h9; exact h9) h6 h10 (fun p hp => ((oq12 p (by omega)).trans ((oq8 p (by omega)).trans (fr p hp)))) (z11.trans (z7.trans zz)) hL (gl_forget hl 4)
            · refine lv_aload_n X.1.1 X.1.2.1 d_SuffixOrder_sort_27 rfl (gl_at hl rfl) ?_
              refine lv_aload_n X.1.1 X.1.2.1 d_SuffixOrder_sort_28 rfl (gl_at hl rfl) ?_
              refine lv_iload_n X.1.1 X.1.2.1 d_SuffixOrder_sort_29 rfl (gl_at hl rfl) ?_
              refine lv_aload_n X.1.1 X.1.2.1 d_SuffixOrder_sort_30 rfl (gl_at hl rfl) ?_
              refine g_get X kc_SuffixOrder ho 0 (by decide) lk_SuffixOrder_9 rfl d_SuffixOrder_sort_31 ?_
              refine lv_iload X.1.1 X.1.2.1 d_SuffixOrder_sort_34 (gl_at hl rfl) ?_
              refine lv_iconst (v := nI 1) X.1.1 X.1.2.1 d_SuffixOrder_sort_36 (by decide) ?_
              refine lv_isub X.1.1 X.1.2.1 d_SuffixOrder_sort_37 ?_
              refine g_top (nI (r - 1)) (pk_sub (by omega)) ?_
              refine g_iald X 0 hs rfl (r - 1) (by omega) (by decide) d_SuffixOrder_sort_38 ?_
              have hb9 := hi11_1.1 (r - 1) (by omega)
              refine g_top (nI (st (r - 1))) (hi22_2.1 (r - 1) (by omega)) ?_
              refine g_cv (A := (fun p => p = sb + 1 ∨ p = sb + 2)) X gWS_good mw_SuffixOrder_18 kc_SuffixOrder ho (c_SuffixOrder_isLess l D q Hn sb K ho hK ca f hca xs hxl hxc hf (k - 1) (st (r - 1)) (by omega) (by have h9 := (hi11_1.1 (r - 1) (by omega)).2; omega)) (fun _ _ _ => trivial) gBlind.tt rfl rfl hl.1 (Nat.le_of_ble_eq_true rfl) rfl rfl ⟨by decide, by decide⟩ ⟨by decide, by decide⟩ d_SuffixOrder_sort_39 (fun _ h => h.elim) hL (fun v13 H14 locs hp15 hL => ?_)
              obtain ⟨rfl, hHe⟩ := hp15
              rw [hHe]
              refine lv_if_eq X.1.1 X.1.2.1 d_SuffixOrder_sort_42 rfl (fun hc42 => ?_) (fun hc42 => ?_)
              · have hnew : 0 < r → ¬ t_ord (xs.drop (n - (n - k) - 1)) (xs.drop (st (r - 1))) < 0 := by first | (intro h9; omega) | (intro h9; rw [← sf_less_iff hn (by omega) hi11_1 hi22_2 (by omega) (by omega), show n - (n - k) - 1 = k - 1 by omega]; exact sf_f hc42)
                refine lv_aload_n X.1.1 X.1.2.1 d_SuffixOrder_sort_81 rfl (gl_at hl rfl) ?_
                refine g_get X kc_SuffixOrder ho 0 (by decide) lk_SuffixOrder_9 rfl d_SuffixOrder_sort_82 ?_
                refine lv_iload X.1.1 X.1.2.1 d_SuffixOrder_sort_85 (gl_at hl rfl) ?_
                refine lv_iload_n X.1.1 X.1.2.1 d_SuffixOrder_sort_87 rfl (gl_at hl rfl) ?_
                refine g_iast (A := (fun p => p = sb + 1 ∨ p = sb + 2)) X 0 hs rfl r (by omega) (by decide) d_SuffixOrder_sort_88 (show _ ∨ _ by omega) hL (fun H16 locs h17 z18 oq19 hL => ?_)
                replace ho := ho.kept (oq19 _ (by omega))
                replace hK := hK.kept (oq19 _ (by omega))
                replace hca := hca.kept (oq19 _ (by omega))
                refine lv_aload_n X.1.1 X.1.2.1 d_SuffixOrder_sort_89 rfl (gl_at hl rfl) ?_
                refine g_get X kc_SuffixOrder ho 1 (by decide) lk_SuffixOrder_15 rfl d_SuffixOrder_sort_90 ?_
                refine lv_iload_n X.1.1 X.1.2.1 d_SuffixOrder_sort_93 rfl (gl_at hl rfl) ?_
                refine lv_iload X.1.1 X.1.2.1 d_SuffixOrder_sort_94 (gl_at hl rfl) ?_
                refine g_iast (A := (fun p => p = sb + 1 ∨ p = sb + 2)) X 0 hK rfl (k - 1) (by omega) (by decide) d_SuffixOrder_sort_96 (show _ ∨ _ by omega) hL (fun H20 locs h21 z22 oq23 hL => ?_)
                replace ho := ho.kept (oq23 _ (by omega))
                replace h17 := h17.kept (oq23 _ (by omega))
                replace hca := hca.kept (oq23 _ (by omega))
                refine g_iinc X.1.1 X.1.2.1 (nI (k - 1) - 1) hl 3 d_SuffixOrder_sort_97 rfl (gs_inc _) rfl (fun ls hl => ?_)
                refine lv_goto X.1.1 X.1.2.1 d_SuffixOrder_sort_100 rfl ?_
                exact ih11 (k - 1) (upd F r (nI (k - 1))) (upd K (k - 1) (nI r)) (sf_ins st r (k - 1)) H20 locs ls (by omega) (by omega) (by have h9 := sfP_new hn hi11_1 hi22_0 (by omega) hi22_3 hnew; rw [show n - (n - k) - 1 = k - 1 by omega, show n - k + 1 = n - (k - 1) by omega] at h9; exact h9) (by have h9 := sfI_new hi11_1 hi22_2 hi22_0 (by omega); rw [show n - (n - k) - 1 = k - 1 by omega, show n - k + 1 = n - (k - 1) by omega] at h9; exact h9) h17 h21 (fun p hp => ((oq23 p (by omega)).trans ((oq19 p (by omega)).trans (fr p hp)))) (z22.trans (z18.trans zz)) hL (gl_forget hl 4)
              · refine lv_aload_n X.1.1 X.1.2.1 d_SuffixOrder_sort_45 rfl (gl_at hl rfl) ?_
                refine g_get X kc_SuffixOrder ho 0 (by decide) lk_SuffixOrder_9 rfl d_SuffixOrder_sort_46 ?_
                refine lv_iload X.1.1 X.1.2.1 d_SuffixOrder_sort_49 (gl_at hl rfl) ?_
                refine lv_aload_n X.1.1 X.1.2.1 d_SuffixOrder_sort_51 rfl (gl_at hl rfl) ?_
                refine g_get X kc_SuffixOrder ho 0 (by decide) lk_SuffixOrder_9 rfl d_SuffixOrder_sort_52 ?_
                refine lv_iload X.1.1 X.1.2.1 d_SuffixOrder_sort_55 (gl_at hl rfl) ?_
                refine lv_iconst (v := nI 1) X.1.1 X.1.2.1 d_SuffixOrder_sort_57 (by decide) ?_
                refine lv_isub X.1.1 X.1.2.1 d_SuffixOrder_sort_58 ?_
                refine g_top (nI (r - 1)) (pk_sub (by omega)) ?_
                refine g_iald X 0 hs rfl (r - 1) (by omega) (by decide) d_SuffixOrder_sort_59 ?_
                refine g_top (nI (st (r - 1))) (hi22_2.1 (r - 1) (by omega)) ?_
                refine g_iast (A := (fun p => p = sb + 1 ∨ p = sb + 2)) X 0 hs rfl r (by omega) (by decide) d_SuffixOrder_sort_60 (show _ ∨ _ by omega) hL (fun H24 locs h25 z26 oq27 hL => ?_)
                replace ho := ho.kept (oq27 _ (by omega))
                replace hK := hK.kept (oq27 _ (by omega))
                replace hca := hca.kept (oq27 _ (by omega))
                refine lv_aload_n X.1.1 X.1.2.1 d_SuffixOrder_sort_61 rfl (gl_at hl rfl) ?_
                refine g_get X kc_SuffixOrder ho 1 (by decide) lk_SuffixOrder_15 rfl d_SuffixOrder_sort_62 ?_
                refine lv_aload_n X.1.1 X.1.2.1 d_SuffixOrder_sort_65 rfl (gl_at hl rfl) ?_
                refine g_get X kc_SuffixOrder ho 0 (by decide) lk_SuffixOrder_9 rfl d_SuffixOrder_sort_66 ?_
                refine lv_iload X.1.1 X.1.2.1 d_SuffixOrder_sort_69 (gl_at hl rfl) ?_
                refine g_iald X 0 h25 rfl r (by omega) (by decide) d_SuffixOrder_sort_71 ?_
                refine g_top (nI (st (r - 1))) pk_us ?_
                refine lv_iload X.1.1 X.1.2.1 d_SuffixOrder_sort_72 (gl_at hl rfl) ?_
                refine g_iast (A := (fun p => p = sb + 1 ∨ p = sb + 2)) X 0 hK rfl (st (r - 1)) (by omega) (by decide) d_SuffixOrder_sort_74 (show _ ∨ _ by omega) hL (fun H28 locs h29 z30 oq31 hL => ?_)
                replace ho := ho.kept (oq31 _ (by omega))
                replace h25 := h25.kept (oq31 _ (by omega))
                replace hca := hca.kept (oq31 _ (by omega))
                refine g_iinc X.1.1 X.1.2.1 (nI (r - 1)) hl 4 d_SuffixOrder_sort_75 rfl (gn_dec 1 (by omega)) rfl (fun ls hl => ?_)
                refine lv_goto X.1.1 X.1.2.1 d_SuffixOrder_sort_78 rfl ?_
                exact ih22 (r - 1) (upd F r (nI (st (r - 1)))) (upd K (st (r - 1)) (nI r)) H28 locs ls (by omega) (by omega) trivial (sfI_step hi11_1 hi22_2 (by omega) hi22_0) (fun i h1 h2 => by
                  by_cases h9 : i = r - 1
                  · rw [h9, ← sf_less_iff hn (by omega) hi11_1 hi22_2 (by omega) (by omega), show n - (n - k) - 1 = k - 1 by omega]
                    exact sf_t hc42
                  · exact hi22_3 i (by omega) h2) h25 h29 (fun p hp => ((oq31 p (by omega)).trans ((oq27 p (by omega)).trans (fr p hp)))) (z30.trans (z26.trans zz)) hL hl
        exact loop22 _ (n - k) F K Hn locs ls (Nat.lt_succ_self _) (Nat.le_refl _) trivial hi11_2 (fun i h1 h2 => by omega) hs hK (fun p hp => (fr p hp)) zz hL hl
  exact loop11 _ n Fa (upd K0 n (-1)) (fun _ => 0) H1 locs ls (Nat.lt_succ_self _) (Nat.le_refl _) (by rw [Nat.sub_self]; exact sfP_0 xs n _) (by rw [Nat.sub_self]; exact ⟨fun j h => absurd h (Nat.not_lt_zero j), fun j h1 h2 => by omega, fun i h => absurd h (Nat.not_lt_zero i), pk_us⟩) hs h2 (fun p hp => (oq4 p (by omega))) z3 hL hl
