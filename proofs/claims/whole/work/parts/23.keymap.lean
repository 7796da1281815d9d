/-! the class KeyMap: printed by wip/specs/keymap.py -/
set_option maxHeartbeats 4000000 in
set_option maxRecDepth 100000 in
/-- countLess: how many stand before -/
theorem c_KeyMap_countLess (l : Launch) (D : va_G) (q : Nat → ClassId) (H : Heap) (mb n : Nat) (ks : Nat → List Nat) (vs : Nat → Int32) (chg : Nat) (hm : mA D q H mb n ks vs chg) (b : Nat) (ys : List Nat) (hys : kA D q H b ys) : gC l y_KeyMap_countLess (Cond.code y_KeyMap_countLess b_KeyMap_countLess 3 (some .int) :: gWS) (gR 2 44 0 0) D CL (gY q) (fun _ => True) [.ref mb, .ref b] H (fun v H1 => ∃ r : Nat, v = some (.int (nI r)) ∧ r ≤ n ∧ (∀ j, j < r → t_ord (ks j) ys < 0) ∧ (r < n → 0 ≤ t_ord (ks r) ys) ∧ H1 = H) 0 0 (fun _ => False) := by
  refine gC.ofW R_KeyMap "countLess" (by decide) rfl rfl ?_
  intro p e s m below meth c hadm X hE hH B hne
  refine g_entry [some (.ref mb), some (.ref b), none] rfl rfl (Nat.le_of_ble_eq_true rfl) (fun ls hl => ?_)
  obtain ⟨ho, hn, ⟨f, g, hf, hfg, hg, hgi, hks⟩, hv⟩ := hm
  refine lv_iconst (v := nI 0) X.1.1 X.1.2.1 d_KeyMap_countLess_0 (by decide) ?_
  refine g_istn X.1.1 X.1.2.1 hl 2 d_KeyMap_countLess_1 rfl (Nat.le_of_ble_eq_true rfl) rfl (fun ls hl => ?_)
  have loop2 : ∀ (fu : Nat) (i : Nat) (locs : List Loc) (ls : Array Slot), n - i < fu → (i ≤ n) → (∀ j, j < i → t_ord (ks j) ys < 0) → (∀ x ∈ locs, (fun _ => False) x.base) → gl ls [some (.ref mb), some (.ref b), some (.int (nI i))] → W p l e (gR 2 44 0 0) s m ([.ref mb, .ref b] : List Value).toArray below meth c H locs 0 0 (gQ below ([.ref mb, .ref b] : List Value).toArray s (fun v H1 => ∃ r : Nat, v = some (.int (nI r)) ∧ r ≤ n ∧ (∀ j, j < r → t_ord (ks j) ys < 0) ∧ (r < n → 0 ≤ t_ord (ks r) ys) ∧ H1 = H) 0 0 (fun _ => False)) (F0 m 2 ls []) := by
    intro fu
    induction fu with
    | zero => intro i locs ls hmu; omega
    | succ fu ih2 =>
      intro i locs ls hmu2 hi2_0 hi2_1 hL hl
      refine lv_iload_n X.1.1 X.1.2.1 d_KeyMap_countLess_2 rfl (gl_at hl rfl) ?_
      refine lv_aload_n X.1.1 X.1.2.1 d_KeyMap_countLess_3 rfl (gl_at hl rfl) ?_
      refine g_get X kc_KeyMap ho 2 (by decide) lk_KeyMap_22 rfl d_KeyMap_countLess_4 ?_
      refine gn_ge X.1.1 X.1.2.1 i n (by omega) (by omega) d_KeyMap_countLess_7 rfl (fun hc7 => ?_) (fun hc7 => ?_)
      · refine lv_iload_n X.1.1 X.1.2.1 d_KeyMap_countLess_29 rfl (gl_at hl rfl) ?_
        exact g_iret X B ⟨i, rfl, by omega, hi2_1, by first | (intro h9; omega) | (intro h9; rw [← hr]; exact gi_ge hc20), rfl⟩ hL d_KeyMap_countLess_30 (by omega) (by omega)
      · refine lv_aload_n X.1.1 X.1.2.1 d_KeyMap_countLess_10 rfl (gl_at hl rfl) ?_
        refine g_get X kc_KeyMap ho 0 (by decide) lk_KeyMap_11 rfl d_KeyMap_countLess_11 ?_
        refine lv_iload_n X.1.1 X.1.2.1 d_KeyMap_countLess_14 rfl (gl_at hl rfl) ?_
        refine g_aald X 3 hf rfl i (by omega) (by decide) (v := .ref (g i)) (by rw [hfg _ (by omega)]; rfl) d_KeyMap_countLess_15 ?_
        refine lv_aload_n X.1.1 X.1.2.1 d_KeyMap_countLess_16 rfl (gl_at hl rfl) ?_
        refine g_cv (A := (fun _ => False)) X gWS_good mw_KeyMap_26 kc_Key (hks i (by omega)).1 (c_Key_order l D q H (g i) b (ks i) ys (hks i (by omega)) hys) (fun _ _ _ => trivial) gBlind.tt rfl rfl hl.1 (Nat.le_of_ble_eq_true rfl) rfl rfl ⟨by decide, by decide⟩ ⟨by decide, by decide⟩ d_KeyMap_countLess_17 (fun _ h => h.elim) hL (fun v1 H2 locs hp3 hL => ?_)
        obtain ⟨r, rfl, hr, hHe⟩ := hp3
        rw [hHe]
        refine lv_if_ge X.1.1 X.1.2.1 d_KeyMap_countLess_20 rfl (fun hc20 => ?_) (fun hc20 => ?_)
        · refine lv_iload_n X.1.1 X.1.2.1 d_KeyMap_countLess_29 rfl (gl_at hl rfl) ?_
          exact g_iret X B ⟨i, rfl, by omega, hi2_1, by first | (intro h9; omega) | (intro h9; rw [← hr]; exact gi_ge hc20), rfl⟩ hL d_KeyMap_countLess_30 (by omega) (by omega)
        · refine g_iinc X.1.1 X.1.2.1 (nI (i + 1)) hl 2 d_KeyMap_countLess_23 rfl (nI_1 _) rfl (fun ls hl => ?_)
          refine lv_goto X.1.1 X.1.2.1 d_KeyMap_countLess_26 rfl ?_
          exact ih2 (i + 1) locs ls (by omega) hc7 (lt_s hi2_1 (by rw [← hr]; exact gi_nge hc20)) hL hl
  exact loop2 _ 0 [] ls (Nat.lt_succ_self _) (Nat.zero_le _) (fun j hj => absurd hj (Nat.not_lt_zero j)) (fun _ h => by cases h) hl

set_option maxHeartbeats 4000000 in
set_option maxRecDepth 100000 in
/-- placeOf -/
theorem c_KeyMap_placeOf (l : Launch) (D : va_G) (q : Nat → ClassId) (H : Heap) (mb n : Nat) (ks : Nat → List Nat) (vs : Nat → Int32) (chg : Nat) (hm : mA D q H mb n ks vs chg) (hs : mS n ks) (b : Nat) (ys : List Nat) (hys : kA D q H b ys) : gC l y_KeyMap_placeOf (Cond.code y_KeyMap_placeOf b_KeyMap_placeOf 3 (some .int) :: gWS) (gR 3 66 0 0) D CL (gY q) (fun _ => True) [.ref mb, .ref b] H (fun v H1 => ((∃ r : Nat, r < n ∧ v = some (.int (nI r)) ∧ ks r = ys) ∨ (v = some (.int (-1)) ∧ ∀ j, j < n → ks j ≠ ys)) ∧ H1 = H) 0 0 (fun _ => False) := by
  refine gC.ofW R_KeyMap "placeOf" (by decide) rfl rfl ?_
  intro p e s m below meth c hadm X hE hH B hne
  refine g_entry [some (.ref mb), some (.ref b), none] rfl rfl (Nat.le_of_ble_eq_true rfl) (fun ls hl => ?_)
  have hm0 := hm
  obtain ⟨ho, hn, ⟨f, g, hf, hfg, hg, hgi, hks⟩, hv⟩ := hm
  have hm := hm0
  refine lv_aload_n X.1.1 X.1.2.1 d_KeyMap_placeOf_0 rfl (gl_at hl rfl) ?_
  refine lv_aload_n X.1.1 X.1.2.1 d_KeyMap_placeOf_1 rfl (gl_at hl rfl) ?_
  refine g_cv (A := (fun _ => False)) X gWS_good mw_KeyMap_30 kc_KeyMap ho (c_KeyMap_countLess l D q H mb n ks vs chg hm b ys hys) (fun _ _ _ => trivial) gBlind.tt rfl rfl hl.1 (Nat.le_of_ble_eq_true rfl) rfl rfl ⟨by decide, by decide⟩ ⟨by decide, by decide⟩ d_KeyMap_placeOf_2 (fun _ h => h.elim) (fun _ h => by cases h) (fun v1 H2 locs hp3 hL => ?_)
  obtain ⟨r, rfl, hrn, hr1, hr2, hHe⟩ := hp3
  rw [hHe]
  refine g_istn X.1.1 X.1.2.1 hl 2 d_KeyMap_placeOf_5 rfl (Nat.le_of_ble_eq_true rfl) rfl (fun ls hl => ?_)
  refine lv_iload_n X.1.1 X.1.2.1 d_KeyMap_placeOf_6 rfl (gl_at hl rfl) ?_
  refine lv_aload_n X.1.1 X.1.2.1 d_KeyMap_placeOf_7 rfl (gl_at hl rfl) ?_
  refine g_get X kc_KeyMap ho 2 (by decide) lk_KeyMap_22 rfl d_KeyMap_placeOf_8 ?_
  refine gn_ge X.1.1 X.1.2.1 r n (by omega) (by omega) d_KeyMap_placeOf_11 rfl (fun hc11 => ?_) (fun hc11 => ?_)
  · refine lv_iconst (v := (-1)) X.1.1 X.1.2.1 d_KeyMap_placeOf_31 (by decide) ?_
    exact g_iret X B ⟨Or.inr ⟨rfl, mS_none hs hr1 (fun h => by omega)⟩, rfl⟩ hL d_KeyMap_placeOf_32 (by omega) (by omega)
  · refine lv_aload_n X.1.1 X.1.2.1 d_KeyMap_placeOf_14 rfl (gl_at hl rfl) ?_
    refine g_get X kc_KeyMap ho 0 (by decide) lk_KeyMap_11 rfl d_KeyMap_placeOf_15 ?_
    refine lv_iload_n X.1.1 X.1.2.1 d_KeyMap_placeOf_18 rfl (gl_at hl rfl) ?_
    refine g_aald X 3 hf rfl r (by omega) (by decide) (v := .ref (g r)) (by rw [hfg _ (by omega)]; rfl) d_KeyMap_placeOf_19 ?_
    refine lv_aload_n X.1.1 X.1.2.1 d_KeyMap_placeOf_20 rfl (gl_at hl rfl) ?_
    refine g_cv (A := (fun _ => False)) X gWS_good mw_KeyMap_26 kc_Key (hks r (by omega)).1 (c_Key_order l D q H (g r) b (ks r) ys (hks r (by omega)) hys) (fun _ _ _ => trivial) gBlind.tt rfl rfl hl.1 (Nat.le_of_ble_eq_true rfl) rfl rfl ⟨by decide, by decide⟩ ⟨by decide, by decide⟩ d_KeyMap_placeOf_21 (fun _ h => h.elim) hL (fun v4 H5 locs hp6 hL => ?_)
    obtain ⟨o, rfl, ho9, hHe⟩ := hp6
    rw [hHe]
    refine lv_if_ne X.1.1 X.1.2.1 d_KeyMap_placeOf_24 rfl (fun hc24 => ?_) (fun hc24 => ?_)
    · refine lv_iconst (v := (-1)) X.1.1 X.1.2.1 d_KeyMap_placeOf_31 (by decide) ?_
      exact g_iret X B ⟨Or.inr ⟨rfl, mS_none hs hr1 (fun h => by have h8 := hr2 h; have h9 := gi_ne hc24; omega)⟩, rfl⟩ hL d_KeyMap_placeOf_32 (by omega) (by omega)
    · refine lv_iload_n X.1.1 X.1.2.1 d_KeyMap_placeOf_27 rfl (gl_at hl rfl) ?_
      refine lv_goto X.1.1 X.1.2.1 d_KeyMap_placeOf_28 rfl ?_
      exact g_iret X B ⟨Or.inl ⟨r, hc11, rfl, t_ord_eq _ _ (by rw [← ho9]; exact gi_eq hc24)⟩, rfl⟩ hL d_KeyMap_placeOf_32 (by omega) (by omega)

set_option maxHeartbeats 4000000 in
set_option maxRecDepth 100000 in
/-- add: a key that is not there, to a map that is not full -/
theorem c_KeyMap_add (l : Launch) (D : va_G) (q : Nat → ClassId) (H : Heap) (mb n : Nat) (ks : Nat → List Nat) (vs : Nat → Int32) (chg : Nat) (hm : mA D q H mb n ks vs chg) (hn64 : n < 64) (b : Nat) (ys : List Nat) (hys : kA D q H b ys) (hb : b + 1 < mb ∨ mb + 130 < b) (x : Int32) : gC l y_KeyMap_add (Cond.code y_KeyMap_add b_KeyMap_add 6 none :: gWS) (gR 3 66 0 0) D CL (gY q) (fun _ => True) [.ref mb, .ref b, .int x] H (fun v H1 => ∃ r : Nat, r ≤ n ∧ (∀ j, j < r → t_ord (ks j) ys < 0) ∧ (r < n → 0 ≤ t_ord (ks r) ys) ∧ v = none ∧ mA D q H1 mb (n + 1) (mPut ks r n ys) (mPut vs r n x) (chg + 1) ∧ H1.size = H.size ∧ ∀ p : Nat, ¬ (mb ≤ p ∧ p ≤ mb + 130) → H1[p]? = H[p]?) 0 0 (fun p => mb ≤ p ∧ p ≤ mb + 130) := by
  refine gC.ofW R_KeyMap "add" (by decide) rfl rfl ?_
  intro p e s m below meth c hadm X hE hH B hne
  refine g_entry [some (.ref mb), some (.ref b), some (.int x), none, none, none] rfl rfl (Nat.le_of_ble_eq_true rfl) (fun ls hl => ?_)
  have hm0 := hm
  obtain ⟨ho, hn, ⟨f, g, hf, hfg, hg, hgi, hks⟩, hv⟩ := hm
  have hm := hm0
  refine lv_aload_n X.1.1 X.1.2.1 d_KeyMap_add_0 rfl (gl_at hl rfl) ?_
  refine lv_aload_n X.1.1 X.1.2.1 d_KeyMap_add_1 rfl (gl_at hl rfl) ?_
  refine g_cv (A := (fun p => mb ≤ p ∧ p ≤ mb + 130)) X gWS_good mw_KeyMap_30 kc_KeyMap ho (c_KeyMap_countLess l D q H mb n ks vs chg hm b ys hys) (fun _ _ _ => trivial) gBlind.tt rfl rfl hl.1 (Nat.le_of_ble_eq_true rfl) rfl rfl ⟨by decide, by decide⟩ ⟨by decide, by decide⟩ d_KeyMap_add_2 (fun _ h => h.elim) (fun _ h => by cases h) (fun v1 H2 locs hp3 hL => ?_)
  obtain ⟨r, rfl, hrn, hr1, hr2, hHe⟩ := hp3
  rw [hHe]
  refine g_istn X.1.1 X.1.2.1 hl 3 d_KeyMap_add_5 rfl (Nat.le_of_ble_eq_true rfl) rfl (fun ls hl => ?_)
  refine lv_aload_n X.1.1 X.1.2.1 d_KeyMap_add_6 rfl (gl_at hl rfl) ?_
  refine g_get X kc_KeyMap ho 0 (by decide) lk_KeyMap_11 rfl d_KeyMap_add_7 ?_
  refine lv_aload_n X.1.1 X.1.2.1 d_KeyMap_add_10 rfl (gl_at hl rfl) ?_
  refine g_get X kc_KeyMap ho 2 (by decide) lk_KeyMap_22 rfl d_KeyMap_add_11 ?_
  refine g_aald X 3 hf rfl n (by omega) (by decide) (v := .ref (g n)) (by rw [hfg _ (by omega)]; rfl) d_KeyMap_add_14 ?_
  refine g_ast X.1.1 X.1.2.1 hl 4 d_KeyMap_add_15 (Nat.le_of_ble_eq_true rfl) rfl (fun ls hl => ?_)
  refine lv_aload_n X.1.1 X.1.2.1 d_KeyMap_add_17 rfl (gl_at hl rfl) ?_
  refine g_get X kc_KeyMap ho 2 (by decide) lk_KeyMap_22 rfl d_KeyMap_add_18 ?_
  refine g_ist X.1.1 X.1.2.1 hl 5 d_KeyMap_add_21 (Nat.le_of_ble_eq_true rfl) rfl (fun ls hl => ?_)
  have loop23 : ∀ (fu : Nat) (i : Nat) (Hn : Heap) (locs : List Loc) (ls : Array Slot), i < fu → (r ≤ i) → (i ≤ n) → (va_at D CL (mb, .inr (1, [.ref (mb + 1), .ref (mb + 130), .int (nI n), .int (nI chg)])) Hn) → (va_at D CL (mb + 1, .inl (q 3, 64, .inr (.inr (.inr (.inr (sh_up f i n)))))) Hn) → (va_at D CL (mb + 130, .inl (q 0, 64, .inl (sh_up vs i n))) Hn) → (∀ p : Nat, p ≠ mb + 1 → p ≠ mb + 130 → Hn[p]? = H[p]?) → (Hn.size = H.size) → (∀ x ∈ locs, (fun p => mb ≤ p ∧ p ≤ mb + 130) x.base) → gl ls [some (.ref mb), some (.ref b), some (.int x), some (.int (nI r)), some (.ref (g n)), some (.int (nI i))] → W p l e (gR 3 66 0 0) s m ([.ref mb, .ref b, .int x] : List Value).toArray below meth c Hn locs 0 0 (gQ below ([.ref mb, .ref b, .int x] : List Value).toArray s (fun v H1 => ∃ r : Nat, r ≤ n ∧ (∀ j, j < r → t_ord (ks j) ys < 0) ∧ (r < n → 0 ≤ t_ord (ks r) ys) ∧ v = none ∧ mA D q H1 mb (n + 1) (mPut ks r n ys) (mPut vs r n x) (chg + 1) ∧ H1.size = H.size ∧ ∀ p : Nat, ¬ (mb ≤ p ∧ p ≤ mb + 130) → H1[p]? = H[p]?) 0 0 (fun p => mb ≤ p ∧ p ≤ mb + 130)) (F0 m 23 ls []) := by
    intro fu
    induction fu with
    | zero => intro i Hn locs ls hmu; omega
    | succ fu ih23 =>
      intro i Hn locs ls hmu23 hi23_0 hi23_1 ho hf hv fr zz hL hl
      refine lv_iload X.1.1 X.1.2.1 d_KeyMap_add_23 (gl_at hl rfl) ?_
      refine lv_iload_n X.1.1 X.1.2.1 d_KeyMap_add_25 rfl (gl_at hl rfl) ?_
      refine gn_le X.1.1 X.1.2.1 i r (by omega) (by omega) d_KeyMap_add_26 rfl (fun hc26 => ?_) (fun hc26 => ?_)
      · have e9 : r = i := by omega
        subst e9
        refine lv_aload X.1.1 X.1.2.1 d_KeyMap_add_67 (gl_at hl rfl) ?_
        refine lv_aload_n X.1.1 X.1.2.1 d_KeyMap_add_69 rfl (gl_at hl rfl) ?_
        obtain ⟨jn, hjn, hgn⟩ := hg n (by omega)
        have hkn := (hks n (by omega)).kept (fr (g n) (by omega) (by omega)) (fr (g n + 1) (by omega) (by omega))
        have hkb := hys.kept (fr b (by omega) (by omega)) (fr (b + 1) (by omega) (by omega))
        refine g_cv (A := (fun p => mb ≤ p ∧ p ≤ mb + 130)) X gWS_good mw_KeyMap_33 kc_Key hkn.1 (c_Key_become l D q Hn (g n) b (ks n) ys hkn hkb (by omega)) (fun _ _ _ => trivial) gBlind.tt rfl rfl hl.1 (Nat.le_of_ble_eq_true rfl) rfl rfl ⟨by decide, by decide⟩ ⟨by decide, by decide⟩ d_KeyMap_add_70 (fun p h => show _ ∧ _ by omega) hL (fun v4 H5 locs hp6 hL => ?_)
        obtain ⟨rfl, hkn2, hz2, fr2⟩ := hp6
        replace ho := va_at.kept ho (fr2 _ (by omega))
        replace hf := va_at.kept hf (fr2 _ (by omega))
        replace hv := va_at.kept hv (fr2 _ (by omega))
        have hkn1 := hkn2.1
        refine lv_aload_n X.1.1 X.1.2.1 d_KeyMap_add_73 rfl (gl_at hl rfl) ?_
        refine g_get X kc_KeyMap ho 0 (by decide) lk_KeyMap_11 rfl d_KeyMap_add_74 ?_
        refine lv_iload_n X.1.1 X.1.2.1 d_KeyMap_add_77 rfl (gl_at hl rfl) ?_
        refine lv_aload X.1.1 X.1.2.1 d_KeyMap_add_78 (gl_at hl rfl) ?_
        refine g_aast (A := (fun p => mb ≤ p ∧ p ≤ mb + 130)) X 3 kc_Key hf rfl hkn1 r (by omega) (by decide) d_KeyMap_add_80 (show _ ∧ _ by omega) hL (fun H7 locs h8 z9 oq10 hL => ?_)
        replace ho := ho.kept (oq10 _ (by omega))
        replace hv := hv.kept (oq10 _ (by omega))
        replace hkn1 := hkn1.kept (oq10 _ (by omega))
        refine lv_aload_n X.1.1 X.1.2.1 d_KeyMap_add_81 rfl (gl_at hl rfl) ?_
        refine g_get X kc_KeyMap ho 1 (by decide) lk_KeyMap_18 rfl d_KeyMap_add_82 ?_
        refine lv_iload_n X.1.1 X.1.2.1 d_KeyMap_add_85 rfl (gl_at hl rfl) ?_
        refine lv_iload_n X.1.1 X.1.2.1 d_KeyMap_add_86 rfl (gl_at hl rfl) ?_
        refine g_iast (A := (fun p => mb ≤ p ∧ p ≤ mb + 130)) X 0 hv rfl r (by omega) (by decide) d_KeyMap_add_87 (show _ ∧ _ by omega) hL (fun H11 locs h12 z13 oq14 hL => ?_)
        replace ho := ho.kept (oq14 _ (by omega))
        replace h8 := h8.kept (oq14 _ (by omega))
        replace hkn1 := hkn1.kept (oq14 _ (by omega))
        refine lv_aload_n X.1.1 X.1.2.1 d_KeyMap_add_88 rfl (gl_at hl rfl) ?_
        refine lv_dup X.1.1 X.1.2.1 d_KeyMap_add_89 rfl ?_
        refine g_get X kc_KeyMap ho 2 (by decide) lk_KeyMap_22 rfl d_KeyMap_add_90 ?_
        refine lv_iconst (v := nI 1) X.1.1 X.1.2.1 d_KeyMap_add_93 (by decide) ?_
        refine lv_iadd X.1.1 X.1.2.1 d_KeyMap_add_94 ?_
        refine g_top (nI (n + 1)) (nI_add _ _) ?_
        refine g_put (A := (fun p => mb ≤ p ∧ p ≤ mb + 130)) X kc_KeyMap ho 2 (by decide) lk_KeyMap_22 rfl rfl rfl (Nat.le_of_ble_eq_true rfl) d_KeyMap_add_95 (show _ ∧ _ by omega) hL (fun H15 locs h16 z17 oq18 hL => ?_)
        replace h8 := h8.kept (oq18 _ (by omega))
        replace h12 := h12.kept (oq18 _ (by omega))
        replace hkn1 := hkn1.kept (oq18 _ (by omega))
        refine lv_aload_n X.1.1 X.1.2.1 d_KeyMap_add_98 rfl (gl_at hl rfl) ?_
        refine lv_dup X.1.1 X.1.2.1 d_KeyMap_add_99 rfl ?_
        refine g_get X kc_KeyMap h16 3 (by decide) lk_KeyMap_37 rfl d_KeyMap_add_100 ?_
        refine lv_iconst (v := nI 1) X.1.1 X.1.2.1 d_KeyMap_add_103 (by decide) ?_
        refine lv_iadd X.1.1 X.1.2.1 d_KeyMap_add_104 ?_
        refine g_top (nI (chg + 1)) (nI_add _ _) ?_
        refine g_put (A := (fun p => mb ≤ p ∧ p ≤ mb + 130)) X kc_KeyMap h16 3 (by decide) lk_KeyMap_37 rfl rfl rfl (Nat.le_of_ble_eq_true rfl) d_KeyMap_add_105 (show _ ∧ _ by omega) hL (fun H19 locs h20 z21 oq22 hL => ?_)
        replace h8 := h8.kept (oq22 _ (by omega))
        replace h12 := h12.kept (oq22 _ (by omega))
        replace hkn1 := hkn1.kept (oq22 _ (by omega))
        have hch : ∀ p : Nat, p ≠ mb → p ≠ mb + 1 → p ≠ mb + 130 → H19[p]? = _ := fun p h1 h2 h3 => ((oq22 p (by assumption)).trans ((oq18 p (by assumption)).trans ((oq14 p (by assumption)).trans (oq10 p (by assumption)))))
        have hfin : ∀ i, i < 64 → kA D q H19 (mPut g r n (g n) i) (mPut ks r n ys i) := by
          intro i hi
          unfold mPut va_up
          by_cases h1 : i = r
          · rw [if_pos h1, if_pos h1]
            exact hkn2.kept (hch _ (by omega) (by omega) (by omega)) (hch _ (by omega) (by omega) (by omega))
          · rw [if_neg h1, if_neg h1]
            unfold sh_up
            have key : ∀ k, k < 64 → k ≠ n → kA D q H19 (g k) (ks k) := by
              intro k hk hkn9
              obtain ⟨j, hj, hgj⟩ := hg k hk
              have hne : g k ≠ g n := fun h => hkn9 (hgi k n hk (by omega) h)
              refine (((hks k hk).kept (fr _ (by omega) (by omega)) (fr _ (by omega) (by omega))).kept (fr2 _ (by omega)) (fr2 _ (by omega))).kept (hch _ (by omega) (by omega) (by omega)) (hch _ (by omega) (by omega) (by omega))
            by_cases h2 : r < i ∧ i ≤ n
            · rw [if_pos h2, if_pos h2]
              exact key _ (by omega) (by omega)
            · rw [if_neg h2, if_neg h2]
              exact key _ hi (by omega)
        refine g_vret X B ⟨r, hrn, hr1, hr2, rfl, ⟨h20, by omega, ⟨_, mPut g r n (g n), h8, fun i hi => ?_, fun i hi => ?_, fun i j hi hj h => ?_, hfin⟩, h12⟩, (z21.trans (z17.trans (z13.trans (z9.trans (hz2.trans zz))))), fun p hp => ?_⟩ hL d_KeyMap_add_108 (by omega) (by omega)
        · unfold mPut va_up
          by_cases h1 : i = r
          · rw [if_pos h1, if_pos h1]
          · rw [if_neg h1, if_neg h1]
            unfold sh_up
            split
            · exact hfg _ (by omega)
            · exact hfg _ hi
        · unfold mPut va_up
          by_cases h1 : i = r
          · rw [if_pos h1]
            exact hg n (by omega)
          · rw [if_neg h1]
            unfold sh_up
            split
            · exact hg _ (by omega)
            · exact hg _ hi
        · unfold mPut va_up sh_up at h
          by_cases h1 : i = r
          · by_cases h2 : j = r
            · omega
            · rw [if_pos h1, if_neg h2] at h
              split at h
              · have := hgi _ _ (by omega) (by omega) h
                omega
              · have := hgi _ _ (by omega) (by omega) h
                omega
          · by_cases h2 : j = r
            · rw [if_neg h1, if_pos h2] at h
              split at h
              · have := hgi _ _ (by omega) (by omega) h
                omega
              · have := hgi _ _ (by omega) (by omega) h
                omega
            · rw [if_neg h1, if_neg h2] at h
              split at h
              · split at h
                · have := hgi _ _ (by omega) (by omega) h
                  omega
                · have := hgi _ _ (by omega) (by omega) h
                  omega
              · split at h
                · have := hgi _ _ (by omega) (by omega) h
                  omega
                · exact hgi _ _ (by omega) (by omega) h
        · exact (hch p (by omega) (by omega) (by omega)).trans ((fr2 p (by omega)).trans (fr p (by omega) (by omega)))
      · obtain ⟨j9, hj9, hgj9⟩ := hg (i - 1) (by omega)
        have hkk := (hks (i - 1) (by omega)).1.kept (fr (g (i - 1)) (by omega) (by omega))
        refine lv_aload_n X.1.1 X.1.2.1 d_KeyMap_add_29 rfl (gl_at hl rfl) ?_
        refine g_get X kc_KeyMap ho 0 (by decide) lk_KeyMap_11 rfl d_KeyMap_add_30 ?_
        refine lv_iload X.1.1 X.1.2.1 d_KeyMap_add_33 (gl_at hl rfl) ?_
        refine lv_aload_n X.1.1 X.1.2.1 d_KeyMap_add_35 rfl (gl_at hl rfl) ?_
        refine g_get X kc_KeyMap ho 0 (by decide) lk_KeyMap_11 rfl d_KeyMap_add_36 ?_
        refine lv_iload X.1.1 X.1.2.1 d_KeyMap_add_39 (gl_at hl rfl) ?_
        refine lv_iconst (v := nI 1) X.1.1 X.1.2.1 d_KeyMap_add_41 (by decide) ?_
        refine lv_isub X.1.1 X.1.2.1 d_KeyMap_add_42 ?_
        refine g_top (nI (i - 1)) (pk_sub (by omega)) ?_
        refine g_aald X 3 hf rfl (i - 1) (by omega) (by decide) (v := .ref (g (i - 1))) (by rw [sh_up_at f (by omega), hfg _ (by omega)]; rfl) d_KeyMap_add_43 ?_
        refine g_aast (A := (fun p => mb ≤ p ∧ p ≤ mb + 130)) X 3 kc_Key hf rfl hkk i (by omega) (by decide) d_KeyMap_add_44 (show _ ∧ _ by omega) hL (fun H23 locs h24 z25 oq26 hL => ?_)
        replace ho := ho.kept (oq26 _ (by omega))
        replace hv := hv.kept (oq26 _ (by omega))
        replace hkk := hkk.kept (oq26 _ (by omega))
        refine lv_aload_n X.1.1 X.1.2.1 d_KeyMap_add_45 rfl (gl_at hl rfl) ?_
        refine g_get X kc_KeyMap ho 1 (by decide) lk_KeyMap_18 rfl d_KeyMap_add_46 ?_
        refine lv_iload X.1.1 X.1.2.1 d_KeyMap_add_49 (gl_at hl rfl) ?_
        refine lv_aload_n X.1.1 X.1.2.1 d_KeyMap_add_51 rfl (gl_at hl rfl) ?_
        refine g_get X kc_KeyMap ho 1 (by decide) lk_KeyMap_18 rfl d_KeyMap_add_52 ?_
        refine lv_iload X.1.1 X.1.2.1 d_KeyMap_add_55 (gl_at hl rfl) ?_
        refine lv_iconst (v := nI 1) X.1.1 X.1.2.1 d_KeyMap_add_57 (by decide) ?_
        refine lv_isub X.1.1 X.1.2.1 d_KeyMap_add_58 ?_
        refine g_top (nI (i - 1)) (pk_sub (by omega)) ?_
        refine g_iald X 0 hv rfl (i - 1) (by omega) (by decide) d_KeyMap_add_59 ?_
        refine g_iast (A := (fun p => mb ≤ p ∧ p ≤ mb + 130)) X 0 hv rfl i (by omega) (by decide) d_KeyMap_add_60 (show _ ∧ _ by omega) hL (fun H27 locs h28 z29 oq30 hL => ?_)
        replace ho := ho.kept (oq30 _ (by omega))
        replace h24 := h24.kept (oq30 _ (by omega))
        replace hkk := hkk.kept (oq30 _ (by omega))
        refine g_iinc X.1.1 X.1.2.1 (nI (i - 1)) hl 5 d_KeyMap_add_61 rfl (gn_dec 1 (by omega)) rfl (fun ls hl => ?_)
        refine lv_goto X.1.1 X.1.2.1 d_KeyMap_add_64 rfl ?_
        exact ih23 (i - 1) H27 locs ls (by omega) (by omega) (by omega) ho (by rw [← sh_up_s f (by omega) (by omega), hfg (i - 1) (by omega)]; exact h24) (by rw [← sh_up_s vs (by omega) (by omega), ← sh_up_at vs (n := n) (show 0 < i by omega), ← sh_upd]; exact h28) (fun p h1 h2 => ((oq30 p (by assumption)).trans ((oq26 p (by assumption)).trans (fr p h1 h2)))) (z29.trans (z25.trans zz)) hL hl
  exact loop23 _ n H locs ls (Nat.lt_succ_self _) hrn (Nat.le_refl _) ho (by rw [sh_up_0]; exact hf) (by rw [sh_up_0]; exact hv) (fun _ _ _ => rfl) rfl hL hl

set_option maxHeartbeats 4000000 in
set_option maxRecDepth 100000 in
/-- takeOut: the key at a place -/
theorem c_KeyMap_takeOut (l : Launch) (D : va_G) (q : Nat → ClassId) (H : Heap) (mb n : Nat) (ks : Nat → List Nat) (vs : Nat → Int32) (chg : Nat) (hm : mA D q H mb n ks vs chg) (pl : Nat) (hpl : pl < n) : gC l y_KeyMap_takeOut (Cond.code y_KeyMap_takeOut b_KeyMap_takeOut 5 (some .int) :: gWS) (gR 0 0 0 0) D CL (gY q) (fun _ => True) [.ref mb, .int (nI pl)] H (fun v H1 => v = some (.int (vs pl)) ∧ mA D q H1 mb (n - 1) (mCut ks pl n (ks pl)) (sh_dn vs pl (n - 1)) (chg + 1) ∧ H1.size = H.size ∧ ∀ p : Nat, ¬ (mb ≤ p ∧ p ≤ mb + 130) → H1[p]? = H[p]?) 0 0 (fun p => mb ≤ p ∧ p ≤ mb + 130) := by
  refine gC.ofW R_KeyMap "takeOut" (by decide) rfl rfl ?_
  intro p e s m below meth c hadm X hE hH B hne
  refine g_entry [some (.ref mb), some (.int (nI pl)), none, none, none] rfl rfl (Nat.le_of_ble_eq_true rfl) (fun ls hl => ?_)
  obtain ⟨ho, hn, ⟨f, g, hf, hfg, hg, hgi, hks⟩, hv⟩ := hm
  refine lv_aload_n X.1.1 X.1.2.1 d_KeyMap_takeOut_0 rfl (gl_at hl rfl) ?_
  refine g_get X kc_KeyMap ho 0 (by decide) lk_KeyMap_11 rfl d_KeyMap_takeOut_1 ?_
  refine lv_iload_n X.1.1 X.1.2.1 d_KeyMap_takeOut_4 rfl (gl_at hl rfl) ?_
  refine g_aald X 3 hf rfl pl (by omega) (by decide) (v := .ref (g pl)) (by rw [hfg _ (by omega)]; rfl) d_KeyMap_takeOut_5 ?_
  refine g_astn X.1.1 X.1.2.1 hl 2 d_KeyMap_takeOut_6 rfl (Nat.le_of_ble_eq_true rfl) rfl (fun ls hl => ?_)
  refine lv_aload_n X.1.1 X.1.2.1 d_KeyMap_takeOut_7 rfl (gl_at hl rfl) ?_
  refine g_get X kc_KeyMap ho 1 (by decide) lk_KeyMap_18 rfl d_KeyMap_takeOut_8 ?_
  refine lv_iload_n X.1.1 X.1.2.1 d_KeyMap_takeOut_11 rfl (gl_at hl rfl) ?_
  refine g_iald X 0 hv rfl pl (by omega) (by decide) d_KeyMap_takeOut_12 ?_
  refine g_istn X.1.1 X.1.2.1 hl 3 d_KeyMap_takeOut_13 rfl (Nat.le_of_ble_eq_true rfl) rfl (fun ls hl => ?_)
  refine lv_iload_n X.1.1 X.1.2.1 d_KeyMap_takeOut_14 rfl (gl_at hl rfl) ?_
  refine g_ist X.1.1 X.1.2.1 hl 4 d_KeyMap_takeOut_15 (Nat.le_of_ble_eq_true rfl) rfl (fun ls hl => ?_)
  have loop17 : ∀ (fu : Nat) (i : Nat) (Hn : Heap) (locs : List Loc) (ls : Array Slot), n - 1 - i < fu → (pl ≤ i) → (i ≤ n - 1) → (va_at D CL (mb, .inr (1, [.ref (mb + 1), .ref (mb + 130), .int (nI n), .int (nI chg)])) Hn) → (va_at D CL (mb + 1, .inl (q 3, 64, .inr (.inr (.inr (.inr (sh_dn f pl i)))))) Hn) → (va_at D CL (mb + 130, .inl (q 0, 64, .inl (sh_dn vs pl i))) Hn) → (∀ p : Nat, p ≠ mb + 1 → p ≠ mb + 130 → Hn[p]? = H[p]?) → (Hn.size = H.size) → (∀ x ∈ locs, (fun p => mb ≤ p ∧ p ≤ mb + 130) x.base) → gl ls [some (.ref mb), some (.int (nI pl)), some (.ref (g pl)), some (.int (vs pl)), some (.int (nI i))] → W p l e (gR 0 0 0 0) s m ([.ref mb, .int (nI pl)] : List Value).toArray below meth c Hn locs 0 0 (gQ below ([.ref mb, .int (nI pl)] : List Value).toArray s (fun v H1 => v = some (.int (vs pl)) ∧ mA D q H1 mb (n - 1) (mCut ks pl n (ks pl)) (sh_dn vs pl (n - 1)) (chg + 1) ∧ H1.size = H.size ∧ ∀ p : Nat, ¬ (mb ≤ p ∧ p ≤ mb + 130) → H1[p]? = H[p]?) 0 0 (fun p => mb ≤ p ∧ p ≤ mb + 130)) (F0 m 17 ls []) := by
    intro fu
    induction fu with
    | zero => intro i Hn locs ls hmu; omega
    | succ fu ih17 =>
      intro i Hn locs ls hmu17 hi17_0 hi17_1 ho hf hv fr zz hL hl
      refine lv_iload X.1.1 X.1.2.1 d_KeyMap_takeOut_17 (gl_at hl rfl) ?_
      refine lv_aload_n X.1.1 X.1.2.1 d_KeyMap_takeOut_19 rfl (gl_at hl rfl) ?_
      refine g_get X kc_KeyMap ho 2 (by decide) lk_KeyMap_22 rfl d_KeyMap_takeOut_20 ?_
      refine lv_iconst (v := nI 1) X.1.1 X.1.2.1 d_KeyMap_takeOut_23 (by decide) ?_
      refine lv_isub X.1.1 X.1.2.1 d_KeyMap_takeOut_24 ?_
      refine g_top (nI (n - 1)) (pk_sub (by omega)) ?_
      refine gn_ge X.1.1 X.1.2.1 i (n - 1) (by omega) (by omega) d_KeyMap_takeOut_25 rfl (fun hc25 => ?_) (fun hc25 => ?_)
      · have e9 : n - 1 = i := by omega
        subst e9
        obtain ⟨j8, hj8, hgj8⟩ := hg pl (by omega)
        have hkp := (hks pl (by omega)).1.kept (fr (g pl) (by omega) (by omega))
        refine lv_aload_n X.1.1 X.1.2.1 d_KeyMap_takeOut_66 rfl (gl_at hl rfl) ?_
        refine g_get X kc_KeyMap ho 0 (by decide) lk_KeyMap_11 rfl d_KeyMap_takeOut_67 ?_
        refine lv_aload_n X.1.1 X.1.2.1 d_KeyMap_takeOut_70 rfl (gl_at hl rfl) ?_
        refine g_get X kc_KeyMap ho 2 (by decide) lk_KeyMap_22 rfl d_KeyMap_takeOut_71 ?_
        refine lv_iconst (v := nI 1) X.1.1 X.1.2.1 d_KeyMap_takeOut_74 (by decide) ?_
        refine lv_isub X.1.1 X.1.2.1 d_KeyMap_takeOut_75 ?_
        refine g_top (nI (n - 1)) (pk_sub (by omega)) ?_
        refine lv_aload_n X.1.1 X.1.2.1 d_KeyMap_takeOut_76 rfl (gl_at hl rfl) ?_
        refine g_aast (A := (fun p => mb ≤ p ∧ p ≤ mb + 130)) X 3 kc_Key hf rfl hkp (n - 1) (by omega) (by decide) d_KeyMap_takeOut_77 (show _ ∧ _ by omega) hL (fun H1 locs h2 z3 oq4 hL => ?_)
        replace ho := ho.kept (oq4 _ (by omega))
        replace hv := hv.kept (oq4 _ (by omega))
        replace hkp := hkp.kept (oq4 _ (by omega))
        refine lv_aload_n X.1.1 X.1.2.1 d_KeyMap_takeOut_78 rfl (gl_at hl rfl) ?_
        refine lv_dup X.1.1 X.1.2.1 d_KeyMap_takeOut_79 rfl ?_
        refine g_get X kc_KeyMap ho 2 (by decide) lk_KeyMap_22 rfl d_KeyMap_takeOut_80 ?_
        refine lv_iconst (v := nI 1) X.1.1 X.1.2.1 d_KeyMap_takeOut_83 (by decide) ?_
        refine lv_isub X.1.1 X.1.2.1 d_KeyMap_takeOut_84 ?_
        refine g_top (nI (n - 1)) (pk_sub (by omega)) ?_
        refine g_put (A := (fun p => mb ≤ p ∧ p ≤ mb + 130)) X kc_KeyMap ho 2 (by decide) lk_KeyMap_22 rfl rfl rfl (Nat.le_of_ble_eq_true rfl) d_KeyMap_takeOut_85 (show _ ∧ _ by omega) hL (fun H5 locs h6 z7 oq8 hL => ?_)
        replace h2 := h2.kept (oq8 _ (by omega))
        replace hv := hv.kept (oq8 _ (by omega))
        replace hkp := hkp.kept (oq8 _ (by omega))
        refine lv_aload_n X.1.1 X.1.2.1 d_KeyMap_takeOut_88 rfl (gl_at hl rfl) ?_
        refine lv_dup X.1.1 X.1.2.1 d_KeyMap_takeOut_89 rfl ?_
        refine g_get X kc_KeyMap h6 3 (by decide) lk_KeyMap_37 rfl d_KeyMap_takeOut_90 ?_
        refine lv_iconst (v := nI 1) X.1.1 X.1.2.1 d_KeyMap_takeOut_93 (by decide) ?_
        refine lv_iadd X.1.1 X.1.2.1 d_KeyMap_takeOut_94 ?_
        refine g_top (nI (chg + 1)) (nI_add _ _) ?_
        refine g_put (A := (fun p => mb ≤ p ∧ p ≤ mb + 130)) X kc_KeyMap h6 3 (by decide) lk_KeyMap_37 rfl rfl rfl (Nat.le_of_ble_eq_true rfl) d_KeyMap_takeOut_95 (show _ ∧ _ by omega) hL (fun H9 locs h10 z11 oq12 hL => ?_)
        replace h2 := h2.kept (oq12 _ (by omega))
        replace hv := hv.kept (oq12 _ (by omega))
        replace hkp := hkp.kept (oq12 _ (by omega))
        refine lv_iload_n X.1.1 X.1.2.1 d_KeyMap_takeOut_98 rfl (gl_at hl rfl) ?_
        have hch : ∀ p : Nat, p ≠ mb → p ≠ mb + 1 → H9[p]? = _ := fun p h1 h2 => ((oq12 p (by assumption)).trans ((oq8 p (by assumption)).trans (oq4 p (by assumption))))
        have hfin : ∀ i, i < 64 → kA D q H9 (mCut g pl n (g pl) i) (mCut ks pl n (ks pl) i) := by
          intro i hi
          have key : ∀ k, k < 64 → kA D q H9 (g k) (ks k) := by
            intro k hk
            obtain ⟨j, hj, hgj⟩ := hg k hk
            exact ((hks k hk).kept (fr _ (by omega) (by omega)) (fr _ (by omega) (by omega))).kept (hch _ (by omega) (by omega)) (hch _ (by omega) (by omega))
          unfold mCut va_up
          by_cases h1 : i = n - 1
          · rw [if_pos h1, if_pos h1]
            exact key _ (by omega)
          · rw [if_neg h1, if_neg h1]
            unfold sh_dn
            by_cases h2 : pl ≤ i ∧ i < n - 1
            · rw [if_pos h2, if_pos h2]
              exact key _ (by omega)
            · rw [if_neg h2, if_neg h2]
              exact key _ hi
        refine g_iret X B ⟨rfl, ⟨h10, by omega, ⟨_, mCut g pl n (g pl), h2, fun i hi => ?_, fun i hi => ?_, fun i j hi hj h => ?_, hfin⟩, hv⟩, (z11.trans (z7.trans (z3.trans zz))), fun p hp => ?_⟩ hL d_KeyMap_takeOut_99 (by omega) (by omega)
        · unfold mCut va_up
          by_cases h1 : i = n - 1
          · rw [if_pos h1, if_pos h1]
          · rw [if_neg h1, if_neg h1]
            unfold sh_dn
            split
            · exact hfg _ (by omega)
            · exact hfg _ hi
        · unfold mCut va_up
          by_cases h1 : i = n - 1
          · rw [if_pos h1]
            exact hg pl (by omega)
          · rw [if_neg h1]
            unfold sh_dn
            split
            · exact hg _ (by omega)
            · exact hg _ hi
        · unfold mCut va_up sh_dn at h
          by_cases h1 : i = n - 1
          · by_cases h2 : j = n - 1
            · omega
            · rw [if_pos h1, if_neg h2] at h
              split at h
              · have := hgi _ _ (by omega) (by omega) h
                omega
              · have := hgi _ _ (by omega) (by omega) h
                omega
          · by_cases h2 : j = n - 1
            · rw [if_neg h1, if_pos h2] at h
              split at h
              · have := hgi _ _ (by omega) (by omega) h
                omega
              · have := hgi _ _ (by omega) (by omega) h
                omega
            · rw [if_neg h1, if_neg h2] at h
              split at h
              · split at h
                · have := hgi _ _ (by omega) (by omega) h
                  omega
                · have := hgi _ _ (by omega) (by omega) h
                  omega
              · split at h
                · have := hgi _ _ (by omega) (by omega) h
                  omega
                · exact hgi _ _ (by omega) (by omega) h
        · exact (hch p (by omega) (by omega)).trans (fr p (by omega) (by omega))
      · obtain ⟨j9, hj9, hgj9⟩ := hg (i + 1) (by omega)
        have hkk := (hks (i + 1) (by omega)).1.kept (fr (g (i + 1)) (by omega) (by omega))
        refine lv_aload_n X.1.1 X.1.2.1 d_KeyMap_takeOut_28 rfl (gl_at hl rfl) ?_
        refine g_get X kc_KeyMap ho 0 (by decide) lk_KeyMap_11 rfl d_KeyMap_takeOut_29 ?_
        refine lv_iload X.1.1 X.1.2.1 d_KeyMap_takeOut_32 (gl_at hl rfl) ?_
        refine lv_aload_n X.1.1 X.1.2.1 d_KeyMap_takeOut_34 rfl (gl_at hl rfl) ?_
        refine g_get X kc_KeyMap ho 0 (by decide) lk_KeyMap_11 rfl d_KeyMap_takeOut_35 ?_
        refine lv_iload X.1.1 X.1.2.1 d_KeyMap_takeOut_38 (gl_at hl rfl) ?_
        refine lv_iconst (v := nI 1) X.1.1 X.1.2.1 d_KeyMap_takeOut_40 (by decide) ?_
        refine lv_iadd X.1.1 X.1.2.1 d_KeyMap_takeOut_41 ?_
        refine g_top (nI (i + 1)) (nI_add _ _) ?_
        refine g_aald X 3 hf rfl (i + 1) (by omega) (by decide) (v := .ref (g (i + 1))) (by rw [sh_dn_at f, hfg _ (by omega)]; rfl) d_KeyMap_takeOut_42 ?_
        refine g_aast (A := (fun p => mb ≤ p ∧ p ≤ mb + 130)) X 3 kc_Key hf rfl hkk i (by omega) (by decide) d_KeyMap_takeOut_43 (show _ ∧ _ by omega) hL (fun H13 locs h14 z15 oq16 hL => ?_)
        replace ho := ho.kept (oq16 _ (by omega))
        replace hv := hv.kept (oq16 _ (by omega))
        replace hkk := hkk.kept (oq16 _ (by omega))
        refine lv_aload_n X.1.1 X.1.2.1 d_KeyMap_takeOut_44 rfl (gl_at hl rfl) ?_
        refine g_get X kc_KeyMap ho 1 (by decide) lk_KeyMap_18 rfl d_KeyMap_takeOut_45 ?_
        refine lv_iload X.1.1 X.1.2.1 d_KeyMap_takeOut_48 (gl_at hl rfl) ?_
        refine lv_aload_n X.1.1 X.1.2.1 d_KeyMap_takeOut_50 rfl (gl_at hl rfl) ?_
        refine g_get X kc_KeyMap ho 1 (by decide) lk_KeyMap_18 rfl d_KeyMap_takeOut_51 ?_
        refine lv_iload X.1.1 X.1.2.1 d_KeyMap_takeOut_54 (gl_at hl rfl) ?_
        refine lv_iconst (v := nI 1) X.1.1 X.1.2.1 d_KeyMap_takeOut_56 (by decide) ?_
        refine lv_iadd X.1.1 X.1.2.1 d_KeyMap_takeOut_57 ?_
        refine g_top (nI (i + 1)) (nI_add _ _) ?_
        refine g_iald X 0 hv rfl (i + 1) (by omega) (by decide) d_KeyMap_takeOut_58 ?_
        refine g_iast (A := (fun p => mb ≤ p ∧ p ≤ mb + 130)) X 0 hv rfl i (by omega) (by decide) d_KeyMap_takeOut_59 (show _ ∧ _ by omega) hL (fun H17 locs h18 z19 oq20 hL => ?_)
        replace ho := ho.kept (oq20 _ (by omega))
        replace h14 := h14.kept (oq20 _ (by omega))
        replace hkk := hkk.kept (oq20 _ (by omega))
        refine g_iinc X.1.1 X.1.2.1 (nI (i + 1)) hl 4 d_KeyMap_takeOut_60 rfl (nI_1 _) rfl (fun ls hl => ?_)
        refine lv_goto X.1.1 X.1.2.1 d_KeyMap_takeOut_63 rfl ?_
        exact ih17 (i + 1) H17 locs ls (by omega) (by omega) (by omega) ho (by rw [← sh_dn_s f (by omega), hfg (i + 1) (by omega)]; exact h14) (by rw [← sh_dn_s vs (by omega), ← sh_dn_at vs (p := pl), ← sh_upd]; exact h18) (fun p h1 h2 => ((oq20 p (by assumption)).trans ((oq16 p (by assumption)).trans (fr p h1 h2)))) (z19.trans (z15.trans zz)) hL hl
  exact loop17 _ pl H [] ls (Nat.lt_succ_self _) (Nat.le_refl _) (by omega) ho (by rw [sh_dn_0]; exact hf) (by rw [sh_dn_0]; exact hv) (fun _ _ _ => rfl) rfl (fun _ h => by cases h) hl

set_option maxHeartbeats 4000000 in
set_option maxRecDepth 100000 in
/-- KeyMap() -/
theorem c_KeyMap_init (l : Launch) (D : va_G) (q : Nat → ClassId) (H : Heap) (mb : Nat) (hz : H.size = mb + 1) (ho : va_at D CL (mb, .inr (1, [.null, .null, .int 0, .int 0])) H) : gC l y_KeyMap_init (Cond.code y_KeyMap_init b_KeyMap_init 2 none :: gWS) (gR 2 32 130 768) D CL (gY q) (fun U => va_AO R_Key U) [.ref mb] H (fun v H1 => v = none ∧ mA D q H1 mb 0 (fun _ => []) (fun _ => 0) 0 ∧ H1.size = mb + 131 ∧ ∀ p : Nat, p < mb → H1[p]? = H[p]?) 130 768 (fun p => mb ≤ p) := by
  refine gC.ofW R_KeyMap "<init>" (by decide) rfl rfl ?_
  intro p e s m below meth c hadm X hE hH B hne
  refine g_entry [some (.ref mb), none] rfl rfl (Nat.le_of_ble_eq_true rfl) (fun ls hl => ?_)
  refine lv_aload_n X.1.1 X.1.2.1 d_KeyMap_init_0 rfl (gl_at hl rfl) ?_
  refine W.objInit X.1.1 X.1.2.1 X.1.2.2.2.1 (X.1.2.2.2.2 _ mo_KeyMap_3.1) (X.1.2.2.2.2 _ mo_KeyMap_3.2.1) (X.1.2.2.2.2 _ mo_KeyMap_3.2.2) rfl (by rw [X.1.2.2.1]; exact hl.1) rfl d_KeyMap_init_1 (Nat.le_of_ble_eq_true rfl) (Nat.le_of_ble_eq_true rfl) ?_
  refine W.eq (g2 := F0 m 4 ls []) rfl ?_
  refine lv_aload_n X.1.1 X.1.2.1 d_KeyMap_init_4 rfl (gl_at hl rfl) ?_
  refine lv_bipush (v := nI 64) X.1.1 X.1.2.1 d_KeyMap_init_5 (by decide) ?_
  refine g_newq X 3 rfl lk_KeyMap_9 hE 64 (by decide) (show _ ≤ 130 by omega) (show _ ≤ 768 by omega) d_KeyMap_init_7 (fun H1 h2 z3 o4 => ?_)
  rw [hz] at h2 z3 o4 ⊢
  replace ho := ho.kept (o4 _ (by omega))
  refine g_putF (A := (fun p => mb ≤ p)) X B.2.2 kc_KeyMap ho 0 (by decide) lk_KeyMap_11 rfl rfl rfl rfl (Nat.le_of_ble_eq_true rfl) d_KeyMap_init_10 (show mb ≤ _ by omega) (fun _ h => by cases h) (fun H5 locs h6 z7 oq8 hL => ?_)
  replace h2 := h2.kept (oq8 _ (by omega))
  refine lv_iconst (v := nI 0) X.1.1 X.1.2.1 d_KeyMap_init_13 (by decide) ?_
  refine g_istn X.1.1 X.1.2.1 hl 1 d_KeyMap_init_14 rfl (Nat.le_of_ble_eq_true rfl) rfl (fun ls hl => ?_)
  have loop15 : ∀ (fu : Nat) (i : Nat) (f : Nat → Option Nat) (Hn : Heap) (locs : List Loc) (ls : Array Slot), 64 - i < fu → (i ≤ 64) → (∀ j, j < i → f j = some (mb + 2 + 2 * j)) → (va_at D CL (mb, .inr (1, [.ref (mb + 1), .null, .int 0, .int 0])) Hn) → (va_at D CL (mb + 1, .inl (q 3, 64, .inr (.inr (.inr (.inr f))))) Hn) → (∀ j, j < i → kA D q Hn (mb + 2 + 2 * j) []) → (Hn.size = mb + 2 + 2 * i) → (∀ p : Nat, p < mb → Hn[p]? = H[p]?) → (∀ x ∈ locs, (fun p => mb ≤ p) x.base) → gl ls [some (.ref mb), some (.int (nI i))] → W p l e (gR 2 32 130 768) s m ([.ref mb] : List Value).toArray below meth c Hn locs (1 + 2 * i) (64 + 10 * i) (gQ below ([.ref mb] : List Value).toArray s (fun v H1 => v = none ∧ mA D q H1 mb 0 (fun _ => []) (fun _ => 0) 0 ∧ H1.size = mb + 131 ∧ ∀ p : Nat, p < mb → H1[p]? = H[p]?) 130 768 (fun p => mb ≤ p)) (F0 m 15 ls []) := by
    intro fu
    induction fu with
    | zero => intro i f Hn locs ls hmu; omega
    | succ fu ih15 =>
      intro i f Hn locs ls hmu15 hi15_0 hi15_1 ho hf hk hz fr hL hl
      refine lv_iload_n X.1.1 X.1.2.1 d_KeyMap_init_15 rfl (gl_at hl rfl) ?_
      refine lv_bipush (v := nI 64) X.1.1 X.1.2.1 d_KeyMap_init_16 (by decide) ?_
      refine gn_ge X.1.1 X.1.2.1 i 64 (by omega) (by omega) d_KeyMap_init_18 rfl (fun hc18 => ?_) (fun hc18 => ?_)
      · have e9 : 64 = i := by omega
        subst e9
        have hff := hi15_1
        have hz0 : Hn.size = mb + 130 := by omega
        refine lv_aload_n X.1.1 X.1.2.1 d_KeyMap_init_40 rfl (gl_at hl rfl) ?_
        refine lv_bipush (v := nI 64) X.1.1 X.1.2.1 d_KeyMap_init_41 (by decide) ?_
        refine g_newi X 0 rfl ka_int 64 (by decide) (show _ ≤ 130 by omega) (show _ ≤ 768 by omega) d_KeyMap_init_43 (fun H9 h10 z11 o12 => ?_)
        rw [hz0] at h10 z11 o12 ⊢
        replace ho := ho.kept (o12 _ (by omega))
        replace hf := hf.kept (o12 _ (by omega))
        refine g_putF (A := (fun p => mb ≤ p)) X B.2.2 kc_KeyMap ho 1 (by decide) lk_KeyMap_18 rfl rfl rfl rfl (Nat.le_of_ble_eq_true rfl) d_KeyMap_init_45 (show mb ≤ _ by omega) hL (fun H13 locs h14 z15 oq16 hL => ?_)
        replace hf := hf.kept (oq16 _ (by omega))
        replace h10 := h10.kept (oq16 _ (by omega))
        refine g_vret X B ⟨rfl, ⟨h14, by omega, ⟨_, fun j => mb + 2 + 2 * j, hf, hff, fun i hi => ⟨i, hi, rfl⟩, fun i j hi hj h => by (have h9 : mb + 2 + 2 * i = mb + 2 + 2 * j := h); omega, fun i hi => ?_⟩, h10⟩, by omega, fun p hp => ?_⟩ hL d_KeyMap_init_48 (by omega) (by omega)
        · exact ((hk i hi).kept (o12 _ (by omega)) (o12 _ (by omega))).kept (oq16 _ (by omega)) (oq16 _ (by omega))
        · exact (oq16 p (by omega)).trans ((o12 p (by omega)).trans (fr p hp))
      · refine lv_aload_n X.1.1 X.1.2.1 d_KeyMap_init_21 rfl (gl_at hl rfl) ?_
        refine g_get X kc_KeyMap ho 0 (by decide) lk_KeyMap_11 rfl d_KeyMap_init_22 ?_
        refine lv_iload_n X.1.1 X.1.2.1 d_KeyMap_init_25 rfl (gl_at hl rfl) ?_
        refine g_new X kc_Key lk_KeyMap_9 ki_Key.1 ki_Key.2 (fs := [.null, .int 0]) kf_Key (show _ ≤ 130 by omega) (show _ ≤ 768 by omega) d_KeyMap_init_26 (fun H17 h18 z19 o20 => ?_)
        rw [hz] at h18 z19 o20 ⊢
        replace ho := ho.kept (o20 _ (by omega))
        replace hf := hf.kept (o20 _ (by omega))
        refine lv_dup X.1.1 X.1.2.1 d_KeyMap_init_29 rfl ?_
        refine g_ci (A := (fun p => mb ≤ p)) X gWS_good mw_KeyMap_17 (c_Key_init l D q H17 (mb + 2 + 2 * i) (by omega) h18) (fun _ _ _ => trivial) gBlind.tt rfl rfl hl.1 (Nat.le_of_ble_eq_true rfl) rfl rfl ⟨by decide, by decide⟩ ⟨show _ ≤ 130 by omega, show _ ≤ 768 by omega⟩ d_KeyMap_init_30 (fun p (h : _ ≤ p) => show mb ≤ p by omega) hL (fun v21 H22 locs hp23 hL => ?_)
        obtain ⟨rfl, hkk, hzk, frk⟩ := hp23
        replace ho := va_at.kept ho (frk _ (by omega))
        replace hf := va_at.kept hf (frk _ (by omega))
        have hkk1 := hkk.1
        refine g_aast (A := (fun p => mb ≤ p)) X 3 kc_Key hf rfl hkk1 i (by omega) (by decide) d_KeyMap_init_33 (show mb ≤ _ by omega) hL (fun H24 locs h25 z26 oq27 hL => ?_)
        replace ho := ho.kept (oq27 _ (by omega))
        replace hkk1 := hkk1.kept (oq27 _ (by omega))
        refine g_iinc X.1.1 X.1.2.1 (nI (i + 1)) hl 1 d_KeyMap_init_34 rfl (nI_1 _) rfl (fun ls hl => ?_)
        refine lv_goto X.1.1 X.1.2.1 d_KeyMap_init_37 rfl ?_
        refine W.widen (k := 1 + 2 * (i + 1)) (n := 64 + 10 * (i + 1)) (by omega) (by omega) ?_
        exact ih15 (i + 1) (va_up f i (some (mb + 2 + 2 * i))) H24 locs ls (by omega) (by omega) (fun j hj => by
          unfold va_up
          by_cases h9 : j = i
          · rw [if_pos h9, h9]
          · rw [if_neg h9]
            exact hi15_1 j (by omega)) ho h25 (fun j hj => by
          by_cases h9 : j = i
          · subst h9
            exact hkk.kept (oq27 _ (by omega)) (oq27 _ (by omega))
          · exact (((hk j (by omega)).kept (o20 _ (by omega)) (o20 _ (by omega))).kept (frk _ (by omega)) (frk _ (by omega))).kept (oq27 _ (by omega)) (oq27 _ (by omega))) (by omega) (fun p hp => (oq27 p (by omega)).trans ((frk p (by omega)).trans ((o20 p (by omega)).trans (fr p hp)))) hL hl
  refine W.widen (k := 1 + 2 * 0) (n := 64 + 10 * 0) (by omega) (by omega) ?_
  exact loop15 _ 0 (fun _ => none) H5 locs ls (Nat.lt_succ_self _) (by omega) (fun j hj => absurd hj (Nat.not_lt_zero j)) h6 h2 (fun j hj => absurd hj (Nat.not_lt_zero j)) (by omega) (fun p hp => (oq8 p (by omega)).trans (o4 p (by omega))) hL hl
