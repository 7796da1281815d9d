/-! the class KeyHall, 10: printed by wip/specs/hall10.py -/
theorem mk_Hall_62 : Cond.constant R_Hall 62 65535 ∈ gWS := (gWS_at 328 (by decide +kernel) (by decide +kernel))
def t_sh (x : Int64) (y : Int32) : Int64 := (x.toUInt64 >>> (y.toInt64.toUInt64 &&& Int64.toUInt64 63)).toInt64
/-- character number i of a long, from its lowest bits on -/
def t_ch (x : Int64) (i : Nat) : Nat := (t_sh x (nI (16 * i))).toInt32.toBitVec.toNat % 2 ^ 16
theorem t_ch_lt (x : Int64) (i : Nat) : t_ch x i < 65536 := Nat.mod_lt _ (by decide)
/-- the first j of the n characters -/
def h_ty (x : Int64) (n : Nat) : Nat → List Nat
  | 0 => []
  | j + 1 => h_ty x n j ++ [t_ch x (n - 1 - j)]
theorem h_ty_len (x : Int64) (n : Nat) : ∀ j, (h_ty x n j).length = j
  | 0 => rfl
  | j + 1 => by rw [h_ty, List.length_append, h_ty_len x n j, List.length_singleton]
theorem h_ty_s {x : Int64} {n k : Nat} {tp : List Nat} (h : 0 < k) (h1 : k ≤ n) : tp ++ h_ty x n (n - k) ++ [t_ch x (k - 1)] = tp ++ h_ty x n (n - (k - 1)) := by
  rw [show n - (k - 1) = (n - k) + 1 by omega, h_ty, show n - 1 - (n - k) = k - 1 by omega, List.append_assoc]

set_option maxHeartbeats 4000000 in
set_option maxRecDepth 100000 in
theorem c_Hall_typeN (l : Launch) (D : va_G) (q : Nat → ClassId) (H : Heap) (b : Nat) (c0 : Nat) (ad : Nat → Nat) (org : Nat → Option Nat) (srt : Nat → Nat) (bt : Nat → List Nat) (tn : Nat → Nat) (mp : Nat → Nat) (wk : Nat → Nat × Nat × Nat × Nat) (n : Nat → Nat) (ks : Nat → Nat → List Nat) (vs : Nat → Nat → Int32) (chg : Nat → Nat) (tp : List Nat) (ud : List Nat) (tl : List Nat) (an : Nat) (aks : Nat → List Nat) (aus : List Nat) (xs : List Nat) (us : List (List Nat)) (so : Nat) (hh : hA D q H b c0 ad org srt bt tn mp wk n ks vs chg tp ud tl an aks aus xs us so) (x : Int64) (w : Int32) (hbad : ¬ (¬ w < nI 1 ∧ ¬ nI 4 < w ∧ nI tp.length + w ≤ nI 8)) : gC l y_Hall_type (Cond.code y_Hall_type b_Hall_type 5 (some .boolean) :: gWS) (gR 1 21 0 0) D CL (gY q) (fun _ => True) [.ref b, .long x, .int w] H (fun v1 H1 => v1 = some (.int (nI 0)) ∧ hA D q H1 b c0 ad org srt bt tn mp wk n ks vs chg tp ud tl an aks aus xs us so ∧ H1.size = H.size ∧ ∀ p : Nat, p < H.size → ¬ hZ b c0 ad p → H1[p]? = H[p]?) 0 0 (fun p => b ≤ p) := by
  refine gC.ofW R_Hall "type" (by decide) rfl rfl ?_
  intro p e s m below meth c hadm X hE hH B hne
  refine g_entry [some (.ref b), some (.long x), none, some (.int w), none] rfl rfl (Nat.le_of_ble_eq_true rfl) (fun ls hl => ?_)
  have hh0 := hh
  obtain ⟨ho, hf, hd, hNN, hVV, hww, hmm, hgg, htp, hud, htl, haa, hxx⟩ := hh
  have hh := hh0
  have frA : ∀ p : Nat, p < H.size → ¬ hZ b c0 ad p → H[p]? = H[p]? := fun _ _ _ => rfl
  have zz : H.size = H.size := rfl
  have kt9 := htp
  obtain ⟨kta, ⟨ktf, ktb, ktg⟩, ktl, ktc⟩ := kt9
  refine lv_iload_n X.1.1 X.1.2.1 d_Hall_type_0 rfl (gl_at hl rfl) ?_
  refine lv_iconst (v := nI 1) X.1.1 X.1.2.1 d_Hall_type_1 (by decide) ?_
  refine lv_icmp_lt X.1.1 X.1.2.1 d_Hall_type_2 rfl (fun hc2 => ?_) (fun hc2 => ?_)
  · refine lv_iconst (v := nI 0) X.1.1 X.1.2.1 d_Hall_type_24 (by decide) ?_
    exact g_zret X B (by decide) ⟨rfl, hh, zz, frA⟩ (fun _ h => by cases h) d_Hall_type_25 (by omega) (by omega)
  · refine lv_iload_n X.1.1 X.1.2.1 d_Hall_type_5 rfl (gl_at hl rfl) ?_
    refine lv_iconst (v := nI 4) X.1.1 X.1.2.1 d_Hall_type_6 (by decide) ?_
    refine lv_icmp_gt X.1.1 X.1.2.1 d_Hall_type_7 rfl (fun hc7 => ?_) (fun hc7 => ?_)
    · refine lv_iconst (v := nI 0) X.1.1 X.1.2.1 d_Hall_type_24 (by decide) ?_
      exact g_zret X B (by decide) ⟨rfl, hh, zz, frA⟩ (fun _ h => by cases h) d_Hall_type_25 (by omega) (by omega)
    · refine lv_aload_n X.1.1 X.1.2.1 d_Hall_type_10 rfl (gl_at hl rfl) ?_
      refine g_get X kc_Hall ho 0 (by decide) lk_Hall_10 rfl d_Hall_type_11 ?_
      refine g_get X kc_Key kta 1 (by decide) lk_Hall_59 rfl d_Hall_type_14 ?_
      refine lv_iload_n X.1.1 X.1.2.1 d_Hall_type_17 rfl (gl_at hl rfl) ?_
      refine lv_iadd X.1.1 X.1.2.1 d_Hall_type_18 ?_
      refine lv_bipush (v := nI 8) X.1.1 X.1.2.1 d_Hall_type_19 (by decide) ?_
      refine lv_icmp_le X.1.1 X.1.2.1 d_Hall_type_21 rfl (fun hc21 => ?_) (fun hc21 => ?_)
      · exact absurd ⟨hc2, hc7, hc21⟩ hbad
      · refine lv_iconst (v := nI 0) X.1.1 X.1.2.1 d_Hall_type_24 (by decide) ?_
        exact g_zret X B (by decide) ⟨rfl, hh, zz, frA⟩ (fun _ h => by cases h) d_Hall_type_25 (by omega) (by omega)

set_option maxHeartbeats 4000000 in
set_option maxRecDepth 100000 in
theorem c_Hall_type (l : Launch) (D : va_G) (q : Nat → ClassId) (H : Heap) (b : Nat) (c0 : Nat) (ad : Nat → Nat) (org : Nat → Option Nat) (srt : Nat → Nat) (bt : Nat → List Nat) (tn : Nat → Nat) (mp : Nat → Nat) (wk : Nat → Nat × Nat × Nat × Nat) (n : Nat → Nat) (ks : Nat → Nat → List Nat) (vs : Nat → Nat → Int32) (chg : Nat → Nat) (tp : List Nat) (ud : List Nat) (tl : List Nat) (an : Nat) (aks : Nat → List Nat) (aus : List Nat) (xs : List Nat) (us : List (List Nat)) (so : Nat) (hh : hA D q H b c0 ad org srt bt tn mp wk n ks vs chg tp ud tl an aks aus xs us so) (x : Int64) (nn : Nat) (hn1 : 1 ≤ nn) (hn4 : nn ≤ 4) (hlen : tp.length + nn ≤ 8) : gC l y_Hall_type (Cond.code y_Hall_type b_Hall_type 5 (some .boolean) :: gWS) (gR 1 21 0 0) D CL (gY q) (fun _ => True) [.ref b, .long x, .int (nI nn)] H (fun v1 H1 => v1 = some (.int (nI 1)) ∧ hA D q H1 b c0 ad org srt bt tn mp wk n ks vs chg (tp ++ h_ty x nn nn) ud tl an aks aus xs us so ∧ H1.size = H.size ∧ ∀ p : Nat, p < H.size → ¬ hZ b c0 ad p → H1[p]? = H[p]?) 0 0 (fun p => b ≤ p) := by
  refine gC.ofW R_Hall "type" (by decide) rfl rfl ?_
  intro p e s m below meth c hadm X hE hH B hne
  refine g_entry [some (.ref b), some (.long x), none, some (.int (nI nn)), none] rfl rfl (Nat.le_of_ble_eq_true rfl) (fun ls hl => ?_)
  have hh0 := hh
  obtain ⟨ho, hf, hd, hNN, hVV, hww, hmm, hgg, htp, hud, htl, haa, hxx⟩ := hh
  have hh := hh0
  have frA : ∀ p : Nat, p < H.size → ¬ hZ b c0 ad p → H[p]? = H[p]? := fun _ _ _ => rfl
  have zz : H.size = H.size := rfl
  have kt9 := htp
  obtain ⟨kta, ⟨ktf, ktb, ktg⟩, ktl, ktc⟩ := kt9
  refine lv_iload_n X.1.1 X.1.2.1 d_Hall_type_0 rfl (gl_at hl rfl) ?_
  refine lv_iconst (v := nI 1) X.1.1 X.1.2.1 d_Hall_type_1 (by decide) ?_
  refine gn_lt X.1.1 X.1.2.1 nn 1 (by omega) (by omega) d_Hall_type_2 rfl (fun hc2 => ?_) (fun hc2 => ?_)
  · omega
  · refine lv_iload_n X.1.1 X.1.2.1 d_Hall_type_5 rfl (gl_at hl rfl) ?_
    refine lv_iconst (v := nI 4) X.1.1 X.1.2.1 d_Hall_type_6 (by decide) ?_
    refine gn_gt X.1.1 X.1.2.1 nn 4 (by omega) (by omega) d_Hall_type_7 rfl (fun hc7 => ?_) (fun hc7 => ?_)
    · omega
    · refine lv_aload_n X.1.1 X.1.2.1 d_Hall_type_10 rfl (gl_at hl rfl) ?_
      refine g_get X kc_Hall ho 0 (by decide) lk_Hall_10 rfl d_Hall_type_11 ?_
      refine g_get X kc_Key kta 1 (by decide) lk_Hall_59 rfl d_Hall_type_14 ?_
      refine lv_iload_n X.1.1 X.1.2.1 d_Hall_type_17 rfl (gl_at hl rfl) ?_
      refine lv_iadd X.1.1 X.1.2.1 d_Hall_type_18 ?_
      refine g_top (nI (tp.length + nn)) (nI_add _ _) ?_
      refine lv_bipush (v := nI 8) X.1.1 X.1.2.1 d_Hall_type_19 (by decide) ?_
      refine gn_le X.1.1 X.1.2.1 (tp.length + nn) 8 (by omega) (by omega) d_Hall_type_21 rfl (fun hc21 => ?_) (fun hc21 => ?_)
      · refine lv_iload_n X.1.1 X.1.2.1 d_Hall_type_26 rfl (gl_at hl rfl) ?_
        refine lv_iconst (v := nI 1) X.1.1 X.1.2.1 d_Hall_type_27 (by decide) ?_
        refine lv_isub X.1.1 X.1.2.1 d_Hall_type_28 ?_
        refine g_ist X.1.1 X.1.2.1 hl 4 d_Hall_type_29 (Nat.le_of_ble_eq_true rfl) rfl (fun ls hl => ?_)
        have loop31 : ∀ (fu : Nat) (k : Nat) (Hn : Heap) (locs : List Loc) (ls : Array Slot), k < fu → (k ≤ nn) → (hO D Hn b c0) → (kA D q Hn (b + 1) (tp ++ h_ty x nn (nn - k))) → (∀ p : Nat, ¬ (b + 1 ≤ p ∧ p ≤ b + 2) → Hn[p]? = H[p]?) → (Hn.size = H.size) → (∀ x ∈ locs, (fun p => b ≤ p) x.base) → gl ls [some (.ref b), some (.long x), none, some (.int (nI nn)), some (.int (nI k - 1))] → W p l e (gR 1 21 0 0) s m ([.ref b, .long x, .int (nI nn)] : List Value).toArray below meth c Hn locs 0 0 (gQ below ([.ref b, .long x, .int (nI nn)] : List Value).toArray s (fun v1 H1 => v1 = some (.int (nI 1)) ∧ hA D q H1 b c0 ad org srt bt tn mp wk n ks vs chg (tp ++ h_ty x nn nn) ud tl an aks aus xs us so ∧ H1.size = H.size ∧ ∀ p : Nat, p < H.size → ¬ hZ b c0 ad p → H1[p]? = H[p]?) 0 0 (fun p => b ≤ p)) (F0 m 31 ls []) := by
          intro fu
          induction fu with
          | zero => intro k Hn locs ls hmu; omega
          | succ fu ih31 =>
            intro k Hn locs ls hmu31 hi31_0 ho hkt frT zT hL hl
            refine lv_iload X.1.1 X.1.2.1 d_Hall_type_31 (gl_at hl rfl) ?_
            refine lv_if_lt X.1.1 X.1.2.1 d_Hall_type_33 rfl (fun hc33 => ?_) (fun hc33 => ?_)
            · have e9 := gs_lt (by omega) hc33
              subst e9
              refine lv_iconst (v := nI 1) X.1.1 X.1.2.1 d_Hall_type_60 (by decide) ?_
              exact g_zret X B (by decide) ⟨rfl, hh.tape hkt (hud.kept (frT _ (by omega)) (frT _ (by omega))) zT (fun p hp => frT p (by omega)), zT, fun p hp hz => frT p (by have z1 := hZ_b hz; omega)⟩ hL d_Hall_type_61 (by omega) (by omega)
            · have hk0 := gs_nlt hc33
              rw [gs_pos hk0] at hl
              refine lv_aload_n X.1.1 X.1.2.1 d_Hall_type_36 rfl (gl_at hl rfl) ?_
              refine g_get X kc_Hall ho 0 (by decide) lk_Hall_10 rfl d_Hall_type_37 ?_
              refine lv_lload_n X.1.1 X.1.2.1 d_Hall_type_40 rfl (gl_at hl rfl) ?_
              refine lv_bipush (v := nI 16) X.1.1 X.1.2.1 d_Hall_type_41 (by decide) ?_
              refine lv_iload X.1.1 X.1.2.1 d_Hall_type_43 (gl_at hl rfl) ?_
              refine lv_imul X.1.1 X.1.2.1 d_Hall_type_45 ?_
              refine g_top (nI (16 * (k - 1))) (pk_mul _ _) ?_
              refine lv_lushr X.1.1 X.1.2.1 (v := t_sh x (nI (16 * (k - 1)))) d_Hall_type_46 rfl ?_
              refine lv_l2i X.1.1 X.1.2.1 d_Hall_type_47 rfl ?_
              refine lv_ldc X.1.1 X.1.2.1 X.1.2.2.2.1 (X.1.2.2.2.2 _ mk_Hall_62) d_Hall_type_48 ?_
              refine lv_iand X.1.1 X.1.2.1 d_Hall_type_50 ?_
              refine g_top (nI (t_ch x (k - 1))) (pk_and _ 16 (by decide)) ?_
              have hlN := h_ty_len x nn (nn - k)
              refine g_cv (A := (fun p => b ≤ p)) X gWS_good mw_Hall_63 kc_Key hkt.1 (c_Key_append l D q Hn (b + 1) _ hkt (t_ch x (k - 1)) (t_ch_lt _ _) (by rw [List.length_append]; omega)) (fun _ _ _ => trivial) gBlind.tt rfl rfl hl.1 (Nat.le_of_ble_eq_true rfl) rfl rfl ⟨by decide, by decide⟩ ⟨by decide, by decide⟩ d_Hall_type_51 (fun p h => show b ≤ p by omega) hL (fun v1 H2 locs hp3 hL => ?_)
              obtain ⟨rfl, kt1, hz1, fr1⟩ := hp3
              rw [h_ty_s hk0 hi31_0] at kt1
              refine g_iinc X.1.1 X.1.2.1 (nI (k - 1) - 1) hl 4 d_Hall_type_54 rfl (gs_inc _) rfl (fun ls hl => ?_)
              refine lv_goto X.1.1 X.1.2.1 d_Hall_type_57 rfl ?_
              exact ih31 (k - 1) H2 locs ls (by omega) (by omega) (va_at.kept ho (fr1 _ (by omega))) kt1 (fun p hp => (fr1 p (by omega)).trans (frT p hp)) (hz1.trans zT) hL hl
        exact loop31 _ nn H [] ls (Nat.lt_succ_self _) (Nat.le_refl _) ho (by rw [Nat.sub_self]; show kA D q H (b + 1) (tp ++ []); rw [List.append_nil]; exact htp) (fun _ _ => rfl) rfl (fun _ h => by cases h) hl
      · omega
