/-! the class KeyHall, 2: printed by wip/specs/hall2.py -/
set_option maxHeartbeats 4000000 in
set_option maxRecDepth 100000 in
theorem c_Hall_found (l : Launch) (D : va_G) (q : Nat → ClassId) (H : Heap) (b : Nat) (c0 : Nat) (ad : Nat → Nat) (org : Nat → Option Nat) (srt : Nat → Nat) (bt : Nat → List Nat) (tn : Nat → Nat) (mp : Nat → Nat) (wk : Nat → Nat × Nat × Nat × Nat) (n : Nat → Nat) (ks : Nat → Nat → List Nat) (vs : Nat → Nat → Int32) (chg : Nat → Nat) (tp : List Nat) (ud : List Nat) (tl : List Nat) (an : Nat) (aks : Nat → List Nat) (aus : List Nat) (xs : List Nat) (us : List (List Nat)) (so : Nat) (hh : hA D q H b c0 ad org srt bt tn mp wk n ks vs chg tp ud tl an aks aus xs us so) (i : Int32) : gC l y_Hall_found (Cond.code y_Hall_found b_Hall_found 2 (some .int) :: gWS) (gR 0 0 0 0) D CL (gY q) (fun _ => True) [.ref b, .int i] H (fun v1 H1 => v1 = some (.int (h_let tl i)) ∧ hA D q H1 b c0 ad org srt bt tn mp wk n ks vs chg tp ud tl an aks aus xs us so ∧ H1.size = H.size ∧ ∀ p : Nat, p < H.size → ¬ hZ b c0 ad p → H1[p]? = H[p]?) 0 0 (fun p => b ≤ p) := by
  refine gC.ofW R_Hall "found" (by decide) rfl rfl ?_
  intro p e s m below meth c hadm X hE hH B hne
  refine g_entry [some (.ref b), some (.int i)] rfl rfl (Nat.le_of_ble_eq_true rfl) (fun ls hl => ?_)
  have hh0 := hh
  obtain ⟨ho, hf, hd, hNN, hVV, hww, hmm, hgg, htp, hud, htl, haa, hxx⟩ := hh
  have hh := hh0
  have frA : ∀ p : Nat, p < H.size → ¬ hZ b c0 ad p → H[p]? = H[p]? := fun _ _ _ => rfl
  have zz : H.size = H.size := rfl
  have htl0 := htl
  refine lv_iload_n X.1.1 X.1.2.1 d_Hall_found_0 rfl (gl_at hl rfl) ?_
  refine lv_iconst (v := (-1)) X.1.1 X.1.2.1 d_Hall_found_1 (by decide) ?_
  refine lv_icmp_ne X.1.1 X.1.2.1 d_Hall_found_2 rfl (fun hc2 => ?_) (fun hc2 => ?_)
  · refine lv_iload_n X.1.1 X.1.2.1 d_Hall_found_13 rfl (gl_at hl rfl) ?_
    refine lv_if_lt X.1.1 X.1.2.1 d_Hall_found_14 rfl (fun hc14 => ?_) (fun hc14 => ?_)
    · refine lv_iconst (v := (-1)) X.1.1 X.1.2.1 d_Hall_found_40 (by decide) ?_
      exact g_iret X B ⟨by rw [h_let_n tl hc2 (fun h => by first | exact h.1 hc14 | exact h.2 hc25)], hh, zz, frA⟩ (fun _ h => by cases h) d_Hall_found_41 (by omega) (by omega)
    · have kt9 := htl
      obtain ⟨kta, ⟨ktf, ktb, ktg⟩, ktl, ktc⟩ := kt9
      refine lv_iload_n X.1.1 X.1.2.1 d_Hall_found_17 rfl (gl_at hl rfl) ?_
      refine lv_aload_n X.1.1 X.1.2.1 d_Hall_found_18 rfl (gl_at hl rfl) ?_
      refine g_get X kc_Hall ho 2 (by decide) lk_Hall_19 rfl d_Hall_found_19 ?_
      refine g_get X kc_Key kta 1 (by decide) lk_Hall_59 rfl d_Hall_found_22 ?_
      refine lv_icmp_ge X.1.1 X.1.2.1 d_Hall_found_25 rfl (fun hc25 => ?_) (fun hc25 => ?_)
      · refine lv_iconst (v := (-1)) X.1.1 X.1.2.1 d_Hall_found_40 (by decide) ?_
        exact g_iret X B ⟨by rw [h_let_n tl hc2 (fun h => by first | exact h.1 hc14 | exact h.2 hc25)], hh, zz, frA⟩ (fun _ h => by cases h) d_Hall_found_41 (by omega) (by omega)
      · obtain ⟨k, hk, rfl⟩ := h_okN (by omega) ⟨hc14, hc25⟩
        refine lv_aload_n X.1.1 X.1.2.1 d_Hall_found_28 rfl (gl_at hl rfl) ?_
        refine g_get X kc_Hall ho 2 (by decide) lk_Hall_19 rfl d_Hall_found_29 ?_
        refine g_get X kc_Key kta 0 (by decide) lk_Hall_135 rfl d_Hall_found_32 ?_
        refine lv_iload_n X.1.1 X.1.2.1 d_Hall_found_35 rfl (gl_at hl rfl) ?_
        refine g_iald X 0 ktb rfl k (by omega) (by decide) d_Hall_found_36 ?_
        refine g_top (nI (tl.getD k 0)) (ktg _ (by omega)) ?_
        refine lv_goto X.1.1 X.1.2.1 d_Hall_found_37 rfl ?_
        exact g_iret X B ⟨by rw [h_let_k tl (by omega) hc2 hk], hh, zz, frA⟩ (fun _ h => by cases h) d_Hall_found_41 (by omega) (by omega)
  · have kt9 := htl
    obtain ⟨kta, ⟨ktf, ktb, ktg⟩, ktl, ktc⟩ := kt9
    refine lv_aload_n X.1.1 X.1.2.1 d_Hall_found_5 rfl (gl_at hl rfl) ?_
    refine g_get X kc_Hall ho 2 (by decide) lk_Hall_19 rfl d_Hall_found_6 ?_
    refine g_get X kc_Key kta 1 (by decide) lk_Hall_59 rfl d_Hall_found_9 ?_
    exact g_iret X B ⟨by rw [h_let_1 tl hc2], hh, zz, frA⟩ (fun _ h => by cases h) d_Hall_found_12 (by omega) (by omega)

set_option maxHeartbeats 4000000 in
set_option maxRecDepth 100000 in
theorem c_Hall_undo0 (l : Launch) (D : va_G) (q : Nat → ClassId) (H : Heap) (b : Nat) (c0 : Nat) (ad : Nat → Nat) (org : Nat → Option Nat) (srt : Nat → Nat) (bt : Nat → List Nat) (tn : Nat → Nat) (mp : Nat → Nat) (wk : Nat → Nat × Nat × Nat × Nat) (n : Nat → Nat) (ks : Nat → Nat → List Nat) (vs : Nat → Nat → Int32) (chg : Nat → Nat) (tp : List Nat) (ud : List Nat) (tl : List Nat) (an : Nat) (aks : Nat → List Nat) (aus : List Nat) (xs : List Nat) (so : Nat) (hh : hA D q H b c0 ad org srt bt tn mp wk n ks vs chg tp ud tl an aks aus xs [] so) : gC l y_Hall_undo (Cond.code y_Hall_undo b_Hall_undo 1 (some .int) :: gWS) (gR 3 60 0 0) D CL (gY q) (fun _ => True) [.ref b] H (fun v1 H1 => v1 = some (.int (-1)) ∧ hA D q H1 b c0 ad org srt bt tn mp wk n ks vs chg tp ud tl an aks aus xs [] so ∧ H1.size = H.size ∧ ∀ p : Nat, p < H.size → ¬ hZ b c0 ad p → H1[p]? = H[p]?) 0 0 (fun p => b ≤ p) := by
  refine gC.ofW R_Hall "undo" (by decide) rfl rfl ?_
  intro p e s m below meth c hadm X hE hH B hne
  refine g_entry [some (.ref b)] rfl rfl (Nat.le_of_ble_eq_true rfl) (fun ls hl => ?_)
  have hh0 := hh
  obtain ⟨ho, hf, hd, hNN, hVV, hww, hmm, hgg, htp, hud, htl, haa, hxx⟩ := hh
  have hh := hh0
  have frA : ∀ p : Nat, p < H.size → ¬ hZ b c0 ad p → H[p]? = H[p]? := fun _ _ _ => rfl
  have zz : H.size = H.size := rfl
  refine lv_aload_n X.1.1 X.1.2.1 d_Hall_undo_0 rfl (gl_at hl rfl) ?_
  refine g_get X kc_Hall ho 7 (by decide) lk_Hall_55 rfl d_Hall_undo_1 ?_
  refine g_cv (A := (fun p => b ≤ p)) X gWS_good mw_Hall_222 kc_EditedText hxx.1 (c_EditedText_takeBack0 l D q H (b + 551) xs so hxx) (fun _ _ _ => trivial) gBlind.tt rfl rfl hl.1 (Nat.le_of_ble_eq_true rfl) rfl rfl ⟨by decide, by decide⟩ ⟨by decide, by decide⟩ d_Hall_undo_4 (fun _ h => h.elim) (fun _ h => by cases h) (fun v1 H2 locs hp3 hL => ?_)
  obtain ⟨rfl, hHe⟩ := hp3
  rw [hHe]
  refine gn_eq0 X.1.1 X.1.2.1 0 (by omega) d_Hall_undo_7 rfl (fun hc7 => ?_) (fun hc7 => ?_)
  · refine lv_iconst (v := (-1)) X.1.1 X.1.2.1 d_Hall_undo_20 (by decide) ?_
    exact g_iret X B ⟨rfl, hh, zz, frA⟩ hL d_Hall_undo_21 (by omega) (by omega)
  · omega

set_option maxHeartbeats 4000000 in
set_option maxRecDepth 100000 in
theorem c_Hall_undo (l : Launch) (D : va_G) (q : Nat → ClassId) (H : Heap) (b : Nat) (c0 : Nat) (ad : Nat → Nat) (org : Nat → Option Nat) (srt : Nat → Nat) (bt : Nat → List Nat) (tn : Nat → Nat) (mp : Nat → Nat) (wk : Nat → Nat × Nat × Nat × Nat) (n : Nat → Nat) (ks : Nat → Nat → List Nat) (vs : Nat → Nat → Int32) (chg : Nat → Nat) (tp : List Nat) (ud : List Nat) (tl : List Nat) (an : Nat) (aks : Nat → List Nat) (aus : List Nat) (xs : List Nat) (u : List Nat) (us : List (List Nat)) (so : Nat) (hh : hA D q H b c0 ad org srt bt tn mp wk n ks vs chg tp ud tl an aks aus xs (u :: us) so) : gC l y_Hall_undo (Cond.code y_Hall_undo b_Hall_undo 1 (some .int) :: gWS) (gR 3 60 0 0) D CL (gY q) (fun _ => True) [.ref b] H (fun v1 H1 => v1 = some (.int (nI u.length)) ∧ hA D q H1 b c0 ad org srt bt tn mp wk n ks vs chg tp ud tl an aks aus u us 0 ∧ H1.size = H.size ∧ ∀ p : Nat, p < H.size → ¬ hZ b c0 ad p → H1[p]? = H[p]?) 0 0 (fun p => b ≤ p) := by
  refine gC.ofW R_Hall "undo" (by decide) rfl rfl ?_
  intro p e s m below meth c hadm X hE hH B hne
  refine g_entry [some (.ref b)] rfl rfl (Nat.le_of_ble_eq_true rfl) (fun ls hl => ?_)
  have hh0 := hh
  obtain ⟨ho, hf, hd, hNN, hVV, hww, hmm, hgg, htp, hud, htl, haa, hxx⟩ := hh
  have hh := hh0
  have frA : ∀ p : Nat, p < H.size → ¬ hZ b c0 ad p → H[p]? = H[p]? := fun _ _ _ => rfl
  have zz : H.size = H.size := rfl
  refine lv_aload_n X.1.1 X.1.2.1 d_Hall_undo_0 rfl (gl_at hl rfl) ?_
  refine g_get X kc_Hall ho 7 (by decide) lk_Hall_55 rfl d_Hall_undo_1 ?_
  refine g_cv (A := (fun p => b ≤ p)) X gWS_good mw_Hall_222 kc_EditedText hxx.1 (c_EditedText_takeBack l D q H (b + 551) xs u us so hxx) (fun _ _ _ => trivial) gBlind.tt rfl rfl hl.1 (Nat.le_of_ble_eq_true rfl) rfl rfl ⟨by decide, by decide⟩ ⟨by decide, by decide⟩ d_Hall_undo_4 (fun p h => show b ≤ p by omega) (fun _ h => by cases h) (fun v1 H2 locs hp3 hL => ?_)
  obtain ⟨rfl, k1, hz1, fr1⟩ := hp3
  replace frA : ∀ p : Nat, p < H.size → ¬ hZ b c0 ad p → H2[p]? = H[p]? := fun p hp hz => (fr1 p (by (have z1 := hZ_b hz); omega)).trans (frA p hp hz)
  replace zz := hz1.trans zz
  replace hh := hh.text k1 hz1 fr1
  clear ho hf hd hNN hVV hww hmm hgg htp hud htl haa hxx
  have hh0 := hh
  obtain ⟨ho, hf, hd, hNN, hVV, hww, hmm, hgg, htp, hud, htl, haa, hxx⟩ := hh
  have hh := hh0
  refine gn_eq0 X.1.1 X.1.2.1 1 (by omega) d_Hall_undo_7 rfl (fun hc7 => ?_) (fun hc7 => ?_)
  · omega
  · refine lv_aload_n X.1.1 X.1.2.1 d_Hall_undo_10 rfl (gl_at hl rfl) ?_
    refine g_get X kc_Hall ho 7 (by decide) lk_Hall_55 rfl d_Hall_undo_11 ?_
    have hxx0 := hxx
    obtain ⟨hx1, ⟨xf, hx2, hx3⟩, ⟨hxl, hxc, hso⟩, hx4⟩ := hxx0
    refine g_get X kc_EditedText hx1 1 (by decide) lk_Hall_213 rfl d_Hall_undo_14 ?_
    refine lv_goto X.1.1 X.1.2.1 d_Hall_undo_17 rfl ?_
    exact g_iret X B ⟨rfl, hh, zz, frA⟩ hL d_Hall_undo_21 (by omega) (by omega)

def h_ltr (xs : List Nat) (i : Int32) : Int32 := if i = -2 then t_hash xs xs.length else h_let xs i

set_option maxHeartbeats 4000000 in
set_option maxRecDepth 100000 in
theorem c_Hall_letter (l : Launch) (D : va_G) (q : Nat → ClassId) (H : Heap) (b : Nat) (c0 : Nat) (ad : Nat → Nat) (org : Nat → Option Nat) (srt : Nat → Nat) (bt : Nat → List Nat) (tn : Nat → Nat) (mp : Nat → Nat) (wk : Nat → Nat × Nat × Nat × Nat) (n : Nat → Nat) (ks : Nat → Nat → List Nat) (vs : Nat → Nat → Int32) (chg : Nat → Nat) (tp : List Nat) (ud : List Nat) (tl : List Nat) (an : Nat) (aks : Nat → List Nat) (aus : List Nat) (xs : List Nat) (us : List (List Nat)) (so : Nat) (hh : hA D q H b c0 ad org srt bt tn mp wk n ks vs chg tp ud tl an aks aus xs us so) (i : Int32) : gC l y_Hall_letter (Cond.code y_Hall_letter b_Hall_letter 2 (some .int) :: gWS) (gR 1 22 0 0) D CL (gY q) (fun _ => True) [.ref b, .int i] H (fun v1 H1 => v1 = some (.int (h_ltr xs i)) ∧ hA D q H1 b c0 ad org srt bt tn mp wk n ks vs chg tp ud tl an aks aus xs us so ∧ H1.size = H.size ∧ ∀ p : Nat, p < H.size → ¬ hZ b c0 ad p → H1[p]? = H[p]?) 0 0 (fun p => b ≤ p) := by
  refine gC.ofW R_Hall "letter" (by decide) rfl rfl ?_
  intro p e s m below meth c hadm X hE hH B hne
  refine g_entry [some (.ref b), some (.int i)] rfl rfl (Nat.le_of_ble_eq_true rfl) (fun ls hl => ?_)
  have hh0 := hh
  obtain ⟨ho, hf, hd, hNN, hVV, hww, hmm, hgg, htp, hud, htl, haa, hxx⟩ := hh
  have hh := hh0
  have frA : ∀ p : Nat, p < H.size → ¬ hZ b c0 ad p → H[p]? = H[p]? := fun _ _ _ => rfl
  have zz : H.size = H.size := rfl
  have hxx0 := hxx
  obtain ⟨hx1, ⟨xf, hx2, hx3⟩, ⟨hxl, hxc, hso⟩, hx4⟩ := hxx0
  refine lv_iload_n X.1.1 X.1.2.1 d_Hall_letter_0 rfl (gl_at hl rfl) ?_
  refine lv_iconst (v := (-1)) X.1.1 X.1.2.1 d_Hall_letter_1 (by decide) ?_
  refine lv_icmp_ne X.1.1 X.1.2.1 d_Hall_letter_2 rfl (fun hc2 => ?_) (fun hc2 => ?_)
  · refine lv_iload_n X.1.1 X.1.2.1 d_Hall_letter_13 rfl (gl_at hl rfl) ?_
    refine lv_bipush (v := (-2)) X.1.1 X.1.2.1 d_Hall_letter_14 (by decide) ?_
    refine lv_icmp_ne X.1.1 X.1.2.1 d_Hall_letter_16 rfl (fun hc16 => ?_) (fun hc16 => ?_)
    · refine lv_iload_n X.1.1 X.1.2.1 d_Hall_letter_27 rfl (gl_at hl rfl) ?_
      refine lv_if_lt X.1.1 X.1.2.1 d_Hall_letter_28 rfl (fun hc28 => ?_) (fun hc28 => ?_)
      · refine lv_iconst (v := (-1)) X.1.1 X.1.2.1 d_Hall_letter_54 (by decide) ?_
        exact g_iret X B ⟨by unfold h_ltr; rw [if_neg hc16, h_let_n xs hc2 (fun h => by first | exact h.1 hc28 | exact h.2 hc39)], hh, zz, frA⟩ (fun _ h => by cases h) d_Hall_letter_55 (by omega) (by omega)
      · refine lv_iload_n X.1.1 X.1.2.1 d_Hall_letter_31 rfl (gl_at hl rfl) ?_
        refine lv_aload_n X.1.1 X.1.2.1 d_Hall_letter_32 rfl (gl_at hl rfl) ?_
        refine g_get X kc_Hall ho 7 (by decide) lk_Hall_55 rfl d_Hall_letter_33 ?_
        refine g_get X kc_EditedText hx1 1 (by decide) lk_Hall_213 rfl d_Hall_letter_36 ?_
        refine lv_icmp_ge X.1.1 X.1.2.1 d_Hall_letter_39 rfl (fun hc39 => ?_) (fun hc39 => ?_)
        · refine lv_iconst (v := (-1)) X.1.1 X.1.2.1 d_Hall_letter_54 (by decide) ?_
          exact g_iret X B ⟨by unfold h_ltr; rw [if_neg hc16, h_let_n xs hc2 (fun h => by first | exact h.1 hc28 | exact h.2 hc39)], hh, zz, frA⟩ (fun _ h => by cases h) d_Hall_letter_55 (by omega) (by omega)
        · obtain ⟨k, hk, rfl⟩ := h_okN (by omega) ⟨hc28, hc39⟩
          refine lv_aload_n X.1.1 X.1.2.1 d_Hall_letter_42 rfl (gl_at hl rfl) ?_
          refine g_get X kc_Hall ho 7 (by decide) lk_Hall_55 rfl d_Hall_letter_43 ?_
          refine g_get X kc_EditedText hx1 0 (by decide) lk_Hall_229 rfl d_Hall_letter_46 ?_
          refine lv_iload_n X.1.1 X.1.2.1 d_Hall_letter_49 rfl (gl_at hl rfl) ?_
          refine g_iald X 0 hx2 rfl k (by omega) (by decide) d_Hall_letter_50 ?_
          refine g_top (nI (xs.getD k 0)) (hx3 _ (by omega)) ?_
          refine lv_goto X.1.1 X.1.2.1 d_Hall_letter_51 rfl ?_
          exact g_iret X B ⟨by unfold h_ltr; rw [if_neg hc16, h_let_k xs (by omega) hc2 hk], hh, zz, frA⟩ (fun _ h => by cases h) d_Hall_letter_55 (by omega) (by omega)
    · refine lv_aload_n X.1.1 X.1.2.1 d_Hall_letter_19 rfl (gl_at hl rfl) ?_
      refine g_get X kc_Hall ho 7 (by decide) lk_Hall_55 rfl d_Hall_letter_20 ?_
      refine g_cv (A := (fun p => b ≤ p)) X gWS_good mw_Hall_226 kc_EditedText hxx.1 (c_EditedText_hash l D q H (b + 551) xs us so hxx) (fun _ _ _ => trivial) gBlind.tt rfl rfl hl.1 (Nat.le_of_ble_eq_true rfl) rfl rfl ⟨by decide, by decide⟩ ⟨by decide, by decide⟩ d_Hall_letter_23 (fun _ h => h.elim) (fun _ h => by cases h) (fun v1 H2 locs hp3 hL => ?_)
      obtain ⟨rfl, hHe⟩ := hp3
      rw [hHe]
      exact g_iret X B ⟨by unfold h_ltr; rw [if_pos hc16], hh, zz, frA⟩ hL d_Hall_letter_26 (by omega) (by omega)
  · refine lv_aload_n X.1.1 X.1.2.1 d_Hall_letter_5 rfl (gl_at hl rfl) ?_
    refine g_get X kc_Hall ho 7 (by decide) lk_Hall_55 rfl d_Hall_letter_6 ?_
    refine g_get X kc_EditedText hx1 1 (by decide) lk_Hall_213 rfl d_Hall_letter_9 ?_
    exact g_iret X B ⟨by unfold h_ltr; rw [if_neg (by rw [hc2]; decide), h_let_1 xs hc2], hh, zz, frA⟩ (fun _ h => by cases h) d_Hall_letter_12 (by omega) (by omega)

set_option maxHeartbeats 4000000 in
set_option maxRecDepth 100000 in
theorem c_Hall_delete (l : Launch) (D : va_G) (q : Nat → ClassId) (H : Heap) (b : Nat) (c0 : Nat) (ad : Nat → Nat) (org : Nat → Option Nat) (srt : Nat → Nat) (bt : Nat → List Nat) (tn : Nat → Nat) (mp : Nat → Nat) (wk : Nat → Nat × Nat × Nat × Nat) (n : Nat → Nat) (ks : Nat → Nat → List Nat) (vs : Nat → Nat → Int32) (chg : Nat → Nat) (tp : List Nat) (ud : List Nat) (tl : List Nat) (an : Nat) (aks : Nat → List Nat) (aus : List Nat) (xs : List Nat) (us : List (List Nat)) (so : Nat) (hh : hA D q H b c0 ad org srt bt tn mp wk n ks vs chg tp ud tl an aks aus xs us so) (i k : Nat) (hik : i ≤ k) (hk : k ≤ xs.length) : gC l y_Hall_delete (Cond.code y_Hall_delete b_Hall_delete 3 (some .int) :: gWS) (gR 6 81 0 0) D CL (gY q) (fun _ => True) [.ref b, .int (nI i), .int (nI k)] H (fun v1 H1 => v1 = some (.int (nI (xs.take i ++ xs.drop k).length)) ∧ hA D q H1 b c0 ad org srt bt tn mp wk n ks vs chg tp ud tl an aks aus (xs.take i ++ xs.drop k) ((xs :: us).take 20) 0 ∧ H1.size = H.size ∧ ∀ p : Nat, p < H.size → ¬ hZ b c0 ad p → H1[p]? = H[p]?) 0 0 (fun p => b ≤ p) := by
  refine gC.ofW R_Hall "delete" (by decide) rfl rfl ?_
  intro p e s m below meth c hadm X hE hH B hne
  refine g_entry [some (.ref b), some (.int (nI i)), some (.int (nI k))] rfl rfl (Nat.le_of_ble_eq_true rfl) (fun ls hl => ?_)
  have hh0 := hh
  obtain ⟨ho, hf, hd, hNN, hVV, hww, hmm, hgg, htp, hud, htl, haa, hxx⟩ := hh
  have hh := hh0
  have frA : ∀ p : Nat, p < H.size → ¬ hZ b c0 ad p → H[p]? = H[p]? := fun _ _ _ => rfl
  have zz : H.size = H.size := rfl
  have hxx0 := hxx
  obtain ⟨hx1, ⟨xf, hx2, hx3⟩, ⟨hxl, hxc, hso⟩, hx4⟩ := hxx0
  refine lv_iload_n X.1.1 X.1.2.1 d_Hall_delete_0 rfl (gl_at hl rfl) ?_
  refine lv_if_lt X.1.1 X.1.2.1 d_Hall_delete_1 rfl (fun hc1 => ?_) (fun hc1 => ?_)
  · exact absurd hc1 (h_ok_of (c := xs.length + 1) (by omega) (by omega)).1
  · refine lv_iload_n X.1.1 X.1.2.1 d_Hall_delete_4 rfl (gl_at hl rfl) ?_
    refine lv_iload_n X.1.1 X.1.2.1 d_Hall_delete_5 rfl (gl_at hl rfl) ?_
    refine gn_gt X.1.1 X.1.2.1 i k (by omega) (by omega) d_Hall_delete_6 rfl (fun hc6 => ?_) (fun hc6 => ?_)
    · omega
    · refine lv_iload_n X.1.1 X.1.2.1 d_Hall_delete_9 rfl (gl_at hl rfl) ?_
      refine lv_aload_n X.1.1 X.1.2.1 d_Hall_delete_10 rfl (gl_at hl rfl) ?_
      refine g_get X kc_Hall ho 7 (by decide) lk_Hall_55 rfl d_Hall_delete_11 ?_
      refine g_get X kc_EditedText hx1 1 (by decide) lk_Hall_213 rfl d_Hall_delete_14 ?_
      refine gn_le X.1.1 X.1.2.1 k xs.length (by omega) (by omega) d_Hall_delete_17 rfl (fun hc17 => ?_) (fun hc17 => ?_)
      · refine lv_aload_n X.1.1 X.1.2.1 d_Hall_delete_28 rfl (gl_at hl rfl) ?_
        refine g_get X kc_Hall ho 7 (by decide) lk_Hall_55 rfl d_Hall_delete_29 ?_
        refine lv_iload_n X.1.1 X.1.2.1 d_Hall_delete_32 rfl (gl_at hl rfl) ?_
        refine lv_iload_n X.1.1 X.1.2.1 d_Hall_delete_33 rfl (gl_at hl rfl) ?_
        refine g_cv (A := (fun p => b ≤ p)) X gWS_good mw_Hall_218 kc_EditedText hxx.1 (c_EditedText_close l D q H (b + 551) xs us so hxx i k hik hk) (fun _ _ _ => trivial) gBlind.tt rfl rfl hl.1 (Nat.le_of_ble_eq_true rfl) rfl rfl ⟨by decide, by decide⟩ ⟨by decide, by decide⟩ d_Hall_delete_34 (fun p h => show b ≤ p by omega) (fun _ h => by cases h) (fun v1 H2 locs hp3 hL => ?_)
        obtain ⟨rfl, k1, hz1, fr1⟩ := hp3
        replace frA : ∀ p : Nat, p < H.size → ¬ hZ b c0 ad p → H2[p]? = H[p]? := fun p hp hz => (fr1 p (by (have z1 := hZ_b hz); omega)).trans (frA p hp hz)
        replace zz := hz1.trans zz
        replace hh := hh.text k1 hz1 fr1
        clear ho hf hd hNN hVV hww hmm hgg htp hud htl haa hxx
        have hh0 := hh
        obtain ⟨ho, hf, hd, hNN, hVV, hww, hmm, hgg, htp, hud, htl, haa, hxx⟩ := hh
        have hh := hh0
        refine lv_aload_n X.1.1 X.1.2.1 d_Hall_delete_37 rfl (gl_at hl rfl) ?_
        refine g_get X kc_Hall ho 7 (by decide) lk_Hall_55 rfl d_Hall_delete_38 ?_
        have hxx0 := hxx
        obtain ⟨hx1, ⟨xf, hx2, hx3⟩, ⟨hxl, hxc, hso⟩, hx4⟩ := hxx0
        refine g_get X kc_EditedText hx1 1 (by decide) lk_Hall_213 rfl d_Hall_delete_41 ?_
        exact g_iret X B ⟨rfl, hh, zz, frA⟩ hL d_Hall_delete_44 (by omega) (by omega)
      · omega

set_option maxHeartbeats 4000000 in
set_option maxRecDepth 100000 in
theorem t_Hall_delete (l : Launch) (D : va_G) (q : Nat → ClassId) (H : Heap) (b : Nat) (c0 : Nat) (ad : Nat → Nat) (org : Nat → Option Nat) (srt : Nat → Nat) (bt : Nat → List Nat) (tn : Nat → Nat) (mp : Nat → Nat) (wk : Nat → Nat × Nat × Nat × Nat) (n : Nat → Nat) (ks : Nat → Nat → List Nat) (vs : Nat → Nat → Int32) (chg : Nat → Nat) (tp : List Nat) (ud : List Nat) (tl : List Nat) (an : Nat) (aks : Nat → List Nat) (aus : List Nat) (xs : List Nat) (us : List (List Nat)) (so : Nat) (hh : hA D q H b c0 ad org srt bt tn mp wk n ks vs chg tp ud tl an aks aus xs us so) (htr : ∀ e, l.admits e → e.platform.stackTraces = false) (xq : Nat → ClassId) (i k : Int32) (hbad : ¬ (¬ i < 0 ∧ i ≤ k ∧ k ≤ nI xs.length)) : gT l y_Hall_delete (Cond.code y_Hall_delete b_Hall_delete 3 (some .int) :: gWS) (gR 6 81 1 6) D CL (gY q) (fun U => gEs b xq U) [.ref b, .int i, .int k] H (fun x H1 => (∃ ce : Cell, H1[x]? = some ce ∧ ce.cls = xq 0 ∧ ce.vm = .none) ∧ hA D q H1 b c0 ad org srt bt tn mp wk n ks vs chg tp ud tl an aks aus xs us so ∧ H1.size = H.size + 1 ∧ ∀ p : Nat, p < H.size → ¬ hZ b c0 ad p → H1[p]? = H[p]?) 1 6 (fun p => b ≤ p) := by
  refine gT.ofW R_Hall "delete" (by decide) rfl rfl ?_
  intro p e s m below meth c hadm X hE hH B hne
  refine g_entry [some (.ref b), some (.int i), some (.int k)] rfl rfl (Nat.le_of_ble_eq_true rfl) (fun ls hl => ?_)
  have hh0 := hh
  obtain ⟨ho, hf, hd, hNN, hVV, hww, hmm, hgg, htp, hud, htl, haa, hxx⟩ := hh
  have hh := hh0
  have frA : ∀ p : Nat, p < H.size → ¬ hZ b c0 ad p → H[p]? = H[p]? := fun _ _ _ => rfl
  have zz : H.size = H.size := rfl
  have hxx0 := hxx
  obtain ⟨hx1, ⟨xf, hx2, hx3⟩, ⟨hxl, hxc, hso⟩, hx4⟩ := hxx0
  refine lv_iload_n X.1.1 X.1.2.1 d_Hall_delete_0 rfl (gl_at hl rfl) ?_
  refine lv_if_lt X.1.1 X.1.2.1 d_Hall_delete_1 rfl (fun hc1 => ?_) (fun hc1 => ?_)
  · exact g_throw X B hne htr hE 0 (by decide) (fun _ h => by cases h) hl.1 (h := H.size) zz (by rw [hH]; exact Nat.le_refl _) d_Hall_delete_20 d_Hall_delete_23 d_Hall_delete_24 d_Hall_delete_27 (by decide) (by decide) (by decide) (by decide) (fun H1 ce h1 h2 h3 h4 h5 => ⟨⟨ce, h1, h2, h3⟩, hh.grow (by omega) (fun p hp => h5 p (by omega)), h4, fun p hp hz => (h5 p hp).trans (frA p hp hz)⟩) (fun _ h => by cases h) (by decide) (by decide)
  · refine lv_iload_n X.1.1 X.1.2.1 d_Hall_delete_4 rfl (gl_at hl rfl) ?_
    refine lv_iload_n X.1.1 X.1.2.1 d_Hall_delete_5 rfl (gl_at hl rfl) ?_
    refine lv_icmp_gt X.1.1 X.1.2.1 d_Hall_delete_6 rfl (fun hc6 => ?_) (fun hc6 => ?_)
    · exact g_throw X B hne htr hE 0 (by decide) (fun _ h => by cases h) hl.1 (h := H.size) zz (by rw [hH]; exact Nat.le_refl _) d_Hall_delete_20 d_Hall_delete_23 d_Hall_delete_24 d_Hall_delete_27 (by decide) (by decide) (by decide) (by decide) (fun H1 ce h1 h2 h3 h4 h5 => ⟨⟨ce, h1, h2, h3⟩, hh.grow (by omega) (fun p hp => h5 p (by omega)), h4, fun p hp hz => (h5 p hp).trans (frA p hp hz)⟩) (fun _ h => by cases h) (by decide) (by decide)
    · refine lv_iload_n X.1.1 X.1.2.1 d_Hall_delete_9 rfl (gl_at hl rfl) ?_
      refine lv_aload_n X.1.1 X.1.2.1 d_Hall_delete_10 rfl (gl_at hl rfl) ?_
      refine g_get X kc_Hall ho 7 (by decide) lk_Hall_55 rfl d_Hall_delete_11 ?_
      refine g_get X kc_EditedText hx1 1 (by decide) lk_Hall_213 rfl d_Hall_delete_14 ?_
      refine lv_icmp_le X.1.1 X.1.2.1 d_Hall_delete_17 rfl (fun hc17 => ?_) (fun hc17 => ?_)
      · exact absurd ⟨hc1, Int32.not_lt.mp hc6, hc17⟩ hbad
      · exact g_throw X B hne htr hE 0 (by decide) (fun _ h => by cases h) hl.1 (h := H.size) zz (by rw [hH]; exact Nat.le_refl _) d_Hall_delete_20 d_Hall_delete_23 d_Hall_delete_24 d_Hall_delete_27 (by decide) (by decide) (by decide) (by decide) (fun H1 ce h1 h2 h3 h4 h5 => ⟨⟨ce, h1, h2, h3⟩, hh.grow (by omega) (fun p hp => h5 p (by omega)), h4, fun p hp hz => (h5 p hp).trans (frA p hp hz)⟩) (fun _ h => by cases h) (by decide) (by decide)

set_option maxHeartbeats 4000000 in
set_option maxRecDepth 100000 in
theorem c_Hall_insert (l : Launch) (D : va_G) (q : Nat → ClassId) (H : Heap) (b : Nat) (c0 : Nat) (ad : Nat → Nat) (org : Nat → Option Nat) (srt : Nat → Nat) (bt : Nat → List Nat) (tn : Nat → Nat) (mp : Nat → Nat) (wk : Nat → Nat × Nat × Nat × Nat) (n : Nat → Nat) (ks : Nat → Nat → List Nat) (vs : Nat → Nat → Int32) (chg : Nat → Nat) (tp : List Nat) (ud : List Nat) (tl : List Nat) (an : Nat) (aks : Nat → List Nat) (aus : List Nat) (xs : List Nat) (us : List (List Nat)) (so : Nat) (hh : hA D q H b c0 ad org srt bt tn mp wk n ks vs chg tp ud tl an aks aus xs us so) (i : Nat) (hi : i ≤ xs.length) (hlen : xs.length + tp.length ≤ 120) : gC l y_Hall_insert (Cond.code y_Hall_insert b_Hall_insert 2 (some .int) :: gWS) (gR 6 81 0 0) D CL (gY q) (fun _ => True) [.ref b, .int (nI i)] H (fun v1 H1 => v1 = some (.int (nI (xs.take i ++ tp ++ xs.drop i).length)) ∧ hA D q H1 b c0 ad org srt bt tn mp wk n ks vs chg [] tp tl an aks aus (xs.take i ++ tp ++ xs.drop i) ((xs :: us).take 20) 0 ∧ H1.size = H.size ∧ ∀ p : Nat, p < H.size → ¬ hZ b c0 ad p → H1[p]? = H[p]?) 0 0 (fun p => b ≤ p) := by
  refine gC.ofW R_Hall "insert" (by decide) rfl rfl ?_
  intro p e s m below meth c hadm X hE hH B hne
  refine g_entry [some (.ref b), some (.int (nI i))] rfl rfl (Nat.le_of_ble_eq_true rfl) (fun ls hl => ?_)
  have hh0 := hh
  obtain ⟨ho, hf, hd, hNN, hVV, hww, hmm, hgg, htp, hud, htl, haa, hxx⟩ := hh
  have hh := hh0
  have frA : ∀ p : Nat, p < H.size → ¬ hZ b c0 ad p → H[p]? = H[p]? := fun _ _ _ => rfl
  have zz : H.size = H.size := rfl
  have hxx0 := hxx
  obtain ⟨hx1, ⟨xf, hx2, hx3⟩, ⟨hxl, hxc, hso⟩, hx4⟩ := hxx0
  refine lv_iload_n X.1.1 X.1.2.1 d_Hall_insert_0 rfl (gl_at hl rfl) ?_
  refine lv_if_lt X.1.1 X.1.2.1 d_Hall_insert_1 rfl (fun hc1 => ?_) (fun hc1 => ?_)
  · exact absurd hc1 (h_ok_of (c := xs.length + 1) (by omega) (by omega)).1
  · refine lv_iload_n X.1.1 X.1.2.1 d_Hall_insert_4 rfl (gl_at hl rfl) ?_
    refine lv_aload_n X.1.1 X.1.2.1 d_Hall_insert_5 rfl (gl_at hl rfl) ?_
    refine g_get X kc_Hall ho 7 (by decide) lk_Hall_55 rfl d_Hall_insert_6 ?_
    refine g_get X kc_EditedText hx1 1 (by decide) lk_Hall_213 rfl d_Hall_insert_9 ?_
    refine gn_le X.1.1 X.1.2.1 i xs.length (by omega) (by omega) d_Hall_insert_12 rfl (fun hc12 => ?_) (fun hc12 => ?_)
    · refine lv_aload_n X.1.1 X.1.2.1 d_Hall_insert_23 rfl (gl_at hl rfl) ?_
      refine g_cv (A := (fun p => b ≤ p)) X gWS_good mw_Hall_74 kc_Hall ho (c_Hall_useTape l D q H b c0 ho tp ud htp hud) (fun _ _ _ => trivial) gBlind.tt rfl rfl hl.1 (Nat.le_of_ble_eq_true rfl) rfl rfl ⟨by decide, by decide⟩ ⟨by decide, by decide⟩ d_Hall_insert_24 (fun p h => show b ≤ p by omega) (fun _ h => by cases h) (fun v1 H2 locs hp3 hL => ?_)
      obtain ⟨rfl, k1, k2, hz1, fr1⟩ := hp3
      replace frA : ∀ p : Nat, p < H.size → ¬ hZ b c0 ad p → H2[p]? = H[p]? := fun p hp hz => (fr1 p (by (have z1 := hZ_b hz); omega)).trans (frA p hp hz)
      replace zz := hz1.trans zz
      replace hh := hh.tape k1 k2 hz1 fr1
      clear ho hf hd hNN hVV hww hmm hgg htp hud htl haa hxx
      have hh0 := hh
      obtain ⟨ho, hf, hd, hNN, hVV, hww, hmm, hgg, htp, hud, htl, haa, hxx⟩ := hh
      have hh := hh0
      have hxx0 := hxx
      obtain ⟨hx1, ⟨xf, hx2, hx3⟩, ⟨hxl, hxc, hso⟩, hx4⟩ := hxx0
      have ku9 := hud
      obtain ⟨kua, ⟨kuf, kub, kug⟩, kul, kuc⟩ := ku9
      refine lv_aload_n X.1.1 X.1.2.1 d_Hall_insert_27 rfl (gl_at hl rfl) ?_
      refine g_get X kc_Hall ho 7 (by decide) lk_Hall_55 rfl d_Hall_insert_28 ?_
      refine g_get X kc_EditedText hx1 1 (by decide) lk_Hall_213 rfl d_Hall_insert_31 ?_
      refine lv_aload_n X.1.1 X.1.2.1 d_Hall_insert_34 rfl (gl_at hl rfl) ?_
      refine g_get X kc_Hall ho 1 (by decide) lk_Hall_16 rfl d_Hall_insert_35 ?_
      refine g_get X kc_Key kua 1 (by decide) lk_Hall_59 rfl d_Hall_insert_38 ?_
      refine lv_iadd X.1.1 X.1.2.1 d_Hall_insert_41 ?_
      refine g_top (nI (xs.length + tp.length)) (nI_add _ _) ?_
      refine lv_bipush (v := nI 120) X.1.1 X.1.2.1 d_Hall_insert_42 (by decide) ?_
      refine gn_le X.1.1 X.1.2.1 (xs.length + tp.length) 120 (by omega) (by omega) d_Hall_insert_44 rfl (fun hc44 => ?_) (fun hc44 => ?_)
      · refine lv_aload_n X.1.1 X.1.2.1 d_Hall_insert_55 rfl (gl_at hl rfl) ?_
        refine g_get X kc_Hall ho 7 (by decide) lk_Hall_55 rfl d_Hall_insert_56 ?_
        refine lv_iload_n X.1.1 X.1.2.1 d_Hall_insert_59 rfl (gl_at hl rfl) ?_
        refine lv_aload_n X.1.1 X.1.2.1 d_Hall_insert_60 rfl (gl_at hl rfl) ?_
        refine g_get X kc_Hall ho 1 (by decide) lk_Hall_16 rfl d_Hall_insert_61 ?_
        refine g_cv (A := (fun p => b ≤ p)) X gWS_good mw_Hall_214 kc_EditedText hxx.1 (c_EditedText_open l D q H2 (b + 551) xs us so hxx i hi (b + 3) tp hud (by omega) hlen) (fun _ _ _ => trivial) gBlind.tt rfl rfl hl.1 (Nat.le_of_ble_eq_true rfl) rfl rfl ⟨by decide, by decide⟩ ⟨by decide, by decide⟩ d_Hall_insert_64 (fun p h => show b ≤ p by omega) hL (fun v4 H5 locs hp6 hL => ?_)
        obtain ⟨rfl, k1, hz1, fr1⟩ := hp6
        replace frA : ∀ p : Nat, p < H.size → ¬ hZ b c0 ad p → H5[p]? = H[p]? := fun p hp hz => (fr1 p (by (have z1 := hZ_b hz); omega)).trans (frA p hp hz)
        replace zz := hz1.trans zz
        replace hh := hh.text k1 hz1 fr1
        clear ho hf hd hNN hVV hww hmm hgg htp hud htl haa hxx
        have hh0 := hh
        obtain ⟨ho, hf, hd, hNN, hVV, hww, hmm, hgg, htp, hud, htl, haa, hxx⟩ := hh
        have hh := hh0
        refine lv_aload_n X.1.1 X.1.2.1 d_Hall_insert_67 rfl (gl_at hl rfl) ?_
        refine g_get X kc_Hall ho 7 (by decide) lk_Hall_55 rfl d_Hall_insert_68 ?_
        have hxx0 := hxx
        obtain ⟨hx1, ⟨xf, hx2, hx3⟩, ⟨hxl, hxc, hso⟩, hx4⟩ := hxx0
        refine g_get X kc_EditedText hx1 1 (by decide) lk_Hall_213 rfl d_Hall_insert_71 ?_
        exact g_iret X B ⟨rfl, hh, zz, frA⟩ hL d_Hall_insert_74 (by omega) (by omega)
      · omega
    · omega

set_option maxHeartbeats 4000000 in
set_option maxRecDepth 100000 in
theorem t_Hall_insert0 (l : Launch) (D : va_G) (q : Nat → ClassId) (H : Heap) (b : Nat) (c0 : Nat) (ad : Nat → Nat) (org : Nat → Option Nat) (srt : Nat → Nat) (bt : Nat → List Nat) (tn : Nat → Nat) (mp : Nat → Nat) (wk : Nat → Nat × Nat × Nat × Nat) (n : Nat → Nat) (ks : Nat → Nat → List Nat) (vs : Nat → Nat → Int32) (chg : Nat → Nat) (tp : List Nat) (ud : List Nat) (tl : List Nat) (an : Nat) (aks : Nat → List Nat) (aus : List Nat) (xs : List Nat) (us : List (List Nat)) (so : Nat) (hh : hA D q H b c0 ad org srt bt tn mp wk n ks vs chg tp ud tl an aks aus xs us so) (htr : ∀ e, l.admits e → e.platform.stackTraces = false) (xq : Nat → ClassId) (i : Int32) (hbad : ¬ (¬ i < 0 ∧ i ≤ nI xs.length)) : gT l y_Hall_insert (Cond.code y_Hall_insert b_Hall_insert 2 (some .int) :: gWS) (gR 6 81 1 6) D CL (gY q) (fun U => gEs b xq U) [.ref b, .int i] H (fun x H1 => (∃ ce : Cell, H1[x]? = some ce ∧ ce.cls = xq 0 ∧ ce.vm = .none) ∧ hA D q H1 b c0 ad org srt bt tn mp wk n ks vs chg tp ud tl an aks aus xs us so ∧ H1.size = H.size + 1 ∧ ∀ p : Nat, p < H.size → ¬ hZ b c0 ad p → H1[p]? = H[p]?) 1 6 (fun p => b ≤ p) := by
  refine gT.ofW R_Hall "insert" (by decide) rfl rfl ?_
  intro p e s m below meth c hadm X hE hH B hne
  refine g_entry [some (.ref b), some (.int i)] rfl rfl (Nat.le_of_ble_eq_true rfl) (fun ls hl => ?_)
  have hh0 := hh
  obtain ⟨ho, hf, hd, hNN, hVV, hww, hmm, hgg, htp, hud, htl, haa, hxx⟩ := hh
  have hh := hh0
  have frA : ∀ p : Nat, p < H.size → ¬ hZ b c0 ad p → H[p]? = H[p]? := fun _ _ _ => rfl
  have zz : H.size = H.size := rfl
  have hxx0 := hxx
  obtain ⟨hx1, ⟨xf, hx2, hx3⟩, ⟨hxl, hxc, hso⟩, hx4⟩ := hxx0
  refine lv_iload_n X.1.1 X.1.2.1 d_Hall_insert_0 rfl (gl_at hl rfl) ?_
  refine lv_if_lt X.1.1 X.1.2.1 d_Hall_insert_1 rfl (fun hc1 => ?_) (fun hc1 => ?_)
  · exact g_throw X B hne htr hE 0 (by decide) (fun _ h => by cases h) hl.1 (h := H.size) zz (by rw [hH]; exact Nat.le_refl _) d_Hall_insert_15 d_Hall_insert_18 d_Hall_insert_19 d_Hall_insert_22 (by decide) (by decide) (by decide) (by decide) (fun H1 ce h1 h2 h3 h4 h5 => ⟨⟨ce, h1, h2, h3⟩, hh.grow (by omega) (fun p hp => h5 p (by omega)), h4, fun p hp hz => (h5 p hp).trans (frA p hp hz)⟩) (fun _ h => by cases h) (by decide) (by decide)
  · refine lv_iload_n X.1.1 X.1.2.1 d_Hall_insert_4 rfl (gl_at hl rfl) ?_
    refine lv_aload_n X.1.1 X.1.2.1 d_Hall_insert_5 rfl (gl_at hl rfl) ?_
    refine g_get X kc_Hall ho 7 (by decide) lk_Hall_55 rfl d_Hall_insert_6 ?_
    refine g_get X kc_EditedText hx1 1 (by decide) lk_Hall_213 rfl d_Hall_insert_9 ?_
    refine lv_icmp_le X.1.1 X.1.2.1 d_Hall_insert_12 rfl (fun hc12 => ?_) (fun hc12 => ?_)
    · exact absurd ⟨hc1, hc12⟩ hbad
    · exact g_throw X B hne htr hE 0 (by decide) (fun _ h => by cases h) hl.1 (h := H.size) zz (by rw [hH]; exact Nat.le_refl _) d_Hall_insert_15 d_Hall_insert_18 d_Hall_insert_19 d_Hall_insert_22 (by decide) (by decide) (by decide) (by decide) (fun H1 ce h1 h2 h3 h4 h5 => ⟨⟨ce, h1, h2, h3⟩, hh.grow (by omega) (fun p hp => h5 p (by omega)), h4, fun p hp hz => (h5 p hp).trans (frA p hp hz)⟩) (fun _ h => by cases h) (by decide) (by decide)

set_option maxHeartbeats 4000000 in
set_option maxRecDepth 100000 in
theorem t_Hall_insert2 (l : Launch) (D : va_G) (q : Nat → ClassId) (H : Heap) (b : Nat) (c0 : Nat) (ad : Nat → Nat) (org : Nat → Option Nat) (srt : Nat → Nat) (bt : Nat → List Nat) (tn : Nat → Nat) (mp : Nat → Nat) (wk : Nat → Nat × Nat × Nat × Nat) (n : Nat → Nat) (ks : Nat → Nat → List Nat) (vs : Nat → Nat → Int32) (chg : Nat → Nat) (tp : List Nat) (ud : List Nat) (tl : List Nat) (an : Nat) (aks : Nat → List Nat) (aus : List Nat) (xs : List Nat) (us : List (List Nat)) (so : Nat) (hh : hA D q H b c0 ad org srt bt tn mp wk n ks vs chg tp ud tl an aks aus xs us so) (htr : ∀ e, l.admits e → e.platform.stackTraces = false) (xq : Nat → ClassId) (i : Nat) (hi : i ≤ xs.length) (hlen : 120 < xs.length + tp.length) : gT l y_Hall_insert (Cond.code y_Hall_insert b_Hall_insert 2 (some .int) :: gWS) (gR 6 81 1 6) D CL (gY q) (fun U => gEs b xq U) [.ref b, .int (nI i)] H (fun x H1 => (∃ ce : Cell, H1[x]? = some ce ∧ ce.cls = xq 2 ∧ ce.vm = .none) ∧ hA D q H1 b c0 ad org srt bt tn mp wk n ks vs chg [] tp tl an aks aus xs us so ∧ H1.size = H.size + 1 ∧ ∀ p : Nat, p < H.size → ¬ hZ b c0 ad p → H1[p]? = H[p]?) 1 6 (fun p => b ≤ p) := by
  refine gT.ofW R_Hall "insert" (by decide) rfl rfl ?_
  intro p e s m below meth c hadm X hE hH B hne
  refine g_entry [some (.ref b), some (.int (nI i))] rfl rfl (Nat.le_of_ble_eq_true rfl) (fun ls hl => ?_)
  have hh0 := hh
  obtain ⟨ho, hf, hd, hNN, hVV, hww, hmm, hgg, htp, hud, htl, haa, hxx⟩ := hh
  have hh := hh0
  have frA : ∀ p : Nat, p < H.size → ¬ hZ b c0 ad p → H[p]? = H[p]? := fun _ _ _ => rfl
  have zz : H.size = H.size := rfl
  have hxx0 := hxx
  obtain ⟨hx1, ⟨xf, hx2, hx3⟩, ⟨hxl, hxc, hso⟩, hx4⟩ := hxx0
  refine lv_iload_n X.1.1 X.1.2.1 d_Hall_insert_0 rfl (gl_at hl rfl) ?_
  refine lv_if_lt X.1.1 X.1.2.1 d_Hall_insert_1 rfl (fun hc1 => ?_) (fun hc1 => ?_)
  · exact absurd hc1 (h_ok_of (c := xs.length + 1) (by omega) (by omega)).1
  · refine lv_iload_n X.1.1 X.1.2.1 d_Hall_insert_4 rfl (gl_at hl rfl) ?_
    refine lv_aload_n X.1.1 X.1.2.1 d_Hall_insert_5 rfl (gl_at hl rfl) ?_
    refine g_get X kc_Hall ho 7 (by decide) lk_Hall_55 rfl d_Hall_insert_6 ?_
    refine g_get X kc_EditedText hx1 1 (by decide) lk_Hall_213 rfl d_Hall_insert_9 ?_
    refine gn_le X.1.1 X.1.2.1 i xs.length (by omega) (by omega) d_Hall_insert_12 rfl (fun hc12 => ?_) (fun hc12 => ?_)
    · refine lv_aload_n X.1.1 X.1.2.1 d_Hall_insert_23 rfl (gl_at hl rfl) ?_
      refine g_cv (A := (fun p => b ≤ p)) X gWS_good mw_Hall_74 kc_Hall ho (c_Hall_useTape l D q H b c0 ho tp ud htp hud) (fun _ _ _ => trivial) gBlind.tt rfl rfl hl.1 (Nat.le_of_ble_eq_true rfl) rfl rfl ⟨by decide, by decide⟩ ⟨by decide, by decide⟩ d_Hall_insert_24 (fun p h => show b ≤ p by omega) (fun _ h => by cases h) (fun v1 H2 locs hp3 hL => ?_)
      obtain ⟨rfl, k1, k2, hz1, fr1⟩ := hp3
      replace frA : ∀ p : Nat, p < H.size → ¬ hZ b c0 ad p → H2[p]? = H[p]? := fun p hp hz => (fr1 p (by (have z1 := hZ_b hz); omega)).trans (frA p hp hz)
      replace zz := hz1.trans zz
      replace hh := hh.tape k1 k2 hz1 fr1
      clear ho hf hd hNN hVV hww hmm hgg htp hud htl haa hxx
      have hh0 := hh
      obtain ⟨ho, hf, hd, hNN, hVV, hww, hmm, hgg, htp, hud, htl, haa, hxx⟩ := hh
      have hh := hh0
      have hxx0 := hxx
      obtain ⟨hx1, ⟨xf, hx2, hx3⟩, ⟨hxl, hxc, hso⟩, hx4⟩ := hxx0
      have ku9 := hud
      obtain ⟨kua, ⟨kuf, kub, kug⟩, kul, kuc⟩ := ku9
      refine lv_aload_n X.1.1 X.1.2.1 d_Hall_insert_27 rfl (gl_at hl rfl) ?_
      refine g_get X kc_Hall ho 7 (by decide) lk_Hall_55 rfl d_Hall_insert_28 ?_
      refine g_get X kc_EditedText hx1 1 (by decide) lk_Hall_213 rfl d_Hall_insert_31 ?_
      refine lv_aload_n X.1.1 X.1.2.1 d_Hall_insert_34 rfl (gl_at hl rfl) ?_
      refine g_get X kc_Hall ho 1 (by decide) lk_Hall_16 rfl d_Hall_insert_35 ?_
      refine g_get X kc_Key kua 1 (by decide) lk_Hall_59 rfl d_Hall_insert_38 ?_
      refine lv_iadd X.1.1 X.1.2.1 d_Hall_insert_41 ?_
      refine g_top (nI (xs.length + tp.length)) (nI_add _ _) ?_
      refine lv_bipush (v := nI 120) X.1.1 X.1.2.1 d_Hall_insert_42 (by decide) ?_
      refine gn_le X.1.1 X.1.2.1 (xs.length + tp.length) 120 (by omega) (by omega) d_Hall_insert_44 rfl (fun hc44 => ?_) (fun hc44 => ?_)
      · omega
      · exact g_throw X B hne htr hE 2 (by decide) hL hl.1 (h := H.size) zz (by rw [hH]; exact Nat.le_refl _) d_Hall_insert_47 d_Hall_insert_50 d_Hall_insert_51 d_Hall_insert_54 (by decide) (by decide) (by decide) (by decide) (fun H1 ce h1 h2 h3 h4 h5 => ⟨⟨ce, h1, h2, h3⟩, hh.grow (by omega) (fun p hp => h5 p (by omega)), h4, fun p hp hz => (h5 p hp).trans (frA p hp hz)⟩) hL (by decide) (by decide)
    · omega
