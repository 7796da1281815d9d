/-! the class KeyHall, 2: printed by wip/specs/hall2.py -/
set_option maxHeartbeats 4000000 in
set_option maxRecDepth 100000 in
theorem c_Hall_found (l : Launch) (D : va_G) (q : Nat → ClassId) (H : Heap) (b : Nat) (c0 : Nat) (ad : Nat → Nat) (org : Nat → Option Nat) (srt : Nat → Nat) (bt : Nat → List Nat) (tn : Nat → Nat) (mp : Nat → Nat) (wk : Nat → Nat × Nat × Nat × Nat) (n : Nat → Nat) (ks : Nat → Nat → List Nat) (vs : Nat → Nat → Int32) (chg : Nat → Nat) (tp : List Nat) (ud : List Nat) (tl : List Nat) (an : Nat) (aks : Nat → List Nat) (aus : List Nat) (xs : List Nat) (us : List (List Nat)) (so : Nat) (hh : hA D q H b c0 ad org srt bt tn mp wk n ks vs chg tp ud tl an aks aus xs us so) (i : Int32) : gC l y_Hall_found (Cond.code y_Hall_found b_Hall_found 2 (some .int) :: gWS) (gR 0 0 0 0) D CL (gY q) (fun _ => True) [.ref b, .int i] H (fun v1 H1 => v1 = some (.int (h_let tl i)) ∧ hA D q H1 b c0 ad org srt bt tn mp wk n ks vs chg tp ud tl an aks aus xs us so ∧ H1.size = H.size ∧ ∀ p : Nat, p < H.size → ¬ hZ b c0 ad p → H1[p]? = H[p]?) 0 0 (fun p => b ≤ p) := by
  refine gC.ofW R_Hall "found" (by decide) rfl rfl ?_
  intro p e s m below meth c hadm X hE hH B hne
  refine g_entry [some (.ref b), some (.int i)] rfl rfl (Nat.le_of_ble_eq_true rfl) (fun ls hl => ?_)
  have hh0 := hh
  obtain ⟨ho, hf, hd, hNN, hVV, hww, hmm, hgg, htp, hud, htl, haa, hxx⟩ := hh
  have hh := hh0
  have frA : ∀ p : Nat, p < H.size → ¬ hZ b c0 ad p → H[p]? = H[p]? := fun _ _ _ => rfl
  have zz : H.size = H.size := rfl
  have htl0 := htl
  refine lv_iload_n X.1.1 X.1.2.1 d_Hall_found_0 rfl (gl_at hl rfl) ?_
  refine lv_iconst (v := (-1)) X.1.1 X.1.2.1 d_Hall_found_1 (by decide) ?_
  refine lv_icmp_ne X.1.1 X.1.2.1 d_Hall_found_2 rfl (fun hc2 => ?_) (fun hc2 => ?_)
  · refine lv_iload_n X.1.1 X.1.2.1 d_Hall_found_13 rfl (gl_at hl rfl) ?_
    refine lv_if_lt X.1.1 X.1.2.1 d_Hall_found_14 rfl (fun hc14 => ?_) (fun hc14 => ?_)
    · refine lv_iconst (v := (-1)) X.1.1 X.1.2.1 d_Hall_found_40 (by decide) ?_
      exact g_iret X B ⟨by rw [h_let_n tl hc2 (fun h => by first | exact h.1 hc14 | exact h.2 hc25)], hh, zz, frA⟩ (fun _ h => by cases h) d_Hall_found_41 (by omega) (by omega)
    · obtain ⟨kta, ⟨ktf, ktb, ktg⟩, ktl, ktc⟩ := htl
      refine lv_iload_n X.1.1 X.1.2.1 d_Hall_found_17 rfl (gl_at hl rfl) ?_
      refine lv_aload_n X.1.1 X.1.2.1 d_Hall_found_18 rfl (gl_at hl rfl) ?_
      refine g_get X kc_Hall ho 2 (by decide) lk_Hall_19 rfl d_Hall_found_19 ?_
      refine g_get X kc_Key kta 1 (by decide) lk_Hall_59 rfl d_Hall_found_22 ?_
      refine lv_icmp_ge X.1.1 X.1.2.1 d_Hall_found_25 rfl (fun hc25 => ?_) (fun hc25 => ?_)
      · refine lv_iconst (v := (-1)) X.1.1 X.1.2.1 d_Hall_found_40 (by decide) ?_
        exact g_iret X B ⟨by rw [h_let_n tl hc2 (fun h => by first | exact h.1 hc14 | exact h.2 hc25)], hh, zz, frA⟩ (fun _ h => by cases h) d_Hall_found_41 (by omega) (by omega)
      · obtain ⟨k, hk, rfl⟩ := h_okN (by omega) ⟨hc14, hc25⟩
        refine lv_aload_n X.1.1 X.1.2.1 d_Hall_found_28 rfl (gl_at hl rfl) ?_
        refine g_get X kc_Hall ho 2 (by decide) lk_Hall_19 rfl d_Hall_found_29 ?_
        refine g_get X kc_Key kta 0 (by decide) lk_Hall_135 rfl d_Hall_found_32 ?_
        refine lv_iload_n X.1.1 X.1.2.1 d_Hall_found_35 rfl (gl_at hl rfl) ?_
        refine g_iald X 0 ktb rfl k (by omega) (by decide) d_Hall_found_36 ?_
        refine g_top (nI (tl.getD k 0)) (ktg _ (by omega)) ?_
        refine lv_goto X.1.1 X.1.2.1 d_Hall_found_37 rfl ?_
        exact g_iret X B ⟨by rw [h_let_k tl (by omega) hc2 hk], hh, zz, frA⟩ (fun _ h => by cases h) d_Hall_found_41 (by omega) (by omega)
  · obtain ⟨kta, ⟨ktf, ktb, ktg⟩, ktl, ktc⟩ := htl
    refine lv_aload_n X.1.1 X.1.2.1 d_Hall_found_5 rfl (gl_at hl rfl) ?_
    refine g_get X kc_Hall ho 2 (by decide) lk_Hall_19 rfl d_Hall_found_6 ?_
    refine g_get X kc_Key kta 1 (by decide) lk_Hall_59 rfl d_Hall_found_9 ?_
    exact g_iret X B ⟨by rw [h_let_1 tl hc2], hh, zz, frA⟩ (fun _ h => by cases h) d_Hall_found_12 (by omega) (by omega)
