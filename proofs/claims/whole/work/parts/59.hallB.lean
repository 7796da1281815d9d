/-! the class KeyHall, 11: printed by wip/specs/hall11.py -/
theorem gBlind.ao {C : String} : gBlind (fun U => va_AO C U) := fun U g mk a h => va_AO.moved (Vm.Alike.refl U.vm) h

set_option maxHeartbeats 4000000 in
set_option maxRecDepth 100000 in
theorem h_init_tail (l : Launch) (D : va_G) (q : Nat → ClassId) (H : Heap) (b : Nat) {p : Program} {e : Env} {s : State} {m : MethodId} {below : List Frame} {meth : Method} {c : Code} (X : gX p m c b_Hall_init 2 s ([.ref b] : List Value).toArray R_Hall gWS D CL (gY q)) (hE : va_AO R_Key s ∧ va_AO R_View s ∧ va_Nw (.methodLinkNest R_View 36 y_Walker_init "KeyHall") s) (B : gB meth none "<init>") (Hn : Heap) (f : Nat → Option Nat) (ls : Array Slot) (locs : List Loc) (ho : va_at D CL (b, .inr (9, [.ref (b + 1), .ref (b + 3), .ref (b + 5), .ref (b + 7), .int 0, .null, .null, .null])) Hn) (hvf : va_at D CL (b + 7, .inl (q 4, 12, .inr (.inr (.inr (.inr f))))) Hn) (hff : ∀ j, j < 3 → f j = some (b + 8 + 135 * j)) (ht1 : kA D q Hn (b + 1) []) (ht2 : kA D q Hn (b + 3) []) (ht3 : kA D q Hn (b + 5) []) (hvw : ∀ j, j < 3 → va_at D CL (b + 8 + 135 * j, .inr (2, [.ref (b + 8 + 135 * j + 1), .null, .int (nI 4), .ref (b + 140 + 135 * j), .int (nI 0), .ref (b + 140 + 135 * j + 2), .int 0, .int 0])) Hn ∧ kA D q Hn (b + 140 + 135 * j) [] ∧ va_at D CL (b + 140 + 135 * j + 2, .inr (3, [.int 0, .int 0, .int 0, .int 0])) Hn ∧ mA D q Hn (b + 8 + 135 * j + 1) 0 (fun _ => []) (fun _ => 0) 0) (hz0 : Hn.size = b + 413) (fr : ∀ p : Nat, p < b → Hn[p]? = H[p]?) (hL : ∀ x ∈ locs, (fun p => b ≤ p) x.base) (hl : gl ls [some (.ref b), some (.int (nI 3))]) : W p l e (gR 3 53 561 8698) s m ([.ref b] : List Value).toArray below meth c Hn locs (7 + 136 * 3) (42 + 794 * 3) (gQ below ([.ref b] : List Value).toArray s (fun v1 H1 => v1 = none ∧ hA D q H1 b 3 (fun k => b + 8 + 135 * k) (fun _ => none) (fun _ => 4) (fun _ => []) (fun _ => 0) (fun k => k) (fun _ => (0, 0, 0, 0)) (fun _ => 0) (fun _ _ => []) (fun _ _ => 0) (fun _ => 0) [] [] [] 0 (fun _ => []) [] [] [] 0 ∧ H1.size = b + 559 ∧ ∀ p : Nat, p < b → H1[p]? = H[p]?) 561 8698 (fun p => b ≤ p)) (F0 m 79 ls []) := by
  refine lv_aload_n X.1.1 X.1.2.1 d_Hall_init_79 rfl (gl_at hl rfl) ?_
  refine lv_iconst (v := nI 3) X.1.1 X.1.2.1 d_Hall_init_80 (by decide) ?_
  refine g_put (A := (fun p => b ≤ p)) X kc_Hall ho 4 (by decide) lk_Hall_34 rfl rfl rfl (Nat.le_of_ble_eq_true rfl) d_Hall_init_81 (show b ≤ _ by omega) hL (fun H1 locs h2 z3 oq4 hL => ?_)
  replace hvf := hvf.kept (oq4 _ (by omega))
  replace ht1 := ht1.kept (oq4 _ (by omega)) (oq4 _ (by omega))
  replace ht2 := ht2.kept (oq4 _ (by omega)) (oq4 _ (by omega))
  replace ht3 := ht3.kept (oq4 _ (by omega)) (oq4 _ (by omega))
  have hz5 := z3.trans hz0
  refine lv_aload_n X.1.1 X.1.2.1 d_Hall_init_84 rfl (gl_at hl rfl) ?_
  refine g_new X kc_Edges lk_Hall_38 ki_Edges.1 ki_Edges.2 (fs := [.null, .null]) kf_Edges (show _ ≤ 561 by omega) (show _ ≤ 8698 by omega) d_Hall_init_85 (fun H6 h7 z8 o9 => ?_)
  rw [hz5] at h7 z8 o9 ⊢
  replace h2 := h2.kept (o9 _ (by omega))
  replace hvf := hvf.kept (o9 _ (by omega))
  replace ht1 := ht1.kept (o9 _ (by omega)) (o9 _ (by omega))
  replace ht2 := ht2.kept (o9 _ (by omega)) (o9 _ (by omega))
  replace ht3 := ht3.kept (o9 _ (by omega)) (o9 _ (by omega))
  refine lv_dup X.1.1 X.1.2.1 d_Hall_init_88 rfl ?_
  refine g_ci (A := (fun p => b ≤ p)) X gWS_good mw_Hall_40 (c_Edges_init l D q H6 (b + 413) (by omega) h7) (fun _ _ _ => trivial) gBlind.tt rfl rfl hl.1 (Nat.le_of_ble_eq_true rfl) rfl rfl ⟨by decide, by decide⟩ ⟨show _ ≤ 561 by omega, show _ ≤ 8698 by omega⟩ d_Hall_init_89 (fun p (h : _ ≤ p) => show b ≤ p by omega) hL (fun v10 H11 locs hp12 hL => ?_)
  obtain ⟨rfl, ke1, ke2, ke3, hzk, fre⟩ := hp12
  have hge : hG D q H11 b := ⟨ke1, ke2, ke3⟩
  replace h2 := va_at.kept h2 (fre _ (by omega))
  replace hvf := va_at.kept hvf (fre _ (by omega))
  replace ht1 := ht1.kept (fre _ (by omega)) (fre _ (by omega))
  replace ht2 := ht2.kept (fre _ (by omega)) (fre _ (by omega))
  replace ht3 := ht3.kept (fre _ (by omega)) (fre _ (by omega))
  have hq13 : H11.size = b + 416 := by omega
  refine g_putF (A := (fun p => b ≤ p)) X B.2.2 kc_Hall h2 5 (by decide) lk_Hall_41 rfl rfl rfl rfl (Nat.le_of_ble_eq_true rfl) d_Hall_init_92 (show b ≤ _ by omega) hL (fun H14 locs h15 z16 oq17 hL => ?_)
  replace hvf := hvf.kept (oq17 _ (by omega))
  replace ht1 := ht1.kept (oq17 _ (by omega)) (oq17 _ (by omega))
  replace ht2 := ht2.kept (oq17 _ (by omega)) (oq17 _ (by omega))
  replace ht3 := ht3.kept (oq17 _ (by omega)) (oq17 _ (by omega))
  replace hge := hge.kept (fun p h1 h2 => oq17 p (by omega))
  have hz18 := z16.trans hq13
  refine lv_aload_n X.1.1 X.1.2.1 d_Hall_init_95 rfl (gl_at hl rfl) ?_
  refine g_new X kc_Automaton lk_Hall_45 ki_Automaton.1 ki_Automaton.2 (fs := [.null, .int 0, .null, .null, .null, .null, .int 0, .null, .int 0, .int 0, .int 0]) kf_Automaton (show _ ≤ 561 by omega) (show _ ≤ 8698 by omega) d_Hall_init_96 (fun H19 h20 z21 o22 => ?_)
  rw [hz18] at h20 z21 o22 ⊢
  replace h15 := h15.kept (o22 _ (by omega))
  replace hvf := hvf.kept (o22 _ (by omega))
  replace ht1 := ht1.kept (o22 _ (by omega)) (o22 _ (by omega))
  replace ht2 := ht2.kept (o22 _ (by omega)) (o22 _ (by omega))
  replace ht3 := ht3.kept (o22 _ (by omega)) (o22 _ (by omega))
  replace hge := hge.kept (fun p h1 h2 => o22 p (by omega))
  refine lv_dup X.1.1 X.1.2.1 d_Hall_init_99 rfl ?_
  refine g_ci (A := (fun p => b ≤ p)) X gWS_good mw_Hall_47 (c_Automaton_init l D q H19 (b + 416) (by omega) h20) (fun V h1 h2 => va_AO.moved h2.alike hE.1) gBlind.ao rfl rfl hl.1 (Nat.le_of_ble_eq_true rfl) rfl rfl ⟨by decide, by decide⟩ ⟨show _ ≤ 561 by omega, show _ ≤ 8698 by omega⟩ d_Hall_init_100 (fun p (h : _ ≤ p) => show b ≤ p by omega) hL (fun v23 H24 locs hp25 hL => ?_)
  obtain ⟨rfl, hau, hzk, fra⟩ := hp25
  replace h15 := va_at.kept h15 (fra _ (by omega))
  replace hvf := va_at.kept hvf (fra _ (by omega))
  replace ht1 := ht1.kept (fra _ (by omega)) (fra _ (by omega))
  replace ht2 := ht2.kept (fra _ (by omega)) (fra _ (by omega))
  replace ht3 := ht3.kept (fra _ (by omega)) (fra _ (by omega))
  replace hge := hge.kept (fun p h1 h2 => fra p (by omega))
  have hq26 : H24.size = b + 551 := by omega
  refine g_putF (A := (fun p => b ≤ p)) X B.2.2 kc_Hall h15 6 (by decide) lk_Hall_48 rfl rfl rfl rfl (Nat.le_of_ble_eq_true rfl) d_Hall_init_103 (show b ≤ _ by omega) hL (fun H27 locs h28 z29 oq30 hL => ?_)
  replace hvf := hvf.kept (oq30 _ (by omega))
  replace ht1 := ht1.kept (oq30 _ (by omega)) (oq30 _ (by omega))
  replace ht2 := ht2.kept (oq30 _ (by omega)) (oq30 _ (by omega))
  replace ht3 := ht3.kept (oq30 _ (by omega)) (oq30 _ (by omega))
  replace hge := hge.kept (fun p h1 h2 => oq30 p (by omega))
  replace hau := hau.kept (fun p h1 h2 => oq30 p (by omega))
  have hz31 := z29.trans hq26
  refine lv_aload_n X.1.1 X.1.2.1 d_Hall_init_106 rfl (gl_at hl rfl) ?_
  refine g_new X kc_EditedText lk_Hall_52 ki_EditedText.1 ki_EditedText.2 (fs := [.null, .int 0, .null, .null, .int 0]) kf_EditedText (show _ ≤ 561 by omega) (show _ ≤ 8698 by omega) d_Hall_init_107 (fun H32 h33 z34 o35 => ?_)
  rw [hz31] at h33 z34 o35 ⊢
  replace h28 := h28.kept (o35 _ (by omega))
  replace hvf := hvf.kept (o35 _ (by omega))
  replace ht1 := ht1.kept (o35 _ (by omega)) (o35 _ (by omega))
  replace ht2 := ht2.kept (o35 _ (by omega)) (o35 _ (by omega))
  replace ht3 := ht3.kept (o35 _ (by omega)) (o35 _ (by omega))
  replace hge := hge.kept (fun p h1 h2 => o35 p (by omega))
  replace hau := hau.kept (fun p h1 h2 => o35 p (by omega))
  refine lv_dup X.1.1 X.1.2.1 d_Hall_init_110 rfl ?_
  refine g_ci (A := (fun p => b ≤ p)) X gWS_good mw_Hall_54 (c_EditedText_init l D q H32 (b + 551) (by omega) h33) (fun _ _ _ => trivial) gBlind.tt rfl rfl hl.1 (Nat.le_of_ble_eq_true rfl) rfl rfl ⟨by decide, by decide⟩ ⟨show _ ≤ 561 by omega, show _ ≤ 8698 by omega⟩ d_Hall_init_111 (fun p (h : _ ≤ p) => show b ≤ p by omega) hL (fun v36 H37 locs hp38 hL => ?_)
  obtain ⟨rfl, htx, hzk, frt⟩ := hp38
  replace h28 := va_at.kept h28 (frt _ (by omega))
  replace hvf := va_at.kept hvf (frt _ (by omega))
  replace ht1 := ht1.kept (frt _ (by omega)) (frt _ (by omega))
  replace ht2 := ht2.kept (frt _ (by omega)) (frt _ (by omega))
  replace ht3 := ht3.kept (frt _ (by omega)) (frt _ (by omega))
  replace hge := hge.kept (fun p h1 h2 => frt p (by omega))
  replace hau := hau.kept (fun p h1 h2 => frt p (by omega))
  have hq39 : H37.size = b + 559 := by omega
  refine g_putF (A := (fun p => b ≤ p)) X B.2.2 kc_Hall h28 7 (by decide) lk_Hall_55 rfl rfl rfl rfl (Nat.le_of_ble_eq_true rfl) d_Hall_init_114 (show b ≤ _ by omega) hL (fun H40 locs h41 z42 oq43 hL => ?_)
  replace hvf := hvf.kept (oq43 _ (by omega))
  replace ht1 := ht1.kept (oq43 _ (by omega)) (oq43 _ (by omega))
  replace ht2 := ht2.kept (oq43 _ (by omega)) (oq43 _ (by omega))
  replace ht3 := ht3.kept (oq43 _ (by omega)) (oq43 _ (by omega))
  replace hge := hge.kept (fun p h1 h2 => oq43 p (by omega))
  replace hau := hau.kept (fun p h1 h2 => oq43 p (by omega))
  replace htx := htx.kept (fun p h1 h2 => oq43 p (by omega))
  have hz44 := z42.trans hq39
  have hch : ∀ p : Nat, p < b + 413 → p ≠ b → H40[p]? = Hn[p]? := fun p hp hp2 => ((oq43 p (by omega)).trans ((frt p (by omega)).trans ((o35 p (by omega)).trans ((oq30 p (by omega)).trans ((fra p (by omega)).trans ((o22 p (by omega)).trans ((oq17 p (by omega)).trans ((fre p (by omega)).trans ((o9 p (by omega)).trans (oq4 p (by omega)))))))))))
  refine g_vret X B ⟨rfl, ⟨h41, ⟨f, hvf, hff⟩, ⟨by omega, by omega, by omega, fun _ _ => rfl, fun k k1 k2 => by omega⟩, fun k hk => ⟨fun j hj => (by cases hj), (by show 4 ≤ 4; omega), (by show 0 ≤ 1; omega), hk⟩, fun k hk => ?_, fun k hk => ?_, fun m hm => ⟨?_, fun i j h1 h2 => (by have h3 : j < 0 := h2; omega)⟩, hge, ht1, ht2, ht3, hau, htx⟩, by omega, fun p hp => (hch p (by omega) (by omega)).trans (fr p hp)⟩ hL d_Hall_init_117 (by omega) (by omega)
  · obtain ⟨v1, v2, v3, v4⟩ := hvw k hk
    have e1 : v_bk (fun k => b + 8 + 135 * k) k = b + 140 + 135 * k := by unfold v_bk; rw [if_pos hk]; show b + 8 + 135 * k + 132 = _; omega
    have e2 : v_wk (fun k => b + 8 + 135 * k) k = b + 140 + 135 * k + 2 := by unfold v_wk; rw [if_pos hk]; show b + 8 + 135 * k + 134 = _; omega
    refine ⟨⟨0, 0, ?_⟩, ?_⟩
    · unfold hVc
      rw [e1, e2, show b + 9 + 135 * k = b + 8 + 135 * k + 1 by omega]
      exact va_at.kept v1 (hch (b + 8 + 135 * k) (by omega) (by omega))
    · rw [e1]
      exact v2.kept (hch _ (by omega) (by omega)) (hch _ (by omega) (by omega))
  · obtain ⟨v1, v2, v3, v4⟩ := hvw k hk
    have e2 : v_wk (fun k => b + 8 + 135 * k) k = b + 140 + 135 * k + 2 := by unfold v_wk; rw [if_pos hk]; show b + 8 + 135 * k + 134 = _; omega
    rw [e2]
    exact va_at.kept v3 (hch _ (by omega) (by omega))
  · obtain ⟨v1, v2, v3, v4⟩ := hvw m hm
    rw [show b + 9 + 135 * m = b + 8 + 135 * m + 1 by omega]
    exact v4.kept (fun p h1 h2 => hch p (by omega) (by omega))

set_option maxHeartbeats 4000000 in
set_option maxRecDepth 100000 in
theorem c_Hall_init (l : Launch) (D : va_G) (q : Nat → ClassId) (H : Heap) (b : Nat) (hz : H.size = b + 1) (ho : va_at D CL (b, .inr (9, [.null, .null, .null, .null, .int 0, .null, .null, .null])) H) : gC l y_Hall_init (Cond.code y_Hall_init b_Hall_init 2 none :: gWS) (gR 3 53 561 8698) D CL (gY q) (fun U => va_AO R_Key U ∧ va_AO R_View U ∧ va_Nw (.methodLinkNest R_View 36 y_Walker_init "KeyHall") U) [.ref b] H (fun v1 H1 => v1 = none ∧ hA D q H1 b 3 (fun k => b + 8 + 135 * k) (fun _ => none) (fun _ => 4) (fun _ => []) (fun _ => 0) (fun k => k) (fun _ => (0, 0, 0, 0)) (fun _ => 0) (fun _ _ => []) (fun _ _ => 0) (fun _ => 0) [] [] [] 0 (fun _ => []) [] [] [] 0 ∧ H1.size = b + 559 ∧ ∀ p : Nat, p < b → H1[p]? = H[p]?) 561 8698 (fun p => b ≤ p) := by
  refine gC.ofW R_Hall "<init>" (by decide) rfl rfl ?_
  intro p e s m below meth c hadm X hE hH B hne
  refine g_entry [some (.ref b), none] rfl rfl (Nat.le_of_ble_eq_true rfl) (fun ls hl => ?_)
  refine lv_aload_n X.1.1 X.1.2.1 d_Hall_init_0 rfl (gl_at hl rfl) ?_
  refine W.objInit X.1.1 X.1.2.1 X.1.2.2.2.1 (X.1.2.2.2.2 _ mo_Hall_1.1) (X.1.2.2.2.2 _ mo_Hall_1.2.1) (X.1.2.2.2.2 _ mo_Hall_1.2.2) rfl (by rw [X.1.2.2.1]; exact hl.1) rfl d_Hall_init_1 (Nat.le_of_ble_eq_true rfl) (Nat.le_of_ble_eq_true rfl) ?_
  refine W.eq (g2 := F0 m 4 ls []) rfl ?_
  refine lv_aload_n X.1.1 X.1.2.1 d_Hall_init_4 rfl (gl_at hl rfl) ?_
  refine g_new X kc_Key lk_Hall_7 ki_Key.1 ki_Key.2 (fs := [.null, .int 0]) kf_Key (show _ ≤ 561 by omega) (show _ ≤ 8698 by omega) d_Hall_init_5 (fun H1 h2 z3 o4 => ?_)
  rw [hz] at h2 z3 o4 ⊢
  replace ho := ho.kept (o4 _ (by omega))
  refine lv_dup X.1.1 X.1.2.1 d_Hall_init_8 rfl ?_
  refine g_ci (A := (fun p => b ≤ p)) X gWS_good mw_Hall_9 (c_Key_init l D q H1 (b + 1) (by omega) h2) (fun _ _ _ => trivial) gBlind.tt rfl rfl hl.1 (Nat.le_of_ble_eq_true rfl) rfl rfl ⟨by decide, by decide⟩ ⟨show _ ≤ 561 by omega, show _ ≤ 8698 by omega⟩ d_Hall_init_9 (fun p (h : _ ≤ p) => show b ≤ p by omega) (fun _ h => by cases h) (fun v5 H6 locs hp7 hL => ?_)
  obtain ⟨rfl, ht1, hzk, fk8⟩ := hp7
  replace ho := va_at.kept ho (fk8 _ (by omega))
  have hq9 : H6.size = b + 3 := by omega
  refine g_putF (A := (fun p => b ≤ p)) X B.2.2 kc_Hall ho 0 (by decide) lk_Hall_10 rfl rfl rfl rfl (Nat.le_of_ble_eq_true rfl) d_Hall_init_12 (show b ≤ _ by omega) hL (fun H10 locs h11 z12 oq13 hL => ?_)
  replace ht1 := ht1.kept (oq13 _ (by omega)) (oq13 _ (by omega))
  have hz14 := z12.trans hq9
  refine lv_aload_n X.1.1 X.1.2.1 d_Hall_init_15 rfl (gl_at hl rfl) ?_
  refine g_new X kc_Key lk_Hall_7 ki_Key.1 ki_Key.2 (fs := [.null, .int 0]) kf_Key (show _ ≤ 561 by omega) (show _ ≤ 8698 by omega) d_Hall_init_16 (fun H15 h16 z17 o18 => ?_)
  rw [hz14] at h16 z17 o18 ⊢
  replace h11 := h11.kept (o18 _ (by omega))
  replace ht1 := ht1.kept (o18 _ (by omega)) (o18 _ (by omega))
  refine lv_dup X.1.1 X.1.2.1 d_Hall_init_19 rfl ?_
  refine g_ci (A := (fun p => b ≤ p)) X gWS_good mw_Hall_9 (c_Key_init l D q H15 (b + 3) (by omega) h16) (fun _ _ _ => trivial) gBlind.tt rfl rfl hl.1 (Nat.le_of_ble_eq_true rfl) rfl rfl ⟨by decide, by decide⟩ ⟨show _ ≤ 561 by omega, show _ ≤ 8698 by omega⟩ d_Hall_init_20 (fun p (h : _ ≤ p) => show b ≤ p by omega) hL (fun v19 H20 locs hp21 hL => ?_)
  obtain ⟨rfl, ht2, hzk, fk22⟩ := hp21
  replace h11 := va_at.kept h11 (fk22 _ (by omega))
  replace ht1 := ht1.kept (fk22 _ (by omega)) (fk22 _ (by omega))
  have hq23 : H20.size = b + 5 := by omega
  refine g_putF (A := (fun p => b ≤ p)) X B.2.2 kc_Hall h11 1 (by decide) lk_Hall_16 rfl rfl rfl rfl (Nat.le_of_ble_eq_true rfl) d_Hall_init_23 (show b ≤ _ by omega) hL (fun H24 locs h25 z26 oq27 hL => ?_)
  replace ht1 := ht1.kept (oq27 _ (by omega)) (oq27 _ (by omega))
  replace ht2 := ht2.kept (oq27 _ (by omega)) (oq27 _ (by omega))
  have hz28 := z26.trans hq23
  refine lv_aload_n X.1.1 X.1.2.1 d_Hall_init_26 rfl (gl_at hl rfl) ?_
  refine g_new X kc_Key lk_Hall_7 ki_Key.1 ki_Key.2 (fs := [.null, .int 0]) kf_Key (show _ ≤ 561 by omega) (show _ ≤ 8698 by omega) d_Hall_init_27 (fun H29 h30 z31 o32 => ?_)
  rw [hz28] at h30 z31 o32 ⊢
  replace h25 := h25.kept (o32 _ (by omega))
  replace ht1 := ht1.kept (o32 _ (by omega)) (o32 _ (by omega))
  replace ht2 := ht2.kept (o32 _ (by omega)) (o32 _ (by omega))
  refine lv_dup X.1.1 X.1.2.1 d_Hall_init_30 rfl ?_
  refine g_ci (A := (fun p => b ≤ p)) X gWS_good mw_Hall_9 (c_Key_init l D q H29 (b + 5) (by omega) h30) (fun _ _ _ => trivial) gBlind.tt rfl rfl hl.1 (Nat.le_of_ble_eq_true rfl) rfl rfl ⟨by decide, by decide⟩ ⟨show _ ≤ 561 by omega, show _ ≤ 8698 by omega⟩ d_Hall_init_31 (fun p (h : _ ≤ p) => show b ≤ p by omega) hL (fun v33 H34 locs hp35 hL => ?_)
  obtain ⟨rfl, ht3, hzk, fk36⟩ := hp35
  replace h25 := va_at.kept h25 (fk36 _ (by omega))
  replace ht1 := ht1.kept (fk36 _ (by omega)) (fk36 _ (by omega))
  replace ht2 := ht2.kept (fk36 _ (by omega)) (fk36 _ (by omega))
  have hq37 : H34.size = b + 7 := by omega
  refine g_putF (A := (fun p => b ≤ p)) X B.2.2 kc_Hall h25 2 (by decide) lk_Hall_19 rfl rfl rfl rfl (Nat.le_of_ble_eq_true rfl) d_Hall_init_34 (show b ≤ _ by omega) hL (fun H38 locs h39 z40 oq41 hL => ?_)
  replace ht1 := ht1.kept (oq41 _ (by omega)) (oq41 _ (by omega))
  replace ht2 := ht2.kept (oq41 _ (by omega)) (oq41 _ (by omega))
  replace ht3 := ht3.kept (oq41 _ (by omega)) (oq41 _ (by omega))
  have hz42 := z40.trans hq37
  refine lv_aload_n X.1.1 X.1.2.1 d_Hall_init_37 rfl (gl_at hl rfl) ?_
  refine lv_bipush (v := nI 12) X.1.1 X.1.2.1 d_Hall_init_38 (by decide) ?_
  refine g_newq X 4 rfl lk_Hall_22 hE.2.1 12 (by decide) (show _ ≤ 561 by omega) (show _ ≤ 8698 by omega) d_Hall_init_40 (fun H43 h44 z45 o46 => ?_)
  rw [hz42] at h44 z45 o46 ⊢
  replace h39 := h39.kept (o46 _ (by omega))
  replace ht1 := ht1.kept (o46 _ (by omega)) (o46 _ (by omega))
  replace ht2 := ht2.kept (o46 _ (by omega)) (o46 _ (by omega))
  replace ht3 := ht3.kept (o46 _ (by omega)) (o46 _ (by omega))
  refine g_putF (A := (fun p => b ≤ p)) X B.2.2 kc_Hall h39 3 (by decide) lk_Hall_24 rfl rfl rfl rfl (Nat.le_of_ble_eq_true rfl) d_Hall_init_43 (show b ≤ _ by omega) hL (fun H47 locs h48 z49 oq50 hL => ?_)
  replace h44 := h44.kept (oq50 _ (by omega))
  replace ht1 := ht1.kept (oq50 _ (by omega)) (oq50 _ (by omega))
  replace ht2 := ht2.kept (oq50 _ (by omega)) (oq50 _ (by omega))
  replace ht3 := ht3.kept (oq50 _ (by omega)) (oq50 _ (by omega))
  have hz51 := z49.trans z45
  refine lv_iconst (v := nI 0) X.1.1 X.1.2.1 d_Hall_init_46 (by decide) ?_
  refine g_istn X.1.1 X.1.2.1 hl 1 d_Hall_init_47 rfl (Nat.le_of_ble_eq_true rfl) rfl (fun ls hl => ?_)
  have loop48 : ∀ (fu : Nat) (i : Nat) (f : Nat → Option Nat) (Hn : Heap) (locs : List Loc) (ls : Array Slot), 3 - i < fu → (i ≤ 3) → (∀ j, j < i → f j = some (b + 8 + 135 * j)) → (va_at D CL (b, .inr (9, [.ref (b + 1), .ref (b + 3), .ref (b + 5), .ref (b + 7), .int 0, .null, .null, .null])) Hn) → (va_at D CL (b + 7, .inl (q 4, 12, .inr (.inr (.inr (.inr f))))) Hn) → (kA D q Hn (b + 1) []) → (kA D q Hn (b + 3) []) → (kA D q Hn (b + 5) []) → (∀ j, j < i → va_at D CL (b + 8 + 135 * j, .inr (2, [.ref (b + 8 + 135 * j + 1), .null, .int (nI 4), .ref (b + 140 + 135 * j), .int (nI 0), .ref (b + 140 + 135 * j + 2), .int 0, .int 0])) Hn ∧ kA D q Hn (b + 140 + 135 * j) [] ∧ va_at D CL (b + 140 + 135 * j + 2, .inr (3, [.int 0, .int 0, .int 0, .int 0])) Hn ∧ mA D q Hn (b + 8 + 135 * j + 1) 0 (fun _ => []) (fun _ => 0) 0) → (Hn.size = b + 8 + 135 * i) → (∀ p : Nat, p < b → Hn[p]? = H[p]?) → (∀ x ∈ locs, (fun p => b ≤ p) x.base) → gl ls [some (.ref b), some (.int (nI i))] → W p l e (gR 3 53 561 8698) s m ([.ref b] : List Value).toArray below meth c Hn locs (7 + 136 * i) (42 + 794 * i) (gQ below ([.ref b] : List Value).toArray s (fun v1 H1 => v1 = none ∧ hA D q H1 b 3 (fun k => b + 8 + 135 * k) (fun _ => none) (fun _ => 4) (fun _ => []) (fun _ => 0) (fun k => k) (fun _ => (0, 0, 0, 0)) (fun _ => 0) (fun _ _ => []) (fun _ _ => 0) (fun _ => 0) [] [] [] 0 (fun _ => []) [] [] [] 0 ∧ H1.size = b + 559 ∧ ∀ p : Nat, p < b → H1[p]? = H[p]?) 561 8698 (fun p => b ≤ p)) (F0 m 48 ls []) := by
    intro fu
    induction fu with
    | zero => intro i f Hn locs ls hmu; omega
    | succ fu ih48 =>
      intro i f Hn locs ls hmu48 hi48_0 hi48_1 ho hvf ht1 ht2 ht3 hvw hz fr hL hl
      refine lv_iload_n X.1.1 X.1.2.1 d_Hall_init_48 rfl (gl_at hl rfl) ?_
      refine lv_iconst (v := nI 3) X.1.1 X.1.2.1 d_Hall_init_49 (by decide) ?_
      refine gn_ge X.1.1 X.1.2.1 i 3 (by omega) (by omega) d_Hall_init_50 rfl (fun hc50 => ?_) (fun hc50 => ?_)
      · have e9 : 3 = i := by omega
        subst e9
        have hff := hi48_1
        have hz0 : Hn.size = b + 413 := by omega
        exact h_init_tail l D q H b X hE B Hn f ls locs ho hvf hff ht1 ht2 ht3 hvw hz0 fr hL hl
      · refine lv_aload_n X.1.1 X.1.2.1 d_Hall_init_53 rfl (gl_at hl rfl) ?_
        refine g_get X kc_Hall ho 3 (by decide) lk_Hall_24 rfl d_Hall_init_54 ?_
        refine lv_iload_n X.1.1 X.1.2.1 d_Hall_init_57 rfl (gl_at hl rfl) ?_
        refine g_new X kc_View lk_Hall_22 ki_View.1 ki_View.2 (fs := [.null, .null, .int 0, .null, .int 0, .null, .int 0, .int 0]) kf_View (show _ ≤ 561 by omega) (show _ ≤ 8698 by omega) d_Hall_init_58 (fun H52 h53 z54 o55 => ?_)
        rw [hz] at h53 z54 o55 ⊢
        replace ho := ho.kept (o55 _ (by omega))
        replace hvf := hvf.kept (o55 _ (by omega))
        replace ht1 := ht1.kept (o55 _ (by omega)) (o55 _ (by omega))
        replace ht2 := ht2.kept (o55 _ (by omega)) (o55 _ (by omega))
        replace ht3 := ht3.kept (o55 _ (by omega)) (o55 _ (by omega))
        refine lv_dup X.1.1 X.1.2.1 d_Hall_init_61 rfl ?_
        refine g_new X kc_KeyMap lk_Hall_28 ki_KeyMap.1 ki_KeyMap.2 (fs := [.null, .null, .int 0, .int 0]) kf_KeyMap (show _ ≤ 561 by omega) (show _ ≤ 8698 by omega) d_Hall_init_62 (fun H56 h57 z58 o59 => ?_)
        rw [z54] at h57 z58 o59 ⊢
        replace ho := ho.kept (o59 _ (by omega))
        replace hvf := hvf.kept (o59 _ (by omega))
        replace h53 := h53.kept (o59 _ (by omega))
        replace ht1 := ht1.kept (o59 _ (by omega)) (o59 _ (by omega))
        replace ht2 := ht2.kept (o59 _ (by omega)) (o59 _ (by omega))
        replace ht3 := ht3.kept (o59 _ (by omega)) (o59 _ (by omega))
        refine lv_dup X.1.1 X.1.2.1 d_Hall_init_65 rfl ?_
        refine g_ci (A := (fun p => b ≤ p)) X gWS_good mw_Hall_30 (c_KeyMap_init l D q H56 (b + 8 + 135 * i + 1) (by omega) h57) (fun V h1 h2 => va_AO.moved h2.alike hE.1) gBlind.ao rfl rfl hl.1 (Nat.le_of_ble_eq_true rfl) rfl rfl ⟨by decide, by decide⟩ ⟨show _ ≤ 561 by omega, show _ ≤ 8698 by omega⟩ d_Hall_init_66 (fun p (h : _ ≤ p) => show b ≤ p by omega) hL (fun v60 H61 locs hp62 hL => ?_)
        obtain ⟨rfl, hmi, hzk, frm⟩ := hp62
        replace ho := va_at.kept ho (frm _ (by omega))
        replace hvf := va_at.kept hvf (frm _ (by omega))
        replace h53 := va_at.kept h53 (frm _ (by omega))
        replace ht1 := ht1.kept (frm _ (by omega)) (frm _ (by omega))
        replace ht2 := ht2.kept (frm _ (by omega)) (frm _ (by omega))
        replace ht3 := ht3.kept (frm _ (by omega)) (frm _ (by omega))
        have hq63 : H61.size = b + 140 + 135 * i := by omega
        refine g_ci (A := (fun p => b ≤ p)) X gWS_good mw_Hall_31 (c_View_init l D q H61 (b + 8 + 135 * i) (b + 8 + 135 * i + 1) (b + 140 + 135 * i) (by omega) (by omega) h53) (fun V h1 h2 => va_Nw.warmM h2 hE.2.2) gBlind.nw rfl rfl hl.1 (Nat.le_of_ble_eq_true rfl) rfl rfl ⟨by decide, by decide⟩ ⟨show _ ≤ 561 by omega, show _ ≤ 8698 by omega⟩ d_Hall_init_69 (fun p h => show b ≤ p by omega) hL (fun v64 H65 locs hp66 hL => ?_)
        obtain ⟨rfl, kv, kb, kw, hzk, frv⟩ := hp66
        replace hmi := hmi.kept (fun p h1 h2 => frv p (by omega) (by omega))
        replace ho := va_at.kept ho (frv _ (by omega) (by omega))
        replace hvf := va_at.kept hvf (frv _ (by omega) (by omega))
        have frw : ∀ p : Nat, p < b + 8 + 135 * i → H65[p]? = H61[p]? := fun p hp => frv p (by omega) (by omega)
        replace ht1 := ht1.kept (frw _ (by omega)) (frw _ (by omega))
        replace ht2 := ht2.kept (frw _ (by omega)) (frw _ (by omega))
        replace ht3 := ht3.kept (frw _ (by omega)) (frw _ (by omega))
        have hq67 : H65.size = b + 8 + 135 * (i + 1) := by omega
        refine g_aast (A := (fun p => b ≤ p)) X 4 kc_View hvf rfl kv i (by omega) (by decide) d_Hall_init_72 (show b ≤ _ by omega) hL (fun H68 locs h69 z70 oq71 hL => ?_)
        replace ho := ho.kept (oq71 _ (by omega))
        replace kv := kv.kept (oq71 _ (by omega))
        replace kw := kw.kept (oq71 _ (by omega))
        replace ht1 := ht1.kept (oq71 _ (by omega)) (oq71 _ (by omega))
        replace ht2 := ht2.kept (oq71 _ (by omega)) (oq71 _ (by omega))
        replace ht3 := ht3.kept (oq71 _ (by omega)) (oq71 _ (by omega))
        replace kb := kb.kept (oq71 _ (by omega)) (oq71 _ (by omega))
        replace hmi := hmi.kept (fun p h1 h2 => oq71 p (by omega))
        have hz72 := z70.trans hq67
        refine g_iinc X.1.1 X.1.2.1 (nI (i + 1)) hl 1 d_Hall_init_73 rfl (nI_1 _) rfl (fun ls hl => ?_)
        refine lv_goto X.1.1 X.1.2.1 d_Hall_init_76 rfl ?_
        refine W.widen (k := 7 + 136 * (i + 1)) (n := 42 + 794 * (i + 1)) (by omega) (by omega) ?_
        have frl : ∀ p : Nat, p < b + 8 + 135 * i → p ≠ b + 7 → H68[p]? = Hn[p]? := fun p hp hp2 => ((oq71 p (by omega)).trans ((frw p (by omega)).trans ((frm p (by omega)).trans ((o59 p (by omega)).trans (o55 p (by omega))))))
        exact ih48 (i + 1) (va_up f i (some (b + 8 + 135 * i))) H68 locs ls (by omega) (by omega) (fun j hj => by
          unfold va_up
          by_cases h9 : j = i
          · rw [if_pos h9, h9]
          · rw [if_neg h9]
            exact hi48_1 j (by omega)) ho h69 ht1 ht2 ht3 (fun j hj => by
          by_cases h9 : j = i
          · subst h9
            exact ⟨kv, kb, kw, hmi⟩
          · obtain ⟨v1, v2, v3, v4⟩ := hvw j (by omega)
            exact ⟨va_at.kept v1 (frl _ (by omega) (by omega)), v2.kept (frl _ (by omega) (by omega)) (frl _ (by omega) (by omega)), va_at.kept v3 (frl _ (by omega) (by omega)), v4.kept (fun p h1 h2 => frl p (by omega) (by omega))⟩) (by omega) (fun p hp => (frl p (by omega) (by omega)).trans (fr p hp)) hL hl
  refine W.widen (k := 7 + 136 * 0) (n := 42 + 794 * 0) (by omega) (by omega) ?_
  exact loop48 _ 0 (fun _ => none) H47 locs ls (Nat.lt_succ_self _) (by omega) (fun j hj => absurd hj (Nat.not_lt_zero j)) h48 h44 ht1 ht2 ht3 (fun j hj => absurd hj (Nat.not_lt_zero j)) (by omega) (fun p hp => ((oq50 p (by omega)).trans ((o46 p (by omega)).trans ((oq41 p (by omega)).trans ((fk36 p (by omega)).trans ((o32 p (by omega)).trans ((oq27 p (by omega)).trans ((fk22 p (by omega)).trans ((o18 p (by omega)).trans ((oq13 p (by omega)).trans ((fk8 p (by omega)).trans (o4 p (by omega))))))))))))) hL hl
