/-! the law from its first instruction: printed by wip/specs/lawf.py -/
theorem kf_Hall : ∀ j, j < 8 → defaultValue (t_Hall j) = vp_V [.null, .null, .null, .null, .int 0, .null, .null, .null] j := kf_zero (by decide +kernel)
theorem ar0_z (k j : Nat) (h : k ≠ 7) : (if k = 7 ∧ j < 3 then (-1 : Int32) else 0) = 0 := if_neg (fun h9 => h h9.1)
theorem tXo_nil (f : Nat → Int32) (o : Nat) : tXo f o [] := fun j hj => absurd hj (Nat.not_lt_zero _)
theorem t16_nil : t16 [] := fun x hx => absurd hx List.not_mem_nil
theorem lP_0 : lP 0 (fun k => if k = 8 then nI 3 else 0) (fun k j => if k = 7 ∧ j < 3 then -1 else 0) 3 (fun _ => none) (fun _ => 4) (fun _ => []) (fun _ => 0) (fun k => k) (fun _ => (0, 0, 0, 0)) (fun _ => 0) (fun _ _ => []) (fun _ _ => 0) (fun _ => 0) [] [] 0 (fun _ => []) [] [] := by
  have z : ∀ k j, k ≠ 7 → (if k = 7 ∧ j < 3 then (-1 : Int32) else 0) = nI 0 := fun k j h => ar0_z k j h
  refine ⟨⟨fun _ => [], fun g _ => ⟨tXo_nil _ _, z 5 g (by decide), Nat.zero_le _, t16_nil⟩, fun m _ => ⟨z 2 m (by decide), Nat.zero_le _, z 3 m (by decide)⟩, fun m _ => ⟨fun i hi => absurd hi (Nat.not_lt_zero _), fun i hi => absurd hi (Nat.not_lt_zero _), fun i j hi => absurd hi (Nat.not_lt_zero _)⟩, fun _ _ => Nat.le_refl _⟩,
    ⟨rfl, tXo_nil _ _, Nat.zero_le _, t16_nil⟩, ⟨⟨rfl, by decide, by decide, fun k hk => ⟨if_pos ⟨rfl, hk⟩, fun j hj => (by cases hj), Nat.zero_le _, t16_nil⟩⟩, fun k hk => ⟨hk, Nat.zero_le _, fun _ => ⟨rfl, rfl, rfl⟩, fun j hj => (by cases hj)⟩, fun _ _ => rfl⟩,
    ⟨rfl, tXo_nil _ _, Nat.zero_le _, t16_nil⟩, ⟨0, ⟨rfl, tXo_nil _ _, Nat.zero_le _, t16_nil, rfl, rfl, by decide, Nat.zero_le _, Nat.zero_le _, fun i hi => absurd hi (Nat.not_lt_zero _)⟩, Nat.le_refl _⟩,
    ⟨fun i j _ hj => absurd hj (Nat.not_lt_zero _), fun i hi => absurd hi (Nat.not_lt_zero _), 0, 0, fun _ => [], ⟨rfl, rfl, by decide, by decide, fun s hs => absurd hs (Nat.not_lt_zero _), fun s t hs => absurd hs (Nat.not_lt_zero _), ?_, fun s hs => absurd hs (Nat.not_lt_zero _), fun s c hs => absurd hs (Nat.not_lt_zero _), fun h => absurd h (Nat.lt_irrefl _)⟩, rfl⟩,
    fun k _ => ⟨⟨z 11 k (by decide), Nat.zero_le _⟩, ⟨z 13 k (by decide), Nat.zero_le _⟩, ⟨z 14 k (by decide), Nat.le_refl _⟩, Nat.zero_le _, fun h => absurd rfl h⟩, fun k _ => ⟨z 11 k (by decide), z 13 k (by decide), z 14 k (by decide)⟩⟩
  rintro u ⟨v, i, hi, _⟩
  exact absurd hi (Nat.not_lt_zero _)
def lB (U : State) : Prop := va_AO R_Key U ∧ va_AO R_View U ∧ va_Nw (.methodLinkNest R_View 36 y_Walker_init "KeyHall") U
theorem lB.blind : gBlind lB := fun U g mk a h => ⟨va_AO.moved (Vm.Alike.refl U.vm) h.1, va_AO.moved (Vm.Alike.refl U.vm) h.2.1, va_Nw.same rfl rfl h.2.2⟩
set_option maxHeartbeats 4000000 in
set_option maxRecDepth 100000 in
theorem law_run (l : Launch) (D : va_G) (q : Nat → ClassId) (b z1 z2 : Nat) (F1 F2 : Nat → Int32) {p : Program} {e : Env} {s : State} {m : MethodId} {below : List Frame} {meth : Method} {c : Code} (sc L : Nat) (xs : Nat → Int32) (X : gX p m c code 7 s ([.ref sc] : List Value).toArray R_Law gWS D CL (gY q)) (htr : ∀ e, l.admits e → e.platform.stackTraces = false) (xq : Nat → ClassId) (hE : ∀ U : State, (∀ p : Nat, p < b → U.heap[p]? = s.heap[p]?) → s.WarmedH U.vm → lE b z1 z2 F1 F2 xq U) (hFn : ∀ j, j ≤ 4 → F1 j = nI (fanL j) ∧ F2 j = nI (fanM j)) (hX0 : va_X sc L xs s s.heap) (hLen : L ≤ 2048) (hscb : sc < b) (hbs : b = s.heap.size) (hB : lB s) (hb1 : z1 < b) (hb2 : z2 < b) (Q : State → Prop) (hq : ∀ (H : Heap) (ls : Array Slot), W p l e room_1 s m ([.ref sc] : List Value).toArray below meth c H [] 601024 7293034 Q (F0 m 1304 ls [.int 1])) (ls : Array Slot) (hl : gl ls [some (.ref sc), none, none, none, none, none, none]) : W p l e room_1 s m ([.ref sc] : List Value).toArray below meth c s.heap [] 0 0 Q (F0 m 0 ls []) := by
  refine g_new X kc_Hall lk_Law_8 ki_Hall.1 ki_Hall.2 (fs := [.null, .null, .null, .null, .int 0, .null, .null, .null]) kf_Hall (by decide) (by decide) d_Law_law_0 (fun H1 h1 s1 o1 => ?_)
  rw [← hbs] at h1 s1 o1 ⊢
  refine lv_dup X.1.1 X.1.2.1 d_Law_law_3 rfl ?_
  refine g_ci (A := (fun p => b ≤ p)) X gWS_good mw_Law_62 (c_Hall_init l D q H1 b s1 h1) (fun V h1 h2 => (⟨va_AO.moved h2.alike hB.1, va_AO.moved h2.alike hB.2.1, va_Nw.warmM h2 hB.2.2⟩ : lB V)) lB.blind rfl rfl hl.1 (Nat.le_of_ble_eq_true rfl) rfl rfl ⟨by decide, by decide⟩ ⟨by decide, by decide⟩ d_Law_law_4 (fun _ h => h) (fun x hx => absurd hx List.not_mem_nil) (fun v2 H2 locs hp2 hL => ?_)
  obtain ⟨rfl, ha, s2, o2⟩ := hp2
  refine g_astn X.1.1 X.1.2.1 hl 1 d_Law_law_7 rfl (Nat.le_of_ble_eq_true rfl) rfl (fun ls hl => ?_)
  refine g_new X kc_Model lk_Law_63 ki_Model.1 ki_Model.2 (fs := [.int 0, .null, .int 0, .null, .null, .null, .null, .null, .int 0, .null, .null, .null, .null, .null, .null, .null, .null, .null, .null, .null, .int 0, .null, .int 0, .null, .null, .null, .int 0, .int 0, .int 0, .null, .null, .null, .null, .null, .int 0, .null, .null, .int 0, .int 0]) kf_Model (by decide) (by decide) d_Law_law_8 (fun H3 h3 s3 o3 => ?_)
  rw [s2] at h3 s3 o3 ⊢
  refine lv_dup X.1.1 X.1.2.1 d_Law_law_11 rfl ?_
  refine g_ci (A := (fun p => b ≤ p)) X gWS_good mw_Law_65 (c_Model_init l D q H3 (b + 559) s3 h3) (fun _ _ _ => trivial) gBlind.tt rfl rfl hl.1 (Nat.le_of_ble_eq_true rfl) rfl rfl ⟨by decide, by decide⟩ ⟨by decide, by decide⟩ d_Law_law_12 (fun p (h : b + 559 ≤ p) => show b ≤ p by omega) hL (fun v4 H4 locs hp4 hL => ?_)
  obtain ⟨rfl, hd, s4, o4⟩ := hp4
  replace s4 : H4.size = b + 588 := s4
  refine g_astn X.1.1 X.1.2.1 hl 2 d_Law_law_15 rfl (Nat.le_of_ble_eq_true rfl) rfl (fun ls hl => ?_)
  refine lv_iconst (v := nI 1) X.1.1 X.1.2.1 d_Law_law_16 (by decide) ?_
  refine g_newj X 2 rfl ka_long 1 (by decide) (by decide) (by decide) d_Law_law_17 (fun H5 h5 s5 o5 => ?_)
  rw [s4] at h5 s5 o5 ⊢
  refine g_astn X.1.1 X.1.2.1 hl 3 d_Law_law_19 rfl (Nat.le_of_ble_eq_true rfl) rfl (fun ls hl => ?_)
  refine lv_iconst (v := nI 0) X.1.1 X.1.2.1 d_Law_law_20 (by decide) ?_
  refine g_ist X.1.1 X.1.2.1 hl 4 d_Law_law_21 (Nat.le_of_ble_eq_true rfl) rfl (fun ls hl => ?_)
  have fb : ∀ p : Nat, p < b → H5[p]? = s.heap[p]? := fun p hp => ((((o5 p (by omega)).trans (o4 p (by omega))).trans (o3 p (by omega))).trans (o2 p hp)).trans (o1 p hp)
  have hJ : lJ D q b z1 z2 F1 F2 0 0 H5 := ⟨3, (fun k => b + 8 + 135 * k), (fun _ => none), (fun _ => 4), (fun _ => []), (fun _ => 0), (fun k => k), (fun _ => (0, 0, 0, 0)), (fun _ => 0), (fun _ _ => []), (fun _ _ => 0), (fun _ => 0), [], [], [], 0, (fun _ => []), [], [], [], 0, (fun k => if k = 8 then nI 3 else 0), (fun k j => if k = 7 ∧ j < 3 then -1 else 0), fun _ => 0, ⟨(ha.grow (H1 := H4) (by omega) (fun p hp => (o4 p (by omega)).trans (o3 p (by omega)))).grow (by omega) (fun p hp => o5 p (by omega)), hd.kept (fun p h1 h2 => o5 p (by omega)), h5, hb1, hb2, by omega, fun k k1 k2 => by omega⟩, rfl, lP_0⟩
  exact law_loop l D q b z1 z2 F1 F2 sc L xs X htr xq hE hFn hX0 hLen hscb hbs Q hq _ 0 0 0 H5 ls locs _ _ (Nat.lt_succ_self _) (by decide) rfl hJ (fb _ hscb) fb (by decide) (by decide) hL hl
