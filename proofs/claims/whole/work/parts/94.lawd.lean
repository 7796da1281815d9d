/-! the law's cases type and poll: printed by wip/specs/lawd.py -/
theorem mk_Law_66 : Cond.constantLong R_Law 66 4294967295 ∈ gWS := (gWS_at 1191 (by decide +kernel) (by decide +kernel))

set_option maxHeartbeats 4000000 in
set_option maxRecDepth 100000 in
theorem lc_poll (l : Launch) (D : va_G) (q : Nat → ClassId) (b z1 z2 : Nat) (F1 F2 : Nat → Int32) {p : Program} {e : Env} {s : State} {m : MethodId} {below : List Frame} {meth : Method} {c : Code} (sc L : Nat) (xs : Nat → Int32) (X : gX p m c code 7 s ([.ref sc] : List Value).toArray R_Law gWS D CL (gY q)) (htr : ∀ e, l.admits e → e.platform.stackTraces = false) (xq : Nat → ClassId) (hE : ∀ U : State, (∀ p : Nat, p < b → U.heap[p]? = s.heap[p]?) → s.WarmedH U.vm → lE b z1 z2 F1 F2 xq U) (hFn : ∀ j, j ≤ 4 → F1 j = nI (fanL j) ∧ F2 j = nI (fanM j)) (hX0 : va_X sc L xs s s.heap) (hLen : L ≤ 2048) (hscb : sc < b) (Q : State → Prop) (i T : Nat) (hi : i + 4 ≤ L) (hTb : T < 1048576) (x0 : Int32) (H : Heap) (hJ : lJ D q b z1 z2 F1 F2 T x0 H) (hsc : H[sc]? = s.heap[sc]?) (hfr : ∀ p : Nat, p < b → H[p]? = s.heap[p]?) (ls : Array Slot) (locs : List Loc) (cells slots : Nat) (hcs : cells + 5 ≤ 601024 ∧ slots + 22 ≤ 7293034) (hL : ∀ x ∈ locs, (fun p => b ≤ p) x.base) (hl : gl ls [some (.ref sc), some (.ref b), some (.ref (b + 559)), some (.ref (b + 588)), some (.int (nI i)), none, none]) (kont : ∀ (x1 : Int32) (H1 : Heap) (locs1 : List Loc) (ls1 : Array Slot), lJ D q b z1 z2 F1 F2 (T + 1) x1 H1 → H1[sc]? = s.heap[sc]? → (∀ p : Nat, p < b → H1[p]? = s.heap[p]?) → (∀ x ∈ locs1, (fun p => b ≤ p) x.base) → gl ls1 [some (.ref sc), some (.ref b), some (.ref (b + 559)), some (.ref (b + 588)), some (.int (nI i)), none, none] → W p l e room_1 s m ([.ref sc] : List Value).toArray below meth c H1 locs1 (cells + 5) (slots + 22) Q (F0 m 1297 ls1 [])) : W p l e room_1 s m ([.ref sc] : List Value).toArray below meth c H locs cells slots Q (F0 m 622 ls []) := by
  refine lv_aload_n X.1.1 X.1.2.1 d_Law_law_622 rfl (gl_at hl rfl) ?_
  refine lv_aload_n X.1.1 X.1.2.1 d_Law_law_623 rfl (gl_at hl rfl) ?_
  refine lv_iload X.1.1 X.1.2.1 d_Law_law_624 (gl_at hl rfl) ?_
  refine lv_iconst (v := nI 1) X.1.1 X.1.2.1 d_Law_law_626 (by decide) ?_
  refine lv_iadd X.1.1 X.1.2.1 d_Law_law_627 ?_
  refine g_top (nI (i + 1)) (nI_add _ _) ?_
  refine g_sld X hX0 hsc (i + 1) (by omega) (by omega) d_Law_law_628 ?_
  refine lv_aload_n X.1.1 X.1.2.1 d_Law_law_629 rfl (gl_at hl rfl) ?_
  refine lv_iload X.1.1 X.1.2.1 d_Law_law_630 (gl_at hl rfl) ?_
  refine lv_iconst (v := nI 2) X.1.1 X.1.2.1 d_Law_law_632 (by decide) ?_
  refine lv_iadd X.1.1 X.1.2.1 d_Law_law_633 ?_
  refine g_top (nI (i + 2)) (nI_add _ _) ?_
  refine g_sld X hX0 hsc (i + 2) (by omega) (by omega) d_Law_law_634 ?_
  refine lv_if_eq X.1.1 X.1.2.1 d_Law_law_635 rfl (fun hc635 => ?_) (fun hc635 => ?_)
  · refine lv_iconst (v := nI 0) X.1.1 X.1.2.1 d_Law_law_642 (by decide) ?_
    refine lv_aload_n X.1.1 X.1.2.1 d_Law_law_643 rfl (gl_at hl rfl) ?_
    refine g_csW (A := (fun p => b ≤ p)) X gWS_good mw_Law_103 (l_poll l D q b z1 z2 F1 F2 T x0 H hJ htr xq (xs (i + 1)) 0 (by decide)) (fun U h1 h2 => hE U (fun p hp => by rw [h1]; exact hfr p hp) h2) (lE.blind b z1 z2 F1 F2 xq) rfl rfl hl.1 (Nat.le_of_ble_eq_true rfl) rfl rfl ⟨by decide, by decide⟩ ⟨hcs.1, hcs.2⟩ d_Law_law_644 (fun _ h => h) hL (fun v1 H1 locs hp1 hL => ?_)
    obtain ⟨k, G1, hk3, rfl, ho1, hz1, fb1, ⟨fd1, hd1⟩, hM1⟩ := hp1
    replace hsc := (fb1 _ hscb).trans hsc
    refine g_ist X.1.1 X.1.2.1 hl 5 d_Law_law_647 (Nat.le_of_ble_eq_true rfl) rfl (fun ls hl => ?_)
    refine lv_aload_n X.1.1 X.1.2.1 d_Law_law_649 rfl (gl_at hl rfl) ?_
    refine lv_aload_n X.1.1 X.1.2.1 d_Law_law_650 rfl (gl_at hl rfl) ?_
    refine lv_iload X.1.1 X.1.2.1 d_Law_law_651 (gl_at hl rfl) ?_
    refine lv_iconst (v := nI 1) X.1.1 X.1.2.1 d_Law_law_653 (by decide) ?_
    refine lv_iadd X.1.1 X.1.2.1 d_Law_law_654 ?_
    refine g_top (nI (i + 1)) (nI_add _ _) ?_
    refine g_sld X hX0 hsc (i + 1) (by omega) (by omega) d_Law_law_655 ?_
    refine lv_aload_n X.1.1 X.1.2.1 d_Law_law_656 rfl (gl_at hl rfl) ?_
    refine lv_iload X.1.1 X.1.2.1 d_Law_law_657 (gl_at hl rfl) ?_
    refine lv_iconst (v := nI 2) X.1.1 X.1.2.1 d_Law_law_659 (by decide) ?_
    refine lv_iadd X.1.1 X.1.2.1 d_Law_law_660 ?_
    refine g_top (nI (i + 2)) (nI_add _ _) ?_
    refine g_sld X hX0 hsc (i + 2) (by omega) (by omega) d_Law_law_661 ?_
    refine lv_if_eq X.1.1 X.1.2.1 d_Law_law_662 rfl (fun hc662 => ?_) (fun hc662 => ?_)
    · refine lv_iconst (v := nI 0) X.1.1 X.1.2.1 d_Law_law_669 (by decide) ?_
      refine g_cv (A := (fun p => b ≤ p)) X gWS_good mw_Law_106 kc_Model hd1 hM1 (fun _ _ _ => trivial) gBlind.tt rfl rfl hl.1 (Nat.le_of_ble_eq_true rfl) rfl rfl ⟨by decide, by decide⟩ ⟨hcs.1, hcs.2⟩ d_Law_law_670 (fun _ h => h) hL (fun v2 H2 locs hp2 hL => ?_)
      obtain ⟨z, rfl, hz, ho2, hJ2, hz2, fb2⟩ := hp2
      replace ho1 := va_at.kept ho1 ho2
      replace hsc := (fb2 _ hscb).trans hsc
      have hfr2 : ∀ p : Nat, p < b → H2[p]? = s.heap[p]? := fun p hp => (fb2 p hp).trans ((fb1 p hp).trans (hfr p hp))
      refine g_ist X.1.1 X.1.2.1 hl 6 d_Law_law_673 (Nat.le_of_ble_eq_true rfl) rfl (fun ls hl => ?_)
      refine lv_aload_n X.1.1 X.1.2.1 d_Law_law_675 rfl (gl_at hl rfl) ?_
      obtain ⟨⟨fd2, hd2⟩, hM2⟩ := hJ2.thrown l
      refine g_cv (A := (fun p => b ≤ p)) X gWS_good mw_Law_79 kc_Model hd2 hM2 (fun _ _ _ => trivial) gBlind.tt rfl rfl hl.1 (Nat.le_of_ble_eq_true rfl) rfl rfl ⟨by decide, by decide⟩ ⟨hcs.1, hcs.2⟩ d_Law_law_676 (fun _ h => h.elim) hL (fun v3 H3 locs hp3 hL => ?_)
      obtain ⟨rfl, rfl⟩ := hp3
      refine lv_iload X.1.1 X.1.2.1 d_Law_law_679 (gl_at hl rfl) ?_
      refine gn_eq X.1.1 X.1.2.1 k k (by omega) (by omega) d_Law_law_681 rfl (fun hc681 => ?_) (fun hc681 => ?_)
      · refine lv_iload X.1.1 X.1.2.1 d_Law_law_686 (gl_at hl rfl) ?_
        refine gn_ne0 X.1.1 X.1.2.1 k (by omega) d_Law_law_688 rfl (fun hc688 => ?_) (fun hc688 => ?_)
        · refine lv_goto X.1.1 X.1.2.1 d_Law_law_703 rfl ?_
          exact kont _ _ _ _ hJ2 hsc hfr2 hL (gl_forget (gl_forget hl 5) 6)
        · refine lv_aload_n X.1.1 X.1.2.1 d_Law_law_691 rfl (gl_at hl rfl) ?_
          refine lv_iconst (v := nI 0) X.1.1 X.1.2.1 d_Law_law_692 (by decide) ?_
          refine g_lald X 2 ho1 rfl 0 (by decide) (by decide) d_Law_law_693 ?_
          refine lv_iload X.1.1 X.1.2.1 d_Law_law_694 (gl_at hl rfl) ?_
          refine lv_i2l X.1.1 X.1.2.1 d_Law_law_696 rfl ?_
          rw [hz (by omega)]
          refine g_lcmp0 X.1.1 X.1.2.1 d_Law_law_697 ?_
          refine gn_eq0 X.1.1 X.1.2.1 0 (by omega) d_Law_law_698 rfl (fun hc698 => ?_) (fun hc698 => ?_)
          · refine lv_goto X.1.1 X.1.2.1 d_Law_law_703 rfl ?_
            exact kont _ _ _ _ hJ2 hsc hfr2 hL (gl_forget (gl_forget hl 5) 6)
          · omega
      · omega
    · exact absurd hc635 hc662
  · refine lv_iconst (v := nI 1) X.1.1 X.1.2.1 d_Law_law_638 (by decide) ?_
    refine lv_goto X.1.1 X.1.2.1 d_Law_law_639 rfl ?_
    refine lv_aload_n X.1.1 X.1.2.1 d_Law_law_643 rfl (gl_at hl rfl) ?_
    refine g_csW (A := (fun p => b ≤ p)) X gWS_good mw_Law_103 (l_poll l D q b z1 z2 F1 F2 T x0 H hJ htr xq (xs (i + 1)) 1 (by decide)) (fun U h1 h2 => hE U (fun p hp => by rw [h1]; exact hfr p hp) h2) (lE.blind b z1 z2 F1 F2 xq) rfl rfl hl.1 (Nat.le_of_ble_eq_true rfl) rfl rfl ⟨by decide, by decide⟩ ⟨hcs.1, hcs.2⟩ d_Law_law_644 (fun _ h => h) hL (fun v1 H1 locs hp1 hL => ?_)
    obtain ⟨k, G1, hk3, rfl, ho1, hz1, fb1, ⟨fd1, hd1⟩, hM1⟩ := hp1
    replace hsc := (fb1 _ hscb).trans hsc
    refine g_ist X.1.1 X.1.2.1 hl 5 d_Law_law_647 (Nat.le_of_ble_eq_true rfl) rfl (fun ls hl => ?_)
    refine lv_aload_n X.1.1 X.1.2.1 d_Law_law_649 rfl (gl_at hl rfl) ?_
    refine lv_aload_n X.1.1 X.1.2.1 d_Law_law_650 rfl (gl_at hl rfl) ?_
    refine lv_iload X.1.1 X.1.2.1 d_Law_law_651 (gl_at hl rfl) ?_
    refine lv_iconst (v := nI 1) X.1.1 X.1.2.1 d_Law_law_653 (by decide) ?_
    refine lv_iadd X.1.1 X.1.2.1 d_Law_law_654 ?_
    refine g_top (nI (i + 1)) (nI_add _ _) ?_
    refine g_sld X hX0 hsc (i + 1) (by omega) (by omega) d_Law_law_655 ?_
    refine lv_aload_n X.1.1 X.1.2.1 d_Law_law_656 rfl (gl_at hl rfl) ?_
    refine lv_iload X.1.1 X.1.2.1 d_Law_law_657 (gl_at hl rfl) ?_
    refine lv_iconst (v := nI 2) X.1.1 X.1.2.1 d_Law_law_659 (by decide) ?_
    refine lv_iadd X.1.1 X.1.2.1 d_Law_law_660 ?_
    refine g_top (nI (i + 2)) (nI_add _ _) ?_
    refine g_sld X hX0 hsc (i + 2) (by omega) (by omega) d_Law_law_661 ?_
    refine lv_if_eq X.1.1 X.1.2.1 d_Law_law_662 rfl (fun hc662 => ?_) (fun hc662 => ?_)
    · exact absurd hc662 hc635
    · refine lv_iconst (v := nI 1) X.1.1 X.1.2.1 d_Law_law_665 (by decide) ?_
      refine lv_goto X.1.1 X.1.2.1 d_Law_law_666 rfl ?_
      refine g_cv (A := (fun p => b ≤ p)) X gWS_good mw_Law_106 kc_Model hd1 hM1 (fun _ _ _ => trivial) gBlind.tt rfl rfl hl.1 (Nat.le_of_ble_eq_true rfl) rfl rfl ⟨by decide, by decide⟩ ⟨hcs.1, hcs.2⟩ d_Law_law_670 (fun _ h => h) hL (fun v2 H2 locs hp2 hL => ?_)
      obtain ⟨z, rfl, hz, ho2, hJ2, hz2, fb2⟩ := hp2
      replace ho1 := va_at.kept ho1 ho2
      replace hsc := (fb2 _ hscb).trans hsc
      have hfr2 : ∀ p : Nat, p < b → H2[p]? = s.heap[p]? := fun p hp => (fb2 p hp).trans ((fb1 p hp).trans (hfr p hp))
      refine g_ist X.1.1 X.1.2.1 hl 6 d_Law_law_673 (Nat.le_of_ble_eq_true rfl) rfl (fun ls hl => ?_)
      refine lv_aload_n X.1.1 X.1.2.1 d_Law_law_675 rfl (gl_at hl rfl) ?_
      obtain ⟨⟨fd2, hd2⟩, hM2⟩ := hJ2.thrown l
      refine g_cv (A := (fun p => b ≤ p)) X gWS_good mw_Law_79 kc_Model hd2 hM2 (fun _ _ _ => trivial) gBlind.tt rfl rfl hl.1 (Nat.le_of_ble_eq_true rfl) rfl rfl ⟨by decide, by decide⟩ ⟨hcs.1, hcs.2⟩ d_Law_law_676 (fun _ h => h.elim) hL (fun v3 H3 locs hp3 hL => ?_)
      obtain ⟨rfl, rfl⟩ := hp3
      refine lv_iload X.1.1 X.1.2.1 d_Law_law_679 (gl_at hl rfl) ?_
      refine gn_eq X.1.1 X.1.2.1 k k (by omega) (by omega) d_Law_law_681 rfl (fun hc681 => ?_) (fun hc681 => ?_)
      · refine lv_iload X.1.1 X.1.2.1 d_Law_law_686 (gl_at hl rfl) ?_
        refine gn_ne0 X.1.1 X.1.2.1 k (by omega) d_Law_law_688 rfl (fun hc688 => ?_) (fun hc688 => ?_)
        · refine lv_goto X.1.1 X.1.2.1 d_Law_law_703 rfl ?_
          exact kont _ _ _ _ hJ2 hsc hfr2 hL (gl_forget (gl_forget hl 5) 6)
        · refine lv_aload_n X.1.1 X.1.2.1 d_Law_law_691 rfl (gl_at hl rfl) ?_
          refine lv_iconst (v := nI 0) X.1.1 X.1.2.1 d_Law_law_692 (by decide) ?_
          refine g_lald X 2 ho1 rfl 0 (by decide) (by decide) d_Law_law_693 ?_
          refine lv_iload X.1.1 X.1.2.1 d_Law_law_694 (gl_at hl rfl) ?_
          refine lv_i2l X.1.1 X.1.2.1 d_Law_law_696 rfl ?_
          rw [hz (by omega)]
          refine g_lcmp0 X.1.1 X.1.2.1 d_Law_law_697 ?_
          refine gn_eq0 X.1.1 X.1.2.1 0 (by omega) d_Law_law_698 rfl (fun hc698 => ?_) (fun hc698 => ?_)
          · refine lv_goto X.1.1 X.1.2.1 d_Law_law_703 rfl ?_
            exact kont _ _ _ _ hJ2 hsc hfr2 hL (gl_forget (gl_forget hl 5) 6)
          · omega
      · omega

set_option maxHeartbeats 4000000 in
set_option maxRecDepth 100000 in
theorem lc_type (l : Launch) (D : va_G) (q : Nat → ClassId) (b z1 z2 : Nat) (F1 F2 : Nat → Int32) {p : Program} {e : Env} {s : State} {m : MethodId} {below : List Frame} {meth : Method} {c : Code} (sc L : Nat) (xs : Nat → Int32) (X : gX p m c code 7 s ([.ref sc] : List Value).toArray R_Law gWS D CL (gY q)) (htr : ∀ e, l.admits e → e.platform.stackTraces = false) (xq : Nat → ClassId) (hE : ∀ U : State, (∀ p : Nat, p < b → U.heap[p]? = s.heap[p]?) → s.WarmedH U.vm → lE b z1 z2 F1 F2 xq U) (hFn : ∀ j, j ≤ 4 → F1 j = nI (fanL j) ∧ F2 j = nI (fanM j)) (hX0 : va_X sc L xs s s.heap) (hLen : L ≤ 2048) (hscb : sc < b) (Q : State → Prop) (i T : Nat) (hi : i + 4 ≤ L) (hTb : T < 1048576) (x0 : Int32) (H : Heap) (hJ : lJ D q b z1 z2 F1 F2 T x0 H) (hsc : H[sc]? = s.heap[sc]?) (hfr : ∀ p : Nat, p < b → H[p]? = s.heap[p]?) (ls : Array Slot) (locs : List Loc) (cells slots : Nat) (hcs : cells + 5 ≤ 601024 ∧ slots + 22 ≤ 7293034) (hL : ∀ x ∈ locs, (fun p => b ≤ p) x.base) (hl : gl ls [some (.ref sc), some (.ref b), some (.ref (b + 559)), some (.ref (b + 588)), some (.int (nI i)), none, none]) (kont : ∀ (x1 : Int32) (H1 : Heap) (locs1 : List Loc) (ls1 : Array Slot), lJ D q b z1 z2 F1 F2 (T + 1) x1 H1 → H1[sc]? = s.heap[sc]? → (∀ p : Nat, p < b → H1[p]? = s.heap[p]?) → (∀ x ∈ locs1, (fun p => b ≤ p) x.base) → gl ls1 [some (.ref sc), some (.ref b), some (.ref (b + 559)), some (.ref (b + 588)), some (.int (nI i)), none, none] → W p l e room_1 s m ([.ref sc] : List Value).toArray below meth c H1 locs1 (cells + 5) (slots + 22) Q (F0 m 1297 ls1 [])) : W p l e room_1 s m ([.ref sc] : List Value).toArray below meth c H locs cells slots Q (F0 m 144 ls []) := by
  refine lv_aload_n X.1.1 X.1.2.1 d_Law_law_144 rfl (gl_at hl rfl) ?_
  refine lv_aload_n X.1.1 X.1.2.1 d_Law_law_145 rfl (gl_at hl rfl) ?_
  refine lv_iload X.1.1 X.1.2.1 d_Law_law_146 (gl_at hl rfl) ?_
  refine lv_iconst (v := nI 1) X.1.1 X.1.2.1 d_Law_law_148 (by decide) ?_
  refine lv_iadd X.1.1 X.1.2.1 d_Law_law_149 ?_
  refine g_top (nI (i + 1)) (nI_add _ _) ?_
  refine g_sld X hX0 hsc (i + 1) (by omega) (by omega) d_Law_law_150 ?_
  refine lv_i2l X.1.1 X.1.2.1 d_Law_law_151 rfl ?_
  refine lv_bipush (v := nI 32) X.1.1 X.1.2.1 d_Law_law_152 (by decide) ?_
  refine lv_lshl X.1.1 X.1.2.1 d_Law_law_154 rfl ?_
  refine lv_aload_n X.1.1 X.1.2.1 d_Law_law_155 rfl (gl_at hl rfl) ?_
  refine lv_iload X.1.1 X.1.2.1 d_Law_law_156 (gl_at hl rfl) ?_
  refine lv_iconst (v := nI 2) X.1.1 X.1.2.1 d_Law_law_158 (by decide) ?_
  refine lv_iadd X.1.1 X.1.2.1 d_Law_law_159 ?_
  refine g_top (nI (i + 2)) (nI_add _ _) ?_
  refine g_sld X hX0 hsc (i + 2) (by omega) (by omega) d_Law_law_160 ?_
  refine lv_i2l X.1.1 X.1.2.1 d_Law_law_161 rfl ?_
  refine lv_ldc2 X.1.1 X.1.2.1 X.1.2.2.2.1 (X.1.2.2.2.2 _ mk_Law_66) d_Law_law_162 ?_
  refine lv_land X.1.1 X.1.2.1 d_Law_law_165 ?_
  refine lv_lor X.1.1 X.1.2.1 d_Law_law_166 ?_
  refine lv_aload_n X.1.1 X.1.2.1 d_Law_law_167 rfl (gl_at hl rfl) ?_
  refine lv_iload X.1.1 X.1.2.1 d_Law_law_168 (gl_at hl rfl) ?_
  refine lv_iconst (v := nI 3) X.1.1 X.1.2.1 d_Law_law_170 (by decide) ?_
  refine lv_iadd X.1.1 X.1.2.1 d_Law_law_171 ?_
  refine g_top (nI (i + 3)) (nI_add _ _) ?_
  refine g_sld X hX0 hsc (i + 3) (by omega) (by omega) d_Law_law_172 ?_
  obtain ⟨fs0, hb0⟩ := hJ.hall
  refine g_cv (A := (fun p => b ≤ p)) X gWS_good mw_Law_68 kc_Hall hb0 (l_type l D q b z1 z2 F1 F2 T x0 H hJ (((xs (i + 1)).toInt64 <<< ((nI 32).toInt64 &&& 63)) ||| ((xs (i + 2)).toInt64 &&& 4294967295)) (xs (i + 3))) (fun _ _ _ => trivial) gBlind.tt rfl rfl hl.1 (Nat.le_of_ble_eq_true rfl) rfl rfl ⟨by decide, by decide⟩ ⟨hcs.1, hcs.2⟩ d_Law_law_173 (fun _ h => h) hL (fun v1 H1 locs hp1 hL => ?_)
  obtain ⟨z, rfl, hz1, fb1, ⟨fd1, hd1⟩, hM1⟩ := hp1
  replace hsc := (fb1 _ hscb).trans hsc
  refine lv_aload_n X.1.1 X.1.2.1 d_Law_law_176 rfl (gl_at hl rfl) ?_
  refine lv_aload_n X.1.1 X.1.2.1 d_Law_law_177 rfl (gl_at hl rfl) ?_
  refine lv_iload X.1.1 X.1.2.1 d_Law_law_178 (gl_at hl rfl) ?_
  refine lv_iconst (v := nI 1) X.1.1 X.1.2.1 d_Law_law_180 (by decide) ?_
  refine lv_iadd X.1.1 X.1.2.1 d_Law_law_181 ?_
  refine g_top (nI (i + 1)) (nI_add _ _) ?_
  refine g_sld X hX0 hsc (i + 1) (by omega) (by omega) d_Law_law_182 ?_
  refine lv_i2l X.1.1 X.1.2.1 d_Law_law_183 rfl ?_
  refine lv_bipush (v := nI 32) X.1.1 X.1.2.1 d_Law_law_184 (by decide) ?_
  refine lv_lshl X.1.1 X.1.2.1 d_Law_law_186 rfl ?_
  refine lv_aload_n X.1.1 X.1.2.1 d_Law_law_187 rfl (gl_at hl rfl) ?_
  refine lv_iload X.1.1 X.1.2.1 d_Law_law_188 (gl_at hl rfl) ?_
  refine lv_iconst (v := nI 2) X.1.1 X.1.2.1 d_Law_law_190 (by decide) ?_
  refine lv_iadd X.1.1 X.1.2.1 d_Law_law_191 ?_
  refine g_top (nI (i + 2)) (nI_add _ _) ?_
  refine g_sld X hX0 hsc (i + 2) (by omega) (by omega) d_Law_law_192 ?_
  refine lv_i2l X.1.1 X.1.2.1 d_Law_law_193 rfl ?_
  refine lv_ldc2 X.1.1 X.1.2.1 X.1.2.2.2.1 (X.1.2.2.2.2 _ mk_Law_66) d_Law_law_194 ?_
  refine lv_land X.1.1 X.1.2.1 d_Law_law_197 ?_
  refine lv_lor X.1.1 X.1.2.1 d_Law_law_198 ?_
  refine lv_aload_n X.1.1 X.1.2.1 d_Law_law_199 rfl (gl_at hl rfl) ?_
  refine lv_iload X.1.1 X.1.2.1 d_Law_law_200 (gl_at hl rfl) ?_
  refine lv_iconst (v := nI 3) X.1.1 X.1.2.1 d_Law_law_202 (by decide) ?_
  refine lv_iadd X.1.1 X.1.2.1 d_Law_law_203 ?_
  refine g_top (nI (i + 3)) (nI_add _ _) ?_
  refine g_sld X hX0 hsc (i + 3) (by omega) (by omega) d_Law_law_204 ?_
  refine g_cv (A := (fun p => b ≤ p)) X gWS_good mw_Law_72 kc_Model hd1 hM1 (fun _ _ _ => trivial) gBlind.tt rfl rfl hl.1 (Nat.le_of_ble_eq_true rfl) rfl rfl ⟨by decide, by decide⟩ ⟨hcs.1, hcs.2⟩ d_Law_law_205 (fun _ h => h) hL (fun v2 H2 locs hp2 hL => ?_)
  obtain ⟨rfl, ⟨x1, hJ2⟩, hz2, fb2⟩ := hp2
  replace hsc := (fb2 _ hscb).trans hsc
  have hfr2 : ∀ p : Nat, p < b → H2[p]? = s.heap[p]? := fun p hp => (fb2 p hp).trans ((fb1 p hp).trans (hfr p hp))
  refine lv_icmp_eq X.1.1 X.1.2.1 d_Law_law_208 rfl (fun hc208 => ?_) (fun hc208 => ?_)
  · exact kont _ _ _ _ hJ2 hsc hfr2 hL hl
  · exact absurd rfl hc208
