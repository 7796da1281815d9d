/-! the law's wrappers: printed by wip/specs/w1.py -/
def gEn (b : Nat) (xq : Nat → ClassId) (U : State) : Prop := gEs b xq U ∧ ∀ i j, i < 4 → j < 4 → i ≠ j → U.vm.assignable (xq i) (xq j) = false
theorem gEn.cls {b : Nat} {xq : Nat → ClassId} {U : State} (h : gEn b xq U) (i : Nat) (hi : i < 4) : U.vm.findClass (gXn i) = some (xq i) := h.1.2 i hi
theorem gEn.no {b : Nat} {xq : Nat → ClassId} {U : State} (h : gEn b xq U) (i j : Nat) (hi : i < 4) (hj : j < 4) (hij : i ≠ j) : ∀ cT, U.vm.findClass (gXn j) = some cT → U.vm.assignable (xq i) cT = false := fun cT hc => by
  cases (h.cls j hj).symm.trans hc
  exact h.2 i j hi hj hij
theorem gEn.kn {b : Nat} {xq : Nat → ClassId} {U : State} (h : gEn b xq U) (i : Nat) (hi : i < 4) : ∃ k, U.vm.classes[xq i]? = some k := Vm.classAt_of_findClass (h.cls i hi)

set_option maxHeartbeats 4000000 in
set_option maxRecDepth 100000 in
theorem w_view (l : Launch) (D : va_G) (q : Nat → ClassId) (H : Heap) (b o : Nat) (fs : List Value) (hb : va_at D CL (b, .inr (9, fs)) H) (G : Nat → Int64) (ho : va_at D CL (o, .inl (q 2, 1, .inr (.inl G))) H) (a1 a2 : Int32) (f k mc ms : Nat) (A1 : Nat → Prop) (E : State → Prop) (hEb : gBlind E) (hst : ∀ U V : State, E U → U.heap = H → V.heap = H → U.WarmedH V.vm → E V) (Post : Option Value → Heap → Prop) (hPo : ∀ v H1, Post v H1 → ∃ z, v = some (.int z) ∧ H1[o]? = H[o]?) (hM : gC l y_Hall_view (Cond.code y_Hall_view b_Hall_view 4 (some .int) :: gWS) (gR f k mc ms) D CL (gY q) E [.ref b, .int a1, .int a2] H Post mc ms A1) : gC l y_Law_view (Cond.codeWith y_Law_view b_Law_view 5 (some .int) hh_Law_view :: gWS) (gR (f + 1) (8 + (4 + 11) + k) mc ms) D CL (gY q) E [.ref b, .int a1, .int a2, .ref o] H (fun r H2 => ∃ z H1, Post (some (.int z)) H1 ∧ r = some (.int (nI 0)) ∧ va_at D CL (o, .inl (q 2, 1, .inr (.inl (vp_updL G 0 z.toInt64)))) H2 ∧ H2.size = H1.size ∧ ∀ p : Nat, p ≠ o → H2[p]? = H1[p]?) mc ms (fun p => A1 p ∨ p = o) := by
  refine gC.ofWW R_Law "view" (by decide) rfl rfl ?_
  intro p e s m below meth c hadm X hE hH B htab
  refine g_entry [some (.ref b), some (.int a1), some (.int a2), some (.ref o), none] rfl rfl (Nat.le_of_ble_eq_true rfl) (fun ls hl => ?_)
  refine lv_aload_n X.1.1 X.1.2.1 d_Law_view_0 rfl (gl_at hl rfl) ?_
  refine lv_iconst (v := nI 0) X.1.1 X.1.2.1 d_Law_view_1 (by decide) ?_
  refine lv_aload_n X.1.1 X.1.2.1 d_Law_view_2 rfl (gl_at hl rfl) ?_
  refine lv_iload_n X.1.1 X.1.2.1 d_Law_view_3 rfl (gl_at hl rfl) ?_
  refine lv_iload_n X.1.1 X.1.2.1 d_Law_view_4 rfl (gl_at hl rfl) ?_
  refine g_cv (A := (fun p => A1 p ∨ p = o)) X gWS_good mw_Law_7 kc_Hall hb hM (fun U h1 h2 => hst s U hE hH h1 h2) hEb rfl rfl hl.1 (Nat.le_of_ble_eq_true rfl) rfl rfl ⟨Nat.le_refl _, Nat.le_refl _⟩ ⟨(show 0 + mc ≤ mc by omega), (show 0 + ms ≤ ms by omega)⟩ d_Law_view_5 (fun _ h => Or.inl h) (fun _ h => by cases h) (fun v1 H2 locs hp3 hL => ?_)
  obtain ⟨z, rfl, hko⟩ := hPo _ _ hp3
  replace ho := va_at.kept ho hko
  refine lv_i2l X.1.1 X.1.2.1 d_Law_view_8 rfl ?_
  refine g_last (A := (fun p => A1 p ∨ p = o)) X 2 ho rfl 0 (by decide) (by decide) d_Law_view_9 (Or.inr rfl) hL (fun H2 locs ho2 z2 o2 hL => ?_)
  refine lv_goto X.1.1 X.1.2.1 d_Law_view_10 rfl ?_
  refine lv_iconst (v := nI 0) X.1.1 X.1.2.1 d_Law_view_17 (by decide) ?_
  exact g_iret X B ⟨z, _, hp3, rfl, ho2, z2, o2⟩ hL d_Law_view_18 (by omega) (by omega)

set_option maxHeartbeats 4000000 in
set_option maxRecDepth 100000 in
theorem w_view_t0 (l : Launch) (D : va_G) (q : Nat → ClassId) (H : Heap) (b o : Nat) (fs : List Value) (hb : va_at D CL (b, .inr (9, fs)) H) (G : Nat → Int64) (ho : va_at D CL (o, .inl (q 2, 1, .inr (.inl G))) H) (a1 a2 : Int32) (f k mc ms : Nat) (A1 : Nat → Prop) (b0 : Nat) (xq : Nat → ClassId) (P : Heap → Prop) (hM : gT l y_Hall_view (Cond.code y_Hall_view b_Hall_view 4 (some .int) :: gWS) (gR f k mc ms) D CL (gY q) (fun U => gEs b0 xq U) [.ref b, .int a1, .int a2] H (fun x H1 => (∃ ce : Cell, H1[x]? = some ce ∧ ce.cls = xq 0 ∧ ce.vm = .none) ∧ P H1) mc ms A1) : gC l y_Law_view (Cond.codeWith y_Law_view b_Law_view 5 (some .int) hh_Law_view :: gWS) (gR (f + 1) (8 + (4 + 11) + k) mc ms) D CL (gY q) (fun U => gEn b0 xq U) [.ref b, .int a1, .int a2, .ref o] H (fun r H1 => r = some (.int (nI 1)) ∧ P H1) mc ms (fun p => A1 p ∨ p = o) := by
  refine gC.ofWW R_Law "view" (by decide) rfl rfl ?_
  intro p e s m below meth c hadm X hE hH B htab
  refine g_entry [some (.ref b), some (.int a1), some (.int a2), some (.ref o), none] rfl rfl (Nat.le_of_ble_eq_true rfl) (fun ls hl => ?_)
  refine lv_aload_n X.1.1 X.1.2.1 d_Law_view_0 rfl (gl_at hl rfl) ?_
  refine lv_iconst (v := nI 0) X.1.1 X.1.2.1 d_Law_view_1 (by decide) ?_
  refine lv_aload_n X.1.1 X.1.2.1 d_Law_view_2 rfl (gl_at hl rfl) ?_
  refine lv_iload_n X.1.1 X.1.2.1 d_Law_view_3 rfl (gl_at hl rfl) ?_
  refine lv_iload_n X.1.1 X.1.2.1 d_Law_view_4 rfl (gl_at hl rfl) ?_
  have hpl : e.platform.magicAccessors = ({} : Platform).magicAccessors := by rw [hadm.platform]
  refine g_catch (A := (fun p => A1 p ∨ p = o)) (rest := [.int (nI 0), .ref o]) (g_tv X gWS_good mw_Law_7 kc_Hall hb hM (fun V h1 h2 => hE.1.on (fun p hp => by rw [hH]) h1 h2) (gEs.blind b0 xq) rfl rfl hl.1 (Nat.le_of_ble_eq_true rfl) rfl rfl ⟨Nat.le_refl _, Nat.le_refl _⟩ ⟨show 0 + mc ≤ mc by omega, show 0 + ms ≤ ms by omega⟩ d_Law_view_5) htab 13 (fun x S hp hW0 => ?_) (fun _ h => Or.inl h) (fun _ h => by cases h) (fun x H1 locs hp hL => ?_)
  · obtain ⟨⟨ce, hce, hcl, hvm⟩, _⟩ := hp
    have hob : ∀ k, ce.vm ≠ .statics k := fun k h9 => by rw [hvm] at h9; cases h9
    exact g_hit (S := S) X hpl hW0 rfl hce hob (by rw [hcl]; exact hE.cls 0 (by decide)) (by rw [hcl]; exact hE.kn 0 (by decide)) (show 0 ≤ 5 ∧ 5 < 10 by decide) (by decide) lk_Law_13
  · refine g_ast X.1.1 X.1.2.1 hl 4 d_Law_view_13 (Nat.le_of_ble_eq_true rfl) rfl (fun ls hl => ?_)
    refine lv_iconst (v := nI 1) X.1.1 X.1.2.1 d_Law_view_15 (by decide) ?_
    exact g_iret X B ⟨rfl, hp.2⟩ hL d_Law_view_16 (by omega) (by omega)

set_option maxHeartbeats 4000000 in
set_option maxRecDepth 100000 in
theorem w_put (l : Launch) (D : va_G) (q : Nat → ClassId) (H : Heap) (b o : Nat) (fs : List Value) (hb : va_at D CL (b, .inr (9, fs)) H) (G : Nat → Int64) (ho : va_at D CL (o, .inl (q 2, 1, .inr (.inl G))) H) (a1 a2 : Int32) (f k mc ms : Nat) (A1 : Nat → Prop) (E : State → Prop) (hEb : gBlind E) (hst : ∀ U V : State, E U → U.heap = H → V.heap = H → U.WarmedH V.vm → E V) (Post : Option Value → Heap → Prop) (hPo : ∀ v H1, Post v H1 → ∃ z, v = some (.int z) ∧ H1[o]? = H[o]?) (hM : gC l y_Hall_put (Cond.code y_Hall_put b_Hall_put 7 (some .int) :: gWS) (gR f k mc ms) D CL (gY q) E [.ref b, .int a1, .int a2] H Post mc ms A1) : gC l y_Law_put (Cond.codeWith y_Law_put b_Law_put 5 (some .int) hh_Law_put :: gWS) (gR (f + 1) (8 + (7 + 11) + k) mc ms) D CL (gY q) E [.ref b, .int a1, .int a2, .ref o] H (fun r H2 => ∃ z H1, Post (some (.int z)) H1 ∧ r = some (.int (nI 0)) ∧ va_at D CL (o, .inl (q 2, 1, .inr (.inl (vp_updL G 0 z.toInt64)))) H2 ∧ H2.size = H1.size ∧ ∀ p : Nat, p ≠ o → H2[p]? = H1[p]?) mc ms (fun p => A1 p ∨ p = o) := by
  refine gC.ofWW R_Law "put" (by decide) rfl rfl ?_
  intro p e s m below meth c hadm X hE hH B htab
  refine g_entry [some (.ref b), some (.int a1), some (.int a2), some (.ref o), none] rfl rfl (Nat.le_of_ble_eq_true rfl) (fun ls hl => ?_)
  refine lv_aload_n X.1.1 X.1.2.1 d_Law_put_0 rfl (gl_at hl rfl) ?_
  refine lv_iconst (v := nI 0) X.1.1 X.1.2.1 d_Law_put_1 (by decide) ?_
  refine lv_aload_n X.1.1 X.1.2.1 d_Law_put_2 rfl (gl_at hl rfl) ?_
  refine lv_iload_n X.1.1 X.1.2.1 d_Law_put_3 rfl (gl_at hl rfl) ?_
  refine lv_iload_n X.1.1 X.1.2.1 d_Law_put_4 rfl (gl_at hl rfl) ?_
  refine g_cv (A := (fun p => A1 p ∨ p = o)) X gWS_good mw_Law_15 kc_Hall hb hM (fun U h1 h2 => hst s U hE hH h1 h2) hEb rfl rfl hl.1 (Nat.le_of_ble_eq_true rfl) rfl rfl ⟨Nat.le_refl _, Nat.le_refl _⟩ ⟨(show 0 + mc ≤ mc by omega), (show 0 + ms ≤ ms by omega)⟩ d_Law_put_5 (fun _ h => Or.inl h) (fun _ h => by cases h) (fun v1 H2 locs hp3 hL => ?_)
  obtain ⟨z, rfl, hko⟩ := hPo _ _ hp3
  replace ho := va_at.kept ho hko
  refine lv_i2l X.1.1 X.1.2.1 d_Law_put_8 rfl ?_
  refine g_last (A := (fun p => A1 p ∨ p = o)) X 2 ho rfl 0 (by decide) (by decide) d_Law_put_9 (Or.inr rfl) hL (fun H2 locs ho2 z2 o2 hL => ?_)
  refine lv_goto X.1.1 X.1.2.1 d_Law_put_10 rfl ?_
  refine lv_iconst (v := nI 0) X.1.1 X.1.2.1 d_Law_put_25 (by decide) ?_
  exact g_iret X B ⟨z, _, hp3, rfl, ho2, z2, o2⟩ hL d_Law_put_26 (by omega) (by omega)

set_option maxHeartbeats 4000000 in
set_option maxRecDepth 100000 in
theorem w_put_t0 (l : Launch) (D : va_G) (q : Nat → ClassId) (H : Heap) (b o : Nat) (fs : List Value) (hb : va_at D CL (b, .inr (9, fs)) H) (G : Nat → Int64) (ho : va_at D CL (o, .inl (q 2, 1, .inr (.inl G))) H) (a1 a2 : Int32) (f k mc ms : Nat) (A1 : Nat → Prop) (b0 : Nat) (xq : Nat → ClassId) (P : Heap → Prop) (hM : gT l y_Hall_put (Cond.code y_Hall_put b_Hall_put 7 (some .int) :: gWS) (gR f k mc ms) D CL (gY q) (fun U => gEs b0 xq U) [.ref b, .int a1, .int a2] H (fun x H1 => (∃ ce : Cell, H1[x]? = some ce ∧ ce.cls = xq 0 ∧ ce.vm = .none) ∧ P H1) mc ms A1) : gC l y_Law_put (Cond.codeWith y_Law_put b_Law_put 5 (some .int) hh_Law_put :: gWS) (gR (f + 1) (8 + (7 + 11) + k) mc ms) D CL (gY q) (fun U => gEn b0 xq U) [.ref b, .int a1, .int a2, .ref o] H (fun r H1 => r = some (.int (nI 1)) ∧ P H1) mc ms (fun p => A1 p ∨ p = o) := by
  refine gC.ofWW R_Law "put" (by decide) rfl rfl ?_
  intro p e s m below meth c hadm X hE hH B htab
  refine g_entry [some (.ref b), some (.int a1), some (.int a2), some (.ref o), none] rfl rfl (Nat.le_of_ble_eq_true rfl) (fun ls hl => ?_)
  refine lv_aload_n X.1.1 X.1.2.1 d_Law_put_0 rfl (gl_at hl rfl) ?_
  refine lv_iconst (v := nI 0) X.1.1 X.1.2.1 d_Law_put_1 (by decide) ?_
  refine lv_aload_n X.1.1 X.1.2.1 d_Law_put_2 rfl (gl_at hl rfl) ?_
  refine lv_iload_n X.1.1 X.1.2.1 d_Law_put_3 rfl (gl_at hl rfl) ?_
  refine lv_iload_n X.1.1 X.1.2.1 d_Law_put_4 rfl (gl_at hl rfl) ?_
  have hpl : e.platform.magicAccessors = ({} : Platform).magicAccessors := by rw [hadm.platform]
  refine g_catch (A := (fun p => A1 p ∨ p = o)) (rest := [.int (nI 0), .ref o]) (g_tv X gWS_good mw_Law_15 kc_Hall hb hM (fun V h1 h2 => hE.1.on (fun p hp => by rw [hH]) h1 h2) (gEs.blind b0 xq) rfl rfl hl.1 (Nat.le_of_ble_eq_true rfl) rfl rfl ⟨Nat.le_refl _, Nat.le_refl _⟩ ⟨show 0 + mc ≤ mc by omega, show 0 + ms ≤ ms by omega⟩ d_Law_put_5) htab 13 (fun x S hp hW0 => ?_) (fun _ h => Or.inl h) (fun _ h => by cases h) (fun x H1 locs hp hL => ?_)
  · obtain ⟨⟨ce, hce, hcl, hvm⟩, _⟩ := hp
    have hob : ∀ k, ce.vm ≠ .statics k := fun k h9 => by rw [hvm] at h9; cases h9
    exact g_hit (S := S) X hpl hW0 rfl hce hob (by rw [hcl]; exact hE.cls 0 (by decide)) (by rw [hcl]; exact hE.kn 0 (by decide)) (show 0 ≤ 5 ∧ 5 < 10 by decide) (by decide) lk_Law_13
  · refine g_ast X.1.1 X.1.2.1 hl 4 d_Law_put_13 (Nat.le_of_ble_eq_true rfl) rfl (fun ls hl => ?_)
    refine lv_iconst (v := nI 1) X.1.1 X.1.2.1 d_Law_put_15 (by decide) ?_
    exact g_iret X B ⟨rfl, hp.2⟩ hL d_Law_put_16 (by omega) (by omega)

set_option maxHeartbeats 4000000 in
set_option maxRecDepth 100000 in
theorem w_put_t1 (l : Launch) (D : va_G) (q : Nat → ClassId) (H : Heap) (b o : Nat) (fs : List Value) (hb : va_at D CL (b, .inr (9, fs)) H) (G : Nat → Int64) (ho : va_at D CL (o, .inl (q 2, 1, .inr (.inl G))) H) (a1 a2 : Int32) (f k mc ms : Nat) (A1 : Nat → Prop) (b0 : Nat) (xq : Nat → ClassId) (P : Heap → Prop) (hM : gT l y_Hall_put (Cond.code y_Hall_put b_Hall_put 7 (some .int) :: gWS) (gR f k mc ms) D CL (gY q) (fun U => gEs b0 xq U) [.ref b, .int a1, .int a2] H (fun x H1 => (∃ ce : Cell, H1[x]? = some ce ∧ ce.cls = xq 1 ∧ ce.vm = .none) ∧ P H1) mc ms A1) : gC l y_Law_put (Cond.codeWith y_Law_put b_Law_put 5 (some .int) hh_Law_put :: gWS) (gR (f + 1) (8 + (7 + 11) + k) mc ms) D CL (gY q) (fun U => gEn b0 xq U) [.ref b, .int a1, .int a2, .ref o] H (fun r H1 => r = some (.int (nI 2)) ∧ P H1) mc ms (fun p => A1 p ∨ p = o) := by
  refine gC.ofWW R_Law "put" (by decide) rfl rfl ?_
  intro p e s m below meth c hadm X hE hH B htab
  refine g_entry [some (.ref b), some (.int a1), some (.int a2), some (.ref o), none] rfl rfl (Nat.le_of_ble_eq_true rfl) (fun ls hl => ?_)
  refine lv_aload_n X.1.1 X.1.2.1 d_Law_put_0 rfl (gl_at hl rfl) ?_
  refine lv_iconst (v := nI 0) X.1.1 X.1.2.1 d_Law_put_1 (by decide) ?_
  refine lv_aload_n X.1.1 X.1.2.1 d_Law_put_2 rfl (gl_at hl rfl) ?_
  refine lv_iload_n X.1.1 X.1.2.1 d_Law_put_3 rfl (gl_at hl rfl) ?_
  refine lv_iload_n X.1.1 X.1.2.1 d_Law_put_4 rfl (gl_at hl rfl) ?_
  have hpl : e.platform.magicAccessors = ({} : Platform).magicAccessors := by rw [hadm.platform]
  refine g_catch (A := (fun p => A1 p ∨ p = o)) (rest := [.int (nI 0), .ref o]) (g_tv X gWS_good mw_Law_15 kc_Hall hb hM (fun V h1 h2 => hE.1.on (fun p hp => by rw [hH]) h1 h2) (gEs.blind b0 xq) rfl rfl hl.1 (Nat.le_of_ble_eq_true rfl) rfl rfl ⟨Nat.le_refl _, Nat.le_refl _⟩ ⟨show 0 + mc ≤ mc by omega, show 0 + ms ≤ ms by omega⟩ d_Law_put_5) htab 17 (fun x S hp hW0 => ?_) (fun _ h => Or.inl h) (fun _ h => by cases h) (fun x H1 locs hp hL => ?_)
  · obtain ⟨⟨ce, hce, hcl, hvm⟩, _⟩ := hp
    have hob : ∀ k, ce.vm ≠ .statics k := fun k h9 => by rw [hvm] at h9; cases h9
    exact g_pass (S := S) X hpl hW0 rfl hce hob (by rw [hcl]; exact hE.kn 1 (by decide)) (show 0 ≤ 5 ∧ 5 < 10 by decide) (by decide) lk_Law_13 (by rw [hcl]; exact hE.no 1 0 (by decide) (by decide) (by decide)) (fun vm1 hW1 => g_hit (S := (S.setVm vm1)) X hpl hW1 rfl hce hob (by rw [hcl]; exact hE.cls 1 (by decide)) (by rw [hcl]; exact hE.kn 1 (by decide)) (show 0 ≤ 5 ∧ 5 < 10 by decide) (by decide) lk_Law_18)
  · refine g_ast X.1.1 X.1.2.1 hl 4 d_Law_put_17 (Nat.le_of_ble_eq_true rfl) rfl (fun ls hl => ?_)
    refine lv_iconst (v := nI 2) X.1.1 X.1.2.1 d_Law_put_19 (by decide) ?_
    exact g_iret X B ⟨rfl, hp.2⟩ hL d_Law_put_20 (by omega) (by omega)

set_option maxHeartbeats 4000000 in
set_option maxRecDepth 100000 in
theorem w_put_t2 (l : Launch) (D : va_G) (q : Nat → ClassId) (H : Heap) (b o : Nat) (fs : List Value) (hb : va_at D CL (b, .inr (9, fs)) H) (G : Nat → Int64) (ho : va_at D CL (o, .inl (q 2, 1, .inr (.inl G))) H) (a1 a2 : Int32) (f k mc ms : Nat) (A1 : Nat → Prop) (b0 : Nat) (xq : Nat → ClassId) (P : Heap → Prop) (hM : gT l y_Hall_put (Cond.code y_Hall_put b_Hall_put 7 (some .int) :: gWS) (gR f k mc ms) D CL (gY q) (fun U => gEs b0 xq U) [.ref b, .int a1, .int a2] H (fun x H1 => (∃ ce : Cell, H1[x]? = some ce ∧ ce.cls = xq 2 ∧ ce.vm = .none) ∧ P H1) mc ms A1) : gC l y_Law_put (Cond.codeWith y_Law_put b_Law_put 5 (some .int) hh_Law_put :: gWS) (gR (f + 1) (8 + (7 + 11) + k) mc ms) D CL (gY q) (fun U => gEn b0 xq U) [.ref b, .int a1, .int a2, .ref o] H (fun r H1 => r = some (.int (nI 3)) ∧ P H1) mc ms (fun p => A1 p ∨ p = o) := by
  refine gC.ofWW R_Law "put" (by decide) rfl rfl ?_
  intro p e s m below meth c hadm X hE hH B htab
  refine g_entry [some (.ref b), some (.int a1), some (.int a2), some (.ref o), none] rfl rfl (Nat.le_of_ble_eq_true rfl) (fun ls hl => ?_)
  refine lv_aload_n X.1.1 X.1.2.1 d_Law_put_0 rfl (gl_at hl rfl) ?_
  refine lv_iconst (v := nI 0) X.1.1 X.1.2.1 d_Law_put_1 (by decide) ?_
  refine lv_aload_n X.1.1 X.1.2.1 d_Law_put_2 rfl (gl_at hl rfl) ?_
  refine lv_iload_n X.1.1 X.1.2.1 d_Law_put_3 rfl (gl_at hl rfl) ?_
  refine lv_iload_n X.1.1 X.1.2.1 d_Law_put_4 rfl (gl_at hl rfl) ?_
  have hpl : e.platform.magicAccessors = ({} : Platform).magicAccessors := by rw [hadm.platform]
  refine g_catch (A := (fun p => A1 p ∨ p = o)) (rest := [.int (nI 0), .ref o]) (g_tv X gWS_good mw_Law_15 kc_Hall hb hM (fun V h1 h2 => hE.1.on (fun p hp => by rw [hH]) h1 h2) (gEs.blind b0 xq) rfl rfl hl.1 (Nat.le_of_ble_eq_true rfl) rfl rfl ⟨Nat.le_refl _, Nat.le_refl _⟩ ⟨show 0 + mc ≤ mc by omega, show 0 + ms ≤ ms by omega⟩ d_Law_put_5) htab 21 (fun x S hp hW0 => ?_) (fun _ h => Or.inl h) (fun _ h => by cases h) (fun x H1 locs hp hL => ?_)
  · obtain ⟨⟨ce, hce, hcl, hvm⟩, _⟩ := hp
    have hob : ∀ k, ce.vm ≠ .statics k := fun k h9 => by rw [hvm] at h9; cases h9
    exact g_pass (S := S) X hpl hW0 rfl hce hob (by rw [hcl]; exact hE.kn 2 (by decide)) (show 0 ≤ 5 ∧ 5 < 10 by decide) (by decide) lk_Law_13 (by rw [hcl]; exact hE.no 2 0 (by decide) (by decide) (by decide)) (fun vm1 hW1 => g_pass (S := (S.setVm vm1)) X hpl hW1 rfl hce hob (by rw [hcl]; exact hE.kn 2 (by decide)) (show 0 ≤ 5 ∧ 5 < 10 by decide) (by decide) lk_Law_18 (by rw [hcl]; exact hE.no 2 1 (by decide) (by decide) (by decide)) (fun vm2 hW2 => g_hit (S := ((S.setVm vm1).setVm vm2)) X hpl hW2 rfl hce hob (by rw [hcl]; exact hE.cls 2 (by decide)) (by rw [hcl]; exact hE.kn 2 (by decide)) (show 0 ≤ 5 ∧ 5 < 10 by decide) (by decide) lk_Law_20))
  · refine g_ast X.1.1 X.1.2.1 hl 4 d_Law_put_21 (Nat.le_of_ble_eq_true rfl) rfl (fun ls hl => ?_)
    refine lv_iconst (v := nI 3) X.1.1 X.1.2.1 d_Law_put_23 (by decide) ?_
    exact g_iret X B ⟨rfl, hp.2⟩ hL d_Law_put_24 (by omega) (by omega)

set_option maxHeartbeats 4000000 in
set_option maxRecDepth 100000 in
theorem w_get (l : Launch) (D : va_G) (q : Nat → ClassId) (H : Heap) (b o : Nat) (fs : List Value) (hb : va_at D CL (b, .inr (9, fs)) H) (G : Nat → Int64) (ho : va_at D CL (o, .inl (q 2, 1, .inr (.inl G))) H) (a1 : Int32) (f k mc ms : Nat) (A1 : Nat → Prop) (E : State → Prop) (hEb : gBlind E) (hst : ∀ U V : State, E U → U.heap = H → V.heap = H → U.WarmedH V.vm → E V) (Post : Option Value → Heap → Prop) (hPo : ∀ v H1, Post v H1 → ∃ z, v = some (.int z) ∧ H1[o]? = H[o]?) (hM : gC l y_Hall_get (Cond.code y_Hall_get b_Hall_get 4 (some .int) :: gWS) (gR f k mc ms) D CL (gY q) E [.ref b, .int a1] H Post mc ms A1) : gC l y_Law_get (Cond.codeWith y_Law_get b_Law_get 4 (some .int) hh_Law_get :: gWS) (gR (f + 1) (8 + (4 + 11) + k) mc ms) D CL (gY q) E [.ref b, .int a1, .ref o] H (fun r H2 => ∃ z H1, Post (some (.int z)) H1 ∧ r = some (.int (nI 0)) ∧ va_at D CL (o, .inl (q 2, 1, .inr (.inl (vp_updL G 0 z.toInt64)))) H2 ∧ H2.size = H1.size ∧ ∀ p : Nat, p ≠ o → H2[p]? = H1[p]?) mc ms (fun p => A1 p ∨ p = o) := by
  refine gC.ofWW R_Law "get" (by decide) rfl rfl ?_
  intro p e s m below meth c hadm X hE hH B htab
  refine g_entry [some (.ref b), some (.int a1), some (.ref o), none] rfl rfl (Nat.le_of_ble_eq_true rfl) (fun ls hl => ?_)
  refine lv_aload_n X.1.1 X.1.2.1 d_Law_get_0 rfl (gl_at hl rfl) ?_
  refine lv_iconst (v := nI 0) X.1.1 X.1.2.1 d_Law_get_1 (by decide) ?_
  refine lv_aload_n X.1.1 X.1.2.1 d_Law_get_2 rfl (gl_at hl rfl) ?_
  refine lv_iload_n X.1.1 X.1.2.1 d_Law_get_3 rfl (gl_at hl rfl) ?_
  refine g_cv (A := (fun p => A1 p ∨ p = o)) X gWS_good mw_Law_22 kc_Hall hb hM (fun U h1 h2 => hst s U hE hH h1 h2) hEb rfl rfl hl.1 (Nat.le_of_ble_eq_true rfl) rfl rfl ⟨Nat.le_refl _, Nat.le_refl _⟩ ⟨(show 0 + mc ≤ mc by omega), (show 0 + ms ≤ ms by omega)⟩ d_Law_get_4 (fun _ h => Or.inl h) (fun _ h => by cases h) (fun v1 H2 locs hp3 hL => ?_)
  obtain ⟨z, rfl, hko⟩ := hPo _ _ hp3
  replace ho := va_at.kept ho hko
  refine lv_i2l X.1.1 X.1.2.1 d_Law_get_7 rfl ?_
  refine g_last (A := (fun p => A1 p ∨ p = o)) X 2 ho rfl 0 (by decide) (by decide) d_Law_get_8 (Or.inr rfl) hL (fun H2 locs ho2 z2 o2 hL => ?_)
  refine lv_goto X.1.1 X.1.2.1 d_Law_get_9 rfl ?_
  refine lv_iconst (v := nI 0) X.1.1 X.1.2.1 d_Law_get_15 (by decide) ?_
  exact g_iret X B ⟨z, _, hp3, rfl, ho2, z2, o2⟩ hL d_Law_get_16 (by omega) (by omega)

set_option maxHeartbeats 4000000 in
set_option maxRecDepth 100000 in
theorem w_get_t0 (l : Launch) (D : va_G) (q : Nat → ClassId) (H : Heap) (b o : Nat) (fs : List Value) (hb : va_at D CL (b, .inr (9, fs)) H) (G : Nat → Int64) (ho : va_at D CL (o, .inl (q 2, 1, .inr (.inl G))) H) (a1 : Int32) (f k mc ms : Nat) (A1 : Nat → Prop) (b0 : Nat) (xq : Nat → ClassId) (P : Heap → Prop) (hM : gT l y_Hall_get (Cond.code y_Hall_get b_Hall_get 4 (some .int) :: gWS) (gR f k mc ms) D CL (gY q) (fun U => gEs b0 xq U) [.ref b, .int a1] H (fun x H1 => (∃ ce : Cell, H1[x]? = some ce ∧ ce.cls = xq 0 ∧ ce.vm = .none) ∧ P H1) mc ms A1) : gC l y_Law_get (Cond.codeWith y_Law_get b_Law_get 4 (some .int) hh_Law_get :: gWS) (gR (f + 1) (8 + (4 + 11) + k) mc ms) D CL (gY q) (fun U => gEn b0 xq U) [.ref b, .int a1, .ref o] H (fun r H1 => r = some (.int (nI 1)) ∧ P H1) mc ms (fun p => A1 p ∨ p = o) := by
  refine gC.ofWW R_Law "get" (by decide) rfl rfl ?_
  intro p e s m below meth c hadm X hE hH B htab
  refine g_entry [some (.ref b), some (.int a1), some (.ref o), none] rfl rfl (Nat.le_of_ble_eq_true rfl) (fun ls hl => ?_)
  refine lv_aload_n X.1.1 X.1.2.1 d_Law_get_0 rfl (gl_at hl rfl) ?_
  refine lv_iconst (v := nI 0) X.1.1 X.1.2.1 d_Law_get_1 (by decide) ?_
  refine lv_aload_n X.1.1 X.1.2.1 d_Law_get_2 rfl (gl_at hl rfl) ?_
  refine lv_iload_n X.1.1 X.1.2.1 d_Law_get_3 rfl (gl_at hl rfl) ?_
  have hpl : e.platform.magicAccessors = ({} : Platform).magicAccessors := by rw [hadm.platform]
  refine g_catch (A := (fun p => A1 p ∨ p = o)) (rest := [.int (nI 0), .ref o]) (g_tv X gWS_good mw_Law_22 kc_Hall hb hM (fun V h1 h2 => hE.1.on (fun p hp => by rw [hH]) h1 h2) (gEs.blind b0 xq) rfl rfl hl.1 (Nat.le_of_ble_eq_true rfl) rfl rfl ⟨Nat.le_refl _, Nat.le_refl _⟩ ⟨show 0 + mc ≤ mc by omega, show 0 + ms ≤ ms by omega⟩ d_Law_get_4) htab 12 (fun x S hp hW0 => ?_) (fun _ h => Or.inl h) (fun _ h => by cases h) (fun x H1 locs hp hL => ?_)
  · obtain ⟨⟨ce, hce, hcl, hvm⟩, _⟩ := hp
    have hob : ∀ k, ce.vm ≠ .statics k := fun k h9 => by rw [hvm] at h9; cases h9
    exact g_hit (S := S) X hpl hW0 rfl hce hob (by rw [hcl]; exact hE.cls 0 (by decide)) (by rw [hcl]; exact hE.kn 0 (by decide)) (show 0 ≤ 4 ∧ 4 < 9 by decide) (by decide) lk_Law_13
  · refine g_astn X.1.1 X.1.2.1 hl 3 d_Law_get_12 rfl (Nat.le_of_ble_eq_true rfl) rfl (fun ls hl => ?_)
    refine lv_iconst (v := nI 1) X.1.1 X.1.2.1 d_Law_get_13 (by decide) ?_
    exact g_iret X B ⟨rfl, hp.2⟩ hL d_Law_get_14 (by omega) (by omega)

set_option maxHeartbeats 4000000 in
set_option maxRecDepth 100000 in
theorem w_remove (l : Launch) (D : va_G) (q : Nat → ClassId) (H : Heap) (b o : Nat) (fs : List Value) (hb : va_at D CL (b, .inr (9, fs)) H) (G : Nat → Int64) (ho : va_at D CL (o, .inl (q 2, 1, .inr (.inl G))) H) (a1 : Int32) (f k mc ms : Nat) (A1 : Nat → Prop) (E : State → Prop) (hEb : gBlind E) (hst : ∀ U V : State, E U → U.heap = H → V.heap = H → U.WarmedH V.vm → E V) (Post : Option Value → Heap → Prop) (hPo : ∀ v H1, Post v H1 → ∃ z, v = some (.int z) ∧ H1[o]? = H[o]?) (hM : gC l y_Hall_remove (Cond.code y_Hall_remove b_Hall_remove 4 (some .int) :: gWS) (gR f k mc ms) D CL (gY q) E [.ref b, .int a1] H Post mc ms A1) : gC l y_Law_remove (Cond.codeWith y_Law_remove b_Law_remove 4 (some .int) hh_Law_remove :: gWS) (gR (f + 1) (8 + (4 + 11) + k) mc ms) D CL (gY q) E [.ref b, .int a1, .ref o] H (fun r H2 => ∃ z H1, Post (some (.int z)) H1 ∧ r = some (.int (nI 0)) ∧ va_at D CL (o, .inl (q 2, 1, .inr (.inl (vp_updL G 0 z.toInt64)))) H2 ∧ H2.size = H1.size ∧ ∀ p : Nat, p ≠ o → H2[p]? = H1[p]?) mc ms (fun p => A1 p ∨ p = o) := by
  refine gC.ofWW R_Law "remove" (by decide) rfl rfl ?_
  intro p e s m below meth c hadm X hE hH B htab
  refine g_entry [some (.ref b), some (.int a1), some (.ref o), none] rfl rfl (Nat.le_of_ble_eq_true rfl) (fun ls hl => ?_)
  refine lv_aload_n X.1.1 X.1.2.1 d_Law_remove_0 rfl (gl_at hl rfl) ?_
  refine lv_iconst (v := nI 0) X.1.1 X.1.2.1 d_Law_remove_1 (by decide) ?_
  refine lv_aload_n X.1.1 X.1.2.1 d_Law_remove_2 rfl (gl_at hl rfl) ?_
  refine lv_iload_n X.1.1 X.1.2.1 d_Law_remove_3 rfl (gl_at hl rfl) ?_
  refine g_cv (A := (fun p => A1 p ∨ p = o)) X gWS_good mw_Law_26 kc_Hall hb hM (fun U h1 h2 => hst s U hE hH h1 h2) hEb rfl rfl hl.1 (Nat.le_of_ble_eq_true rfl) rfl rfl ⟨Nat.le_refl _, Nat.le_refl _⟩ ⟨(show 0 + mc ≤ mc by omega), (show 0 + ms ≤ ms by omega)⟩ d_Law_remove_4 (fun _ h => Or.inl h) (fun _ h => by cases h) (fun v1 H2 locs hp3 hL => ?_)
  obtain ⟨z, rfl, hko⟩ := hPo _ _ hp3
  replace ho := va_at.kept ho hko
  refine lv_i2l X.1.1 X.1.2.1 d_Law_remove_7 rfl ?_
  refine g_last (A := (fun p => A1 p ∨ p = o)) X 2 ho rfl 0 (by decide) (by decide) d_Law_remove_8 (Or.inr rfl) hL (fun H2 locs ho2 z2 o2 hL => ?_)
  refine lv_goto X.1.1 X.1.2.1 d_Law_remove_9 rfl ?_
  refine lv_iconst (v := nI 0) X.1.1 X.1.2.1 d_Law_remove_15 (by decide) ?_
  exact g_iret X B ⟨z, _, hp3, rfl, ho2, z2, o2⟩ hL d_Law_remove_16 (by omega) (by omega)

set_option maxHeartbeats 4000000 in
set_option maxRecDepth 100000 in
theorem w_remove_t0 (l : Launch) (D : va_G) (q : Nat → ClassId) (H : Heap) (b o : Nat) (fs : List Value) (hb : va_at D CL (b, .inr (9, fs)) H) (G : Nat → Int64) (ho : va_at D CL (o, .inl (q 2, 1, .inr (.inl G))) H) (a1 : Int32) (f k mc ms : Nat) (A1 : Nat → Prop) (b0 : Nat) (xq : Nat → ClassId) (P : Heap → Prop) (hM : gT l y_Hall_remove (Cond.code y_Hall_remove b_Hall_remove 4 (some .int) :: gWS) (gR f k mc ms) D CL (gY q) (fun U => gEs b0 xq U) [.ref b, .int a1] H (fun x H1 => (∃ ce : Cell, H1[x]? = some ce ∧ ce.cls = xq 0 ∧ ce.vm = .none) ∧ P H1) mc ms A1) : gC l y_Law_remove (Cond.codeWith y_Law_remove b_Law_remove 4 (some .int) hh_Law_remove :: gWS) (gR (f + 1) (8 + (4 + 11) + k) mc ms) D CL (gY q) (fun U => gEn b0 xq U) [.ref b, .int a1, .ref o] H (fun r H1 => r = some (.int (nI 1)) ∧ P H1) mc ms (fun p => A1 p ∨ p = o) := by
  refine gC.ofWW R_Law "remove" (by decide) rfl rfl ?_
  intro p e s m below meth c hadm X hE hH B htab
  refine g_entry [some (.ref b), some (.int a1), some (.ref o), none] rfl rfl (Nat.le_of_ble_eq_true rfl) (fun ls hl => ?_)
  refine lv_aload_n X.1.1 X.1.2.1 d_Law_remove_0 rfl (gl_at hl rfl) ?_
  refine lv_iconst (v := nI 0) X.1.1 X.1.2.1 d_Law_remove_1 (by decide) ?_
  refine lv_aload_n X.1.1 X.1.2.1 d_Law_remove_2 rfl (gl_at hl rfl) ?_
  refine lv_iload_n X.1.1 X.1.2.1 d_Law_remove_3 rfl (gl_at hl rfl) ?_
  have hpl : e.platform.magicAccessors = ({} : Platform).magicAccessors := by rw [hadm.platform]
  refine g_catch (A := (fun p => A1 p ∨ p = o)) (rest := [.int (nI 0), .ref o]) (g_tv X gWS_good mw_Law_26 kc_Hall hb hM (fun V h1 h2 => hE.1.on (fun p hp => by rw [hH]) h1 h2) (gEs.blind b0 xq) rfl rfl hl.1 (Nat.le_of_ble_eq_true rfl) rfl rfl ⟨Nat.le_refl _, Nat.le_refl _⟩ ⟨show 0 + mc ≤ mc by omega, show 0 + ms ≤ ms by omega⟩ d_Law_remove_4) htab 12 (fun x S hp hW0 => ?_) (fun _ h => Or.inl h) (fun _ h => by cases h) (fun x H1 locs hp hL => ?_)
  · obtain ⟨⟨ce, hce, hcl, hvm⟩, _⟩ := hp
    have hob : ∀ k, ce.vm ≠ .statics k := fun k h9 => by rw [hvm] at h9; cases h9
    exact g_hit (S := S) X hpl hW0 rfl hce hob (by rw [hcl]; exact hE.cls 0 (by decide)) (by rw [hcl]; exact hE.kn 0 (by decide)) (show 0 ≤ 4 ∧ 4 < 9 by decide) (by decide) lk_Law_13
  · refine g_astn X.1.1 X.1.2.1 hl 3 d_Law_remove_12 rfl (Nat.le_of_ble_eq_true rfl) rfl (fun ls hl => ?_)
    refine lv_iconst (v := nI 1) X.1.1 X.1.2.1 d_Law_remove_13 (by decide) ?_
    exact g_iret X B ⟨rfl, hp.2⟩ hL d_Law_remove_14 (by omega) (by omega)

set_option maxHeartbeats 4000000 in
set_option maxRecDepth 100000 in
theorem w_find (l : Launch) (D : va_G) (q : Nat → ClassId) (H : Heap) (b o : Nat) (fs : List Value) (hb : va_at D CL (b, .inr (9, fs)) H) (G : Nat → Int64) (ho : va_at D CL (o, .inl (q 2, 1, .inr (.inl G))) H) (a1 a2 : Int32) (f k mc ms : Nat) (A1 : Nat → Prop) (E : State → Prop) (hEb : gBlind E) (hst : ∀ U V : State, E U → U.heap = H → V.heap = H → U.WarmedH V.vm → E V) (Post : Option Value → Heap → Prop) (hPo : ∀ v H1, Post v H1 → ∃ z, v = some (.int z) ∧ H1[o]? = H[o]?) (hM : gC l y_Hall_find (Cond.code y_Hall_find b_Hall_find 4 (some .int) :: gWS) (gR f k mc ms) D CL (gY q) E [.ref b, .int a1, .int a2] H Post mc ms A1) : gC l y_Law_find (Cond.codeWith y_Law_find b_Law_find 5 (some .int) hh_Law_find :: gWS) (gR (f + 1) (8 + (4 + 11) + k) mc ms) D CL (gY q) E [.ref b, .int a1, .int a2, .ref o] H (fun r H2 => ∃ z H1, Post (some (.int z)) H1 ∧ r = some (.int (nI 0)) ∧ va_at D CL (o, .inl (q 2, 1, .inr (.inl (vp_updL G 0 z.toInt64)))) H2 ∧ H2.size = H1.size ∧ ∀ p : Nat, p ≠ o → H2[p]? = H1[p]?) mc ms (fun p => A1 p ∨ p = o) := by
  refine gC.ofWW R_Law "find" (by decide) rfl rfl ?_
  intro p e s m below meth c hadm X hE hH B htab
  refine g_entry [some (.ref b), some (.int a1), some (.int a2), some (.ref o), none] rfl rfl (Nat.le_of_ble_eq_true rfl) (fun ls hl => ?_)
  refine lv_aload_n X.1.1 X.1.2.1 d_Law_find_0 rfl (gl_at hl rfl) ?_
  refine lv_iconst (v := nI 0) X.1.1 X.1.2.1 d_Law_find_1 (by decide) ?_
  refine lv_aload_n X.1.1 X.1.2.1 d_Law_find_2 rfl (gl_at hl rfl) ?_
  refine lv_iload_n X.1.1 X.1.2.1 d_Law_find_3 rfl (gl_at hl rfl) ?_
  refine lv_iload_n X.1.1 X.1.2.1 d_Law_find_4 rfl (gl_at hl rfl) ?_
  refine g_cv (A := (fun p => A1 p ∨ p = o)) X gWS_good mw_Law_29 kc_Hall hb hM (fun U h1 h2 => hst s U hE hH h1 h2) hEb rfl rfl hl.1 (Nat.le_of_ble_eq_true rfl) rfl rfl ⟨Nat.le_refl _, Nat.le_refl _⟩ ⟨(show 0 + mc ≤ mc by omega), (show 0 + ms ≤ ms by omega)⟩ d_Law_find_5 (fun _ h => Or.inl h) (fun _ h => by cases h) (fun v1 H2 locs hp3 hL => ?_)
  obtain ⟨z, rfl, hko⟩ := hPo _ _ hp3
  replace ho := va_at.kept ho hko
  refine lv_i2l X.1.1 X.1.2.1 d_Law_find_8 rfl ?_
  refine g_last (A := (fun p => A1 p ∨ p = o)) X 2 ho rfl 0 (by decide) (by decide) d_Law_find_9 (Or.inr rfl) hL (fun H2 locs ho2 z2 o2 hL => ?_)
  refine lv_goto X.1.1 X.1.2.1 d_Law_find_10 rfl ?_
  refine lv_iconst (v := nI 0) X.1.1 X.1.2.1 d_Law_find_21 (by decide) ?_
  exact g_iret X B ⟨z, _, hp3, rfl, ho2, z2, o2⟩ hL d_Law_find_22 (by omega) (by omega)

set_option maxHeartbeats 4000000 in
set_option maxRecDepth 100000 in
theorem w_find_t0 (l : Launch) (D : va_G) (q : Nat → ClassId) (H : Heap) (b o : Nat) (fs : List Value) (hb : va_at D CL (b, .inr (9, fs)) H) (G : Nat → Int64) (ho : va_at D CL (o, .inl (q 2, 1, .inr (.inl G))) H) (a1 a2 : Int32) (f k mc ms : Nat) (A1 : Nat → Prop) (b0 : Nat) (xq : Nat → ClassId) (P : Heap → Prop) (hM : gT l y_Hall_find (Cond.code y_Hall_find b_Hall_find 4 (some .int) :: gWS) (gR f k mc ms) D CL (gY q) (fun U => gEs b0 xq U) [.ref b, .int a1, .int a2] H (fun x H1 => (∃ ce : Cell, H1[x]? = some ce ∧ ce.cls = xq 0 ∧ ce.vm = .none) ∧ P H1) mc ms A1) : gC l y_Law_find (Cond.codeWith y_Law_find b_Law_find 5 (some .int) hh_Law_find :: gWS) (gR (f + 1) (8 + (4 + 11) + k) mc ms) D CL (gY q) (fun U => gEn b0 xq U) [.ref b, .int a1, .int a2, .ref o] H (fun r H1 => r = some (.int (nI 1)) ∧ P H1) mc ms (fun p => A1 p ∨ p = o) := by
  refine gC.ofWW R_Law "find" (by decide) rfl rfl ?_
  intro p e s m below meth c hadm X hE hH B htab
  refine g_entry [some (.ref b), some (.int a1), some (.int a2), some (.ref o), none] rfl rfl (Nat.le_of_ble_eq_true rfl) (fun ls hl => ?_)
  refine lv_aload_n X.1.1 X.1.2.1 d_Law_find_0 rfl (gl_at hl rfl) ?_
  refine lv_iconst (v := nI 0) X.1.1 X.1.2.1 d_Law_find_1 (by decide) ?_
  refine lv_aload_n X.1.1 X.1.2.1 d_Law_find_2 rfl (gl_at hl rfl) ?_
  refine lv_iload_n X.1.1 X.1.2.1 d_Law_find_3 rfl (gl_at hl rfl) ?_
  refine lv_iload_n X.1.1 X.1.2.1 d_Law_find_4 rfl (gl_at hl rfl) ?_
  have hpl : e.platform.magicAccessors = ({} : Platform).magicAccessors := by rw [hadm.platform]
  refine g_catch (A := (fun p => A1 p ∨ p = o)) (rest := [.int (nI 0), .ref o]) (g_tv X gWS_good mw_Law_29 kc_Hall hb hM (fun V h1 h2 => hE.1.on (fun p hp => by rw [hH]) h1 h2) (gEs.blind b0 xq) rfl rfl hl.1 (Nat.le_of_ble_eq_true rfl) rfl rfl ⟨Nat.le_refl _, Nat.le_refl _⟩ ⟨show 0 + mc ≤ mc by omega, show 0 + ms ≤ ms by omega⟩ d_Law_find_5) htab 13 (fun x S hp hW0 => ?_) (fun _ h => Or.inl h) (fun _ h => by cases h) (fun x H1 locs hp hL => ?_)
  · obtain ⟨⟨ce, hce, hcl, hvm⟩, _⟩ := hp
    have hob : ∀ k, ce.vm ≠ .statics k := fun k h9 => by rw [hvm] at h9; cases h9
    exact g_hit (S := S) X hpl hW0 rfl hce hob (by rw [hcl]; exact hE.cls 0 (by decide)) (by rw [hcl]; exact hE.kn 0 (by decide)) (show 0 ≤ 5 ∧ 5 < 10 by decide) (by decide) lk_Law_13
  · refine g_ast X.1.1 X.1.2.1 hl 4 d_Law_find_13 (Nat.le_of_ble_eq_true rfl) rfl (fun ls hl => ?_)
    refine lv_iconst (v := nI 1) X.1.1 X.1.2.1 d_Law_find_15 (by decide) ?_
    exact g_iret X B ⟨rfl, hp.2⟩ hL d_Law_find_16 (by omega) (by omega)

set_option maxHeartbeats 4000000 in
set_option maxRecDepth 100000 in
theorem w_find_t3 (l : Launch) (D : va_G) (q : Nat → ClassId) (H : Heap) (b o : Nat) (fs : List Value) (hb : va_at D CL (b, .inr (9, fs)) H) (G : Nat → Int64) (ho : va_at D CL (o, .inl (q 2, 1, .inr (.inl G))) H) (a1 a2 : Int32) (f k mc ms : Nat) (A1 : Nat → Prop) (b0 : Nat) (xq : Nat → ClassId) (P : Heap → Prop) (hM : gT l y_Hall_find (Cond.code y_Hall_find b_Hall_find 4 (some .int) :: gWS) (gR f k mc ms) D CL (gY q) (fun U => gEs b0 xq U) [.ref b, .int a1, .int a2] H (fun x H1 => (∃ ce : Cell, H1[x]? = some ce ∧ ce.cls = xq 3 ∧ ce.vm = .none) ∧ P H1) mc ms A1) : gC l y_Law_find (Cond.codeWith y_Law_find b_Law_find 5 (some .int) hh_Law_find :: gWS) (gR (f + 1) (8 + (4 + 11) + k) mc ms) D CL (gY q) (fun U => gEn b0 xq U) [.ref b, .int a1, .int a2, .ref o] H (fun r H1 => r = some (.int (nI 2)) ∧ P H1) mc ms (fun p => A1 p ∨ p = o) := by
  refine gC.ofWW R_Law "find" (by decide) rfl rfl ?_
  intro p e s m below meth c hadm X hE hH B htab
  refine g_entry [some (.ref b), some (.int a1), some (.int a2), some (.ref o), none] rfl rfl (Nat.le_of_ble_eq_true rfl) (fun ls hl => ?_)
  refine lv_aload_n X.1.1 X.1.2.1 d_Law_find_0 rfl (gl_at hl rfl) ?_
  refine lv_iconst (v := nI 0) X.1.1 X.1.2.1 d_Law_find_1 (by decide) ?_
  refine lv_aload_n X.1.1 X.1.2.1 d_Law_find_2 rfl (gl_at hl rfl) ?_
  refine lv_iload_n X.1.1 X.1.2.1 d_Law_find_3 rfl (gl_at hl rfl) ?_
  refine lv_iload_n X.1.1 X.1.2.1 d_Law_find_4 rfl (gl_at hl rfl) ?_
  have hpl : e.platform.magicAccessors = ({} : Platform).magicAccessors := by rw [hadm.platform]
  refine g_catch (A := (fun p => A1 p ∨ p = o)) (rest := [.int (nI 0), .ref o]) (g_tv X gWS_good mw_Law_29 kc_Hall hb hM (fun V h1 h2 => hE.1.on (fun p hp => by rw [hH]) h1 h2) (gEs.blind b0 xq) rfl rfl hl.1 (Nat.le_of_ble_eq_true rfl) rfl rfl ⟨Nat.le_refl _, Nat.le_refl _⟩ ⟨show 0 + mc ≤ mc by omega, show 0 + ms ≤ ms by omega⟩ d_Law_find_5) htab 17 (fun x S hp hW0 => ?_) (fun _ h => Or.inl h) (fun _ h => by cases h) (fun x H1 locs hp hL => ?_)
  · obtain ⟨⟨ce, hce, hcl, hvm⟩, _⟩ := hp
    have hob : ∀ k, ce.vm ≠ .statics k := fun k h9 => by rw [hvm] at h9; cases h9
    exact g_pass (S := S) X hpl hW0 rfl hce hob (by rw [hcl]; exact hE.kn 3 (by decide)) (show 0 ≤ 5 ∧ 5 < 10 by decide) (by decide) lk_Law_13 (by rw [hcl]; exact hE.no 3 0 (by decide) (by decide) (by decide)) (fun vm1 hW1 => g_hit (S := (S.setVm vm1)) X hpl hW1 rfl hce hob (by rw [hcl]; exact hE.cls 3 (by decide)) (by rw [hcl]; exact hE.kn 3 (by decide)) (show 0 ≤ 5 ∧ 5 < 10 by decide) (by decide) lk_Law_32)
  · refine g_ast X.1.1 X.1.2.1 hl 4 d_Law_find_17 (Nat.le_of_ble_eq_true rfl) rfl (fun ls hl => ?_)
    refine lv_iconst (v := nI 2) X.1.1 X.1.2.1 d_Law_find_19 (by decide) ?_
    exact g_iret X B ⟨rfl, hp.2⟩ hL d_Law_find_20 (by omega) (by omega)

set_option maxHeartbeats 4000000 in
set_option maxRecDepth 100000 in
theorem w_at (l : Launch) (D : va_G) (q : Nat → ClassId) (H : Heap) (b o : Nat) (fs : List Value) (hb : va_at D CL (b, .inr (9, fs)) H) (G : Nat → Int64) (ho : va_at D CL (o, .inl (q 2, 1, .inr (.inl G))) H) (a1 a2 : Int32) (f k mc ms : Nat) (A1 : Nat → Prop) (E : State → Prop) (hEb : gBlind E) (hst : ∀ U V : State, E U → U.heap = H → V.heap = H → U.WarmedH V.vm → E V) (Post : Option Value → Heap → Prop) (hPo : ∀ v H1, Post v H1 → ∃ z, v = some (.int z) ∧ H1[o]? = H[o]?) (hM : gC l y_Hall_at (Cond.code y_Hall_at b_Hall_at 3 (some .int) :: gWS) (gR f k mc ms) D CL (gY q) E [.ref b, .int a1, .int a2] H Post mc ms A1) : gC l y_Law_at (Cond.codeWith y_Law_at b_Law_at 5 (some .int) hh_Law_at :: gWS) (gR (f + 1) (8 + (3 + 11) + k) mc ms) D CL (gY q) E [.ref b, .int a1, .int a2, .ref o] H (fun r H2 => ∃ z H1, Post (some (.int z)) H1 ∧ r = some (.int (nI 0)) ∧ va_at D CL (o, .inl (q 2, 1, .inr (.inl (vp_updL G 0 z.toInt64)))) H2 ∧ H2.size = H1.size ∧ ∀ p : Nat, p ≠ o → H2[p]? = H1[p]?) mc ms (fun p => A1 p ∨ p = o) := by
  refine gC.ofWW R_Law "at" (by decide) rfl rfl ?_
  intro p e s m below meth c hadm X hE hH B htab
  refine g_entry [some (.ref b), some (.int a1), some (.int a2), some (.ref o), none] rfl rfl (Nat.le_of_ble_eq_true rfl) (fun ls hl => ?_)
  refine lv_aload_n X.1.1 X.1.2.1 d_Law_at_0 rfl (gl_at hl rfl) ?_
  refine lv_iconst (v := nI 0) X.1.1 X.1.2.1 d_Law_at_1 (by decide) ?_
  refine lv_aload_n X.1.1 X.1.2.1 d_Law_at_2 rfl (gl_at hl rfl) ?_
  refine lv_iload_n X.1.1 X.1.2.1 d_Law_at_3 rfl (gl_at hl rfl) ?_
  refine lv_iload_n X.1.1 X.1.2.1 d_Law_at_4 rfl (gl_at hl rfl) ?_
  refine g_cv (A := (fun p => A1 p ∨ p = o)) X gWS_good mw_Law_34 kc_Hall hb hM (fun U h1 h2 => hst s U hE hH h1 h2) hEb rfl rfl hl.1 (Nat.le_of_ble_eq_true rfl) rfl rfl ⟨Nat.le_refl _, Nat.le_refl _⟩ ⟨(show 0 + mc ≤ mc by omega), (show 0 + ms ≤ ms by omega)⟩ d_Law_at_5 (fun _ h => Or.inl h) (fun _ h => by cases h) (fun v1 H2 locs hp3 hL => ?_)
  obtain ⟨z, rfl, hko⟩ := hPo _ _ hp3
  replace ho := va_at.kept ho hko
  refine lv_i2l X.1.1 X.1.2.1 d_Law_at_8 rfl ?_
  refine g_last (A := (fun p => A1 p ∨ p = o)) X 2 ho rfl 0 (by decide) (by decide) d_Law_at_9 (Or.inr rfl) hL (fun H2 locs ho2 z2 o2 hL => ?_)
  refine lv_goto X.1.1 X.1.2.1 d_Law_at_10 rfl ?_
  refine lv_iconst (v := nI 0) X.1.1 X.1.2.1 d_Law_at_21 (by decide) ?_
  exact g_iret X B ⟨z, _, hp3, rfl, ho2, z2, o2⟩ hL d_Law_at_22 (by omega) (by omega)

set_option maxHeartbeats 4000000 in
set_option maxRecDepth 100000 in
theorem w_at_t0 (l : Launch) (D : va_G) (q : Nat → ClassId) (H : Heap) (b o : Nat) (fs : List Value) (hb : va_at D CL (b, .inr (9, fs)) H) (G : Nat → Int64) (ho : va_at D CL (o, .inl (q 2, 1, .inr (.inl G))) H) (a1 a2 : Int32) (f k mc ms : Nat) (A1 : Nat → Prop) (b0 : Nat) (xq : Nat → ClassId) (P : Heap → Prop) (hM : gT l y_Hall_at (Cond.code y_Hall_at b_Hall_at 3 (some .int) :: gWS) (gR f k mc ms) D CL (gY q) (fun U => gEs b0 xq U) [.ref b, .int a1, .int a2] H (fun x H1 => (∃ ce : Cell, H1[x]? = some ce ∧ ce.cls = xq 0 ∧ ce.vm = .none) ∧ P H1) mc ms A1) : gC l y_Law_at (Cond.codeWith y_Law_at b_Law_at 5 (some .int) hh_Law_at :: gWS) (gR (f + 1) (8 + (3 + 11) + k) mc ms) D CL (gY q) (fun U => gEn b0 xq U) [.ref b, .int a1, .int a2, .ref o] H (fun r H1 => r = some (.int (nI 1)) ∧ P H1) mc ms (fun p => A1 p ∨ p = o) := by
  refine gC.ofWW R_Law "at" (by decide) rfl rfl ?_
  intro p e s m below meth c hadm X hE hH B htab
  refine g_entry [some (.ref b), some (.int a1), some (.int a2), some (.ref o), none] rfl rfl (Nat.le_of_ble_eq_true rfl) (fun ls hl => ?_)
  refine lv_aload_n X.1.1 X.1.2.1 d_Law_at_0 rfl (gl_at hl rfl) ?_
  refine lv_iconst (v := nI 0) X.1.1 X.1.2.1 d_Law_at_1 (by decide) ?_
  refine lv_aload_n X.1.1 X.1.2.1 d_Law_at_2 rfl (gl_at hl rfl) ?_
  refine lv_iload_n X.1.1 X.1.2.1 d_Law_at_3 rfl (gl_at hl rfl) ?_
  refine lv_iload_n X.1.1 X.1.2.1 d_Law_at_4 rfl (gl_at hl rfl) ?_
  have hpl : e.platform.magicAccessors = ({} : Platform).magicAccessors := by rw [hadm.platform]
  refine g_catch (A := (fun p => A1 p ∨ p = o)) (rest := [.int (nI 0), .ref o]) (g_tv X gWS_good mw_Law_34 kc_Hall hb hM (fun V h1 h2 => hE.1.on (fun p hp => by rw [hH]) h1 h2) (gEs.blind b0 xq) rfl rfl hl.1 (Nat.le_of_ble_eq_true rfl) rfl rfl ⟨Nat.le_refl _, Nat.le_refl _⟩ ⟨show 0 + mc ≤ mc by omega, show 0 + ms ≤ ms by omega⟩ d_Law_at_5) htab 13 (fun x S hp hW0 => ?_) (fun _ h => Or.inl h) (fun _ h => by cases h) (fun x H1 locs hp hL => ?_)
  · obtain ⟨⟨ce, hce, hcl, hvm⟩, _⟩ := hp
    have hob : ∀ k, ce.vm ≠ .statics k := fun k h9 => by rw [hvm] at h9; cases h9
    exact g_hit (S := S) X hpl hW0 rfl hce hob (by rw [hcl]; exact hE.cls 0 (by decide)) (by rw [hcl]; exact hE.kn 0 (by decide)) (show 0 ≤ 5 ∧ 5 < 10 by decide) (by decide) lk_Law_13
  · refine g_ast X.1.1 X.1.2.1 hl 4 d_Law_at_13 (Nat.le_of_ble_eq_true rfl) rfl (fun ls hl => ?_)
    refine lv_iconst (v := nI 1) X.1.1 X.1.2.1 d_Law_at_15 (by decide) ?_
    exact g_iret X B ⟨rfl, hp.2⟩ hL d_Law_at_16 (by omega) (by omega)

set_option maxHeartbeats 4000000 in
set_option maxRecDepth 100000 in
theorem w_at_t3 (l : Launch) (D : va_G) (q : Nat → ClassId) (H : Heap) (b o : Nat) (fs : List Value) (hb : va_at D CL (b, .inr (9, fs)) H) (G : Nat → Int64) (ho : va_at D CL (o, .inl (q 2, 1, .inr (.inl G))) H) (a1 a2 : Int32) (f k mc ms : Nat) (A1 : Nat → Prop) (b0 : Nat) (xq : Nat → ClassId) (P : Heap → Prop) (hM : gT l y_Hall_at (Cond.code y_Hall_at b_Hall_at 3 (some .int) :: gWS) (gR f k mc ms) D CL (gY q) (fun U => gEs b0 xq U) [.ref b, .int a1, .int a2] H (fun x H1 => (∃ ce : Cell, H1[x]? = some ce ∧ ce.cls = xq 3 ∧ ce.vm = .none) ∧ P H1) mc ms A1) : gC l y_Law_at (Cond.codeWith y_Law_at b_Law_at 5 (some .int) hh_Law_at :: gWS) (gR (f + 1) (8 + (3 + 11) + k) mc ms) D CL (gY q) (fun U => gEn b0 xq U) [.ref b, .int a1, .int a2, .ref o] H (fun r H1 => r = some (.int (nI 2)) ∧ P H1) mc ms (fun p => A1 p ∨ p = o) := by
  refine gC.ofWW R_Law "at" (by decide) rfl rfl ?_
  intro p e s m below meth c hadm X hE hH B htab
  refine g_entry [some (.ref b), some (.int a1), some (.int a2), some (.ref o), none] rfl rfl (Nat.le_of_ble_eq_true rfl) (fun ls hl => ?_)
  refine lv_aload_n X.1.1 X.1.2.1 d_Law_at_0 rfl (gl_at hl rfl) ?_
  refine lv_iconst (v := nI 0) X.1.1 X.1.2.1 d_Law_at_1 (by decide) ?_
  refine lv_aload_n X.1.1 X.1.2.1 d_Law_at_2 rfl (gl_at hl rfl) ?_
  refine lv_iload_n X.1.1 X.1.2.1 d_Law_at_3 rfl (gl_at hl rfl) ?_
  refine lv_iload_n X.1.1 X.1.2.1 d_Law_at_4 rfl (gl_at hl rfl) ?_
  have hpl : e.platform.magicAccessors = ({} : Platform).magicAccessors := by rw [hadm.platform]
  refine g_catch (A := (fun p => A1 p ∨ p = o)) (rest := [.int (nI 0), .ref o]) (g_tv X gWS_good mw_Law_34 kc_Hall hb hM (fun V h1 h2 => hE.1.on (fun p hp => by rw [hH]) h1 h2) (gEs.blind b0 xq) rfl rfl hl.1 (Nat.le_of_ble_eq_true rfl) rfl rfl ⟨Nat.le_refl _, Nat.le_refl _⟩ ⟨show 0 + mc ≤ mc by omega, show 0 + ms ≤ ms by omega⟩ d_Law_at_5) htab 17 (fun x S hp hW0 => ?_) (fun _ h => Or.inl h) (fun _ h => by cases h) (fun x H1 locs hp hL => ?_)
  · obtain ⟨⟨ce, hce, hcl, hvm⟩, _⟩ := hp
    have hob : ∀ k, ce.vm ≠ .statics k := fun k h9 => by rw [hvm] at h9; cases h9
    exact g_pass (S := S) X hpl hW0 rfl hce hob (by rw [hcl]; exact hE.kn 3 (by decide)) (show 0 ≤ 5 ∧ 5 < 10 by decide) (by decide) lk_Law_13 (by rw [hcl]; exact hE.no 3 0 (by decide) (by decide) (by decide)) (fun vm1 hW1 => g_hit (S := (S.setVm vm1)) X hpl hW1 rfl hce hob (by rw [hcl]; exact hE.cls 3 (by decide)) (by rw [hcl]; exact hE.kn 3 (by decide)) (show 0 ≤ 5 ∧ 5 < 10 by decide) (by decide) lk_Law_32)
  · refine g_ast X.1.1 X.1.2.1 hl 4 d_Law_at_17 (Nat.le_of_ble_eq_true rfl) rfl (fun ls hl => ?_)
    refine lv_iconst (v := nI 2) X.1.1 X.1.2.1 d_Law_at_19 (by decide) ?_
    exact g_iret X B ⟨rfl, hp.2⟩ hL d_Law_at_20 (by omega) (by omega)

set_option maxHeartbeats 4000000 in
set_option maxRecDepth 100000 in
theorem w_poll (l : Launch) (D : va_G) (q : Nat → ClassId) (H : Heap) (b o : Nat) (fs : List Value) (hb : va_at D CL (b, .inr (9, fs)) H) (G : Nat → Int64) (ho : va_at D CL (o, .inl (q 2, 1, .inr (.inl G))) H) (a1 a2 : Int32) (f k mc ms : Nat) (A1 : Nat → Prop) (E : State → Prop) (hEb : gBlind E) (hst : ∀ U V : State, E U → U.heap = H → V.heap = H → U.WarmedH V.vm → E V) (Post : Option Value → Heap → Prop) (hPo : ∀ v H1, Post v H1 → ∃ z, v = some (.int z) ∧ H1[o]? = H[o]?) (hM : gC l y_Hall_poll (Cond.code y_Hall_poll b_Hall_poll 5 (some .int) :: gWS) (gR f k mc ms) D CL (gY q) E [.ref b, .int a1, .int a2] H Post mc ms A1) : gC l y_Law_poll (Cond.codeWith y_Law_poll b_Law_poll 5 (some .int) hh_Law_poll :: gWS) (gR (f + 1) (8 + (5 + 11) + k) mc ms) D CL (gY q) E [.ref b, .int a1, .int a2, .ref o] H (fun r H2 => ∃ z H1, Post (some (.int z)) H1 ∧ r = some (.int (nI 0)) ∧ va_at D CL (o, .inl (q 2, 1, .inr (.inl (vp_updL G 0 z.toInt64)))) H2 ∧ H2.size = H1.size ∧ ∀ p : Nat, p ≠ o → H2[p]? = H1[p]?) mc ms (fun p => A1 p ∨ p = o) := by
  refine gC.ofWW R_Law "poll" (by decide) rfl rfl ?_
  intro p e s m below meth c hadm X hE hH B htab
  refine g_entry [some (.ref b), some (.int a1), some (.int a2), some (.ref o), none] rfl rfl (Nat.le_of_ble_eq_true rfl) (fun ls hl => ?_)
  refine lv_aload_n X.1.1 X.1.2.1 d_Law_poll_0 rfl (gl_at hl rfl) ?_
  refine lv_iconst (v := nI 0) X.1.1 X.1.2.1 d_Law_poll_1 (by decide) ?_
  refine lv_aload_n X.1.1 X.1.2.1 d_Law_poll_2 rfl (gl_at hl rfl) ?_
  refine lv_iload_n X.1.1 X.1.2.1 d_Law_poll_3 rfl (gl_at hl rfl) ?_
  refine lv_iload_n X.1.1 X.1.2.1 d_Law_poll_4 rfl (gl_at hl rfl) ?_
  refine g_cv (A := (fun p => A1 p ∨ p = o)) X gWS_good mw_Law_37 kc_Hall hb hM (fun U h1 h2 => hst s U hE hH h1 h2) hEb rfl rfl hl.1 (Nat.le_of_ble_eq_true rfl) rfl rfl ⟨Nat.le_refl _, Nat.le_refl _⟩ ⟨(show 0 + mc ≤ mc by omega), (show 0 + ms ≤ ms by omega)⟩ d_Law_poll_5 (fun _ h => Or.inl h) (fun _ h => by cases h) (fun v1 H2 locs hp3 hL => ?_)
  obtain ⟨z, rfl, hko⟩ := hPo _ _ hp3
  replace ho := va_at.kept ho hko
  refine lv_i2l X.1.1 X.1.2.1 d_Law_poll_8 rfl ?_
  refine g_last (A := (fun p => A1 p ∨ p = o)) X 2 ho rfl 0 (by decide) (by decide) d_Law_poll_9 (Or.inr rfl) hL (fun H2 locs ho2 z2 o2 hL => ?_)
  refine lv_goto X.1.1 X.1.2.1 d_Law_poll_10 rfl ?_
  refine lv_iconst (v := nI 0) X.1.1 X.1.2.1 d_Law_poll_21 (by decide) ?_
  exact g_iret X B ⟨z, _, hp3, rfl, ho2, z2, o2⟩ hL d_Law_poll_22 (by omega) (by omega)

set_option maxHeartbeats 4000000 in
set_option maxRecDepth 100000 in
theorem w_poll_t0 (l : Launch) (D : va_G) (q : Nat → ClassId) (H : Heap) (b o : Nat) (fs : List Value) (hb : va_at D CL (b, .inr (9, fs)) H) (G : Nat → Int64) (ho : va_at D CL (o, .inl (q 2, 1, .inr (.inl G))) H) (a1 a2 : Int32) (f k mc ms : Nat) (A1 : Nat → Prop) (b0 : Nat) (xq : Nat → ClassId) (P : Heap → Prop) (hM : gT l y_Hall_poll (Cond.code y_Hall_poll b_Hall_poll 5 (some .int) :: gWS) (gR f k mc ms) D CL (gY q) (fun U => gEs b0 xq U) [.ref b, .int a1, .int a2] H (fun x H1 => (∃ ce : Cell, H1[x]? = some ce ∧ ce.cls = xq 0 ∧ ce.vm = .none) ∧ P H1) mc ms A1) : gC l y_Law_poll (Cond.codeWith y_Law_poll b_Law_poll 5 (some .int) hh_Law_poll :: gWS) (gR (f + 1) (8 + (5 + 11) + k) mc ms) D CL (gY q) (fun U => gEn b0 xq U) [.ref b, .int a1, .int a2, .ref o] H (fun r H1 => r = some (.int (nI 1)) ∧ P H1) mc ms (fun p => A1 p ∨ p = o) := by
  refine gC.ofWW R_Law "poll" (by decide) rfl rfl ?_
  intro p e s m below meth c hadm X hE hH B htab
  refine g_entry [some (.ref b), some (.int a1), some (.int a2), some (.ref o), none] rfl rfl (Nat.le_of_ble_eq_true rfl) (fun ls hl => ?_)
  refine lv_aload_n X.1.1 X.1.2.1 d_Law_poll_0 rfl (gl_at hl rfl) ?_
  refine lv_iconst (v := nI 0) X.1.1 X.1.2.1 d_Law_poll_1 (by decide) ?_
  refine lv_aload_n X.1.1 X.1.2.1 d_Law_poll_2 rfl (gl_at hl rfl) ?_
  refine lv_iload_n X.1.1 X.1.2.1 d_Law_poll_3 rfl (gl_at hl rfl) ?_
  refine lv_iload_n X.1.1 X.1.2.1 d_Law_poll_4 rfl (gl_at hl rfl) ?_
  have hpl : e.platform.magicAccessors = ({} : Platform).magicAccessors := by rw [hadm.platform]
  refine g_catch (A := (fun p => A1 p ∨ p = o)) (rest := [.int (nI 0), .ref o]) (g_tv X gWS_good mw_Law_37 kc_Hall hb hM (fun V h1 h2 => hE.1.on (fun p hp => by rw [hH]) h1 h2) (gEs.blind b0 xq) rfl rfl hl.1 (Nat.le_of_ble_eq_true rfl) rfl rfl ⟨Nat.le_refl _, Nat.le_refl _⟩ ⟨show 0 + mc ≤ mc by omega, show 0 + ms ≤ ms by omega⟩ d_Law_poll_5) htab 13 (fun x S hp hW0 => ?_) (fun _ h => Or.inl h) (fun _ h => by cases h) (fun x H1 locs hp hL => ?_)
  · obtain ⟨⟨ce, hce, hcl, hvm⟩, _⟩ := hp
    have hob : ∀ k, ce.vm ≠ .statics k := fun k h9 => by rw [hvm] at h9; cases h9
    exact g_hit (S := S) X hpl hW0 rfl hce hob (by rw [hcl]; exact hE.cls 0 (by decide)) (by rw [hcl]; exact hE.kn 0 (by decide)) (show 0 ≤ 5 ∧ 5 < 10 by decide) (by decide) lk_Law_13
  · refine g_ast X.1.1 X.1.2.1 hl 4 d_Law_poll_13 (Nat.le_of_ble_eq_true rfl) rfl (fun ls hl => ?_)
    refine lv_iconst (v := nI 1) X.1.1 X.1.2.1 d_Law_poll_15 (by decide) ?_
    exact g_iret X B ⟨rfl, hp.2⟩ hL d_Law_poll_16 (by omega) (by omega)

set_option maxHeartbeats 4000000 in
set_option maxRecDepth 100000 in
theorem w_poll_t3 (l : Launch) (D : va_G) (q : Nat → ClassId) (H : Heap) (b o : Nat) (fs : List Value) (hb : va_at D CL (b, .inr (9, fs)) H) (G : Nat → Int64) (ho : va_at D CL (o, .inl (q 2, 1, .inr (.inl G))) H) (a1 a2 : Int32) (f k mc ms : Nat) (A1 : Nat → Prop) (b0 : Nat) (xq : Nat → ClassId) (P : Heap → Prop) (hM : gT l y_Hall_poll (Cond.code y_Hall_poll b_Hall_poll 5 (some .int) :: gWS) (gR f k mc ms) D CL (gY q) (fun U => gEs b0 xq U) [.ref b, .int a1, .int a2] H (fun x H1 => (∃ ce : Cell, H1[x]? = some ce ∧ ce.cls = xq 3 ∧ ce.vm = .none) ∧ P H1) mc ms A1) : gC l y_Law_poll (Cond.codeWith y_Law_poll b_Law_poll 5 (some .int) hh_Law_poll :: gWS) (gR (f + 1) (8 + (5 + 11) + k) mc ms) D CL (gY q) (fun U => gEn b0 xq U) [.ref b, .int a1, .int a2, .ref o] H (fun r H1 => r = some (.int (nI 2)) ∧ P H1) mc ms (fun p => A1 p ∨ p = o) := by
  refine gC.ofWW R_Law "poll" (by decide) rfl rfl ?_
  intro p e s m below meth c hadm X hE hH B htab
  refine g_entry [some (.ref b), some (.int a1), some (.int a2), some (.ref o), none] rfl rfl (Nat.le_of_ble_eq_true rfl) (fun ls hl => ?_)
  refine lv_aload_n X.1.1 X.1.2.1 d_Law_poll_0 rfl (gl_at hl rfl) ?_
  refine lv_iconst (v := nI 0) X.1.1 X.1.2.1 d_Law_poll_1 (by decide) ?_
  refine lv_aload_n X.1.1 X.1.2.1 d_Law_poll_2 rfl (gl_at hl rfl) ?_
  refine lv_iload_n X.1.1 X.1.2.1 d_Law_poll_3 rfl (gl_at hl rfl) ?_
  refine lv_iload_n X.1.1 X.1.2.1 d_Law_poll_4 rfl (gl_at hl rfl) ?_
  have hpl : e.platform.magicAccessors = ({} : Platform).magicAccessors := by rw [hadm.platform]
  refine g_catch (A := (fun p => A1 p ∨ p = o)) (rest := [.int (nI 0), .ref o]) (g_tv X gWS_good mw_Law_37 kc_Hall hb hM (fun V h1 h2 => hE.1.on (fun p hp => by rw [hH]) h1 h2) (gEs.blind b0 xq) rfl rfl hl.1 (Nat.le_of_ble_eq_true rfl) rfl rfl ⟨Nat.le_refl _, Nat.le_refl _⟩ ⟨show 0 + mc ≤ mc by omega, show 0 + ms ≤ ms by omega⟩ d_Law_poll_5) htab 17 (fun x S hp hW0 => ?_) (fun _ h => Or.inl h) (fun _ h => by cases h) (fun x H1 locs hp hL => ?_)
  · obtain ⟨⟨ce, hce, hcl, hvm⟩, _⟩ := hp
    have hob : ∀ k, ce.vm ≠ .statics k := fun k h9 => by rw [hvm] at h9; cases h9
    exact g_pass (S := S) X hpl hW0 rfl hce hob (by rw [hcl]; exact hE.kn 3 (by decide)) (show 0 ≤ 5 ∧ 5 < 10 by decide) (by decide) lk_Law_13 (by rw [hcl]; exact hE.no 3 0 (by decide) (by decide) (by decide)) (fun vm1 hW1 => g_hit (S := (S.setVm vm1)) X hpl hW1 rfl hce hob (by rw [hcl]; exact hE.cls 3 (by decide)) (by rw [hcl]; exact hE.kn 3 (by decide)) (show 0 ≤ 5 ∧ 5 < 10 by decide) (by decide) lk_Law_32)
  · refine g_ast X.1.1 X.1.2.1 hl 4 d_Law_poll_17 (Nat.le_of_ble_eq_true rfl) rfl (fun ls hl => ?_)
    refine lv_iconst (v := nI 2) X.1.1 X.1.2.1 d_Law_poll_19 (by decide) ?_
    exact g_iret X B ⟨rfl, hp.2⟩ hL d_Law_poll_20 (by omega) (by omega)

set_option maxHeartbeats 4000000 in
set_option maxRecDepth 100000 in
theorem w_next (l : Launch) (D : va_G) (q : Nat → ClassId) (H : Heap) (b o : Nat) (fs : List Value) (hb : va_at D CL (b, .inr (9, fs)) H) (G : Nat → Int64) (ho : va_at D CL (o, .inl (q 2, 1, .inr (.inl G))) H) (a1 : Int32) (f k mc ms : Nat) (A1 : Nat → Prop) (E : State → Prop) (hEb : gBlind E) (hst : ∀ U V : State, E U → U.heap = H → V.heap = H → U.WarmedH V.vm → E V) (Post : Option Value → Heap → Prop) (hPo : ∀ v H1, Post v H1 → ∃ z, v = some (.int z) ∧ H1[o]? = H[o]?) (hM : gC l y_Hall_next (Cond.code y_Hall_next b_Hall_next 4 (some .int) :: gWS) (gR f k mc ms) D CL (gY q) E [.ref b, .int a1] H Post mc ms A1) : gC l y_Law_next (Cond.codeWith y_Law_next b_Law_next 4 (some .int) hh_Law_next :: gWS) (gR (f + 1) (8 + (4 + 11) + k) mc ms) D CL (gY q) E [.ref b, .int a1, .ref o] H (fun r H2 => ∃ z H1, Post (some (.int z)) H1 ∧ r = some (.int (nI 0)) ∧ va_at D CL (o, .inl (q 2, 1, .inr (.inl (vp_updL G 0 z.toInt64)))) H2 ∧ H2.size = H1.size ∧ ∀ p : Nat, p ≠ o → H2[p]? = H1[p]?) mc ms (fun p => A1 p ∨ p = o) := by
  refine gC.ofWW R_Law "next" (by decide) rfl rfl ?_
  intro p e s m below meth c hadm X hE hH B htab
  refine g_entry [some (.ref b), some (.int a1), some (.ref o), none] rfl rfl (Nat.le_of_ble_eq_true rfl) (fun ls hl => ?_)
  refine lv_aload_n X.1.1 X.1.2.1 d_Law_next_0 rfl (gl_at hl rfl) ?_
  refine lv_iconst (v := nI 0) X.1.1 X.1.2.1 d_Law_next_1 (by decide) ?_
  refine lv_aload_n X.1.1 X.1.2.1 d_Law_next_2 rfl (gl_at hl rfl) ?_
  refine lv_iload_n X.1.1 X.1.2.1 d_Law_next_3 rfl (gl_at hl rfl) ?_
  refine g_cv (A := (fun p => A1 p ∨ p = o)) X gWS_good mw_Law_41 kc_Hall hb hM (fun U h1 h2 => hst s U hE hH h1 h2) hEb rfl rfl hl.1 (Nat.le_of_ble_eq_true rfl) rfl rfl ⟨Nat.le_refl _, Nat.le_refl _⟩ ⟨(show 0 + mc ≤ mc by omega), (show 0 + ms ≤ ms by omega)⟩ d_Law_next_4 (fun _ h => Or.inl h) (fun _ h => by cases h) (fun v1 H2 locs hp3 hL => ?_)
  obtain ⟨z, rfl, hko⟩ := hPo _ _ hp3
  replace ho := va_at.kept ho hko
  refine lv_i2l X.1.1 X.1.2.1 d_Law_next_7 rfl ?_
  refine g_last (A := (fun p => A1 p ∨ p = o)) X 2 ho rfl 0 (by decide) (by decide) d_Law_next_8 (Or.inr rfl) hL (fun H2 locs ho2 z2 o2 hL => ?_)
  refine lv_goto X.1.1 X.1.2.1 d_Law_next_9 rfl ?_
  refine lv_iconst (v := nI 0) X.1.1 X.1.2.1 d_Law_next_21 (by decide) ?_
  exact g_iret X B ⟨z, _, hp3, rfl, ho2, z2, o2⟩ hL d_Law_next_22 (by omega) (by omega)

set_option maxHeartbeats 4000000 in
set_option maxRecDepth 100000 in
theorem w_next_t0 (l : Launch) (D : va_G) (q : Nat → ClassId) (H : Heap) (b o : Nat) (fs : List Value) (hb : va_at D CL (b, .inr (9, fs)) H) (G : Nat → Int64) (ho : va_at D CL (o, .inl (q 2, 1, .inr (.inl G))) H) (a1 : Int32) (f k mc ms : Nat) (A1 : Nat → Prop) (b0 : Nat) (xq : Nat → ClassId) (P : Heap → Prop) (hM : gT l y_Hall_next (Cond.code y_Hall_next b_Hall_next 4 (some .int) :: gWS) (gR f k mc ms) D CL (gY q) (fun U => gEs b0 xq U) [.ref b, .int a1] H (fun x H1 => (∃ ce : Cell, H1[x]? = some ce ∧ ce.cls = xq 0 ∧ ce.vm = .none) ∧ P H1) mc ms A1) : gC l y_Law_next (Cond.codeWith y_Law_next b_Law_next 4 (some .int) hh_Law_next :: gWS) (gR (f + 1) (8 + (4 + 11) + k) mc ms) D CL (gY q) (fun U => gEn b0 xq U) [.ref b, .int a1, .ref o] H (fun r H1 => r = some (.int (nI 1)) ∧ P H1) mc ms (fun p => A1 p ∨ p = o) := by
  refine gC.ofWW R_Law "next" (by decide) rfl rfl ?_
  intro p e s m below meth c hadm X hE hH B htab
  refine g_entry [some (.ref b), some (.int a1), some (.ref o), none] rfl rfl (Nat.le_of_ble_eq_true rfl) (fun ls hl => ?_)
  refine lv_aload_n X.1.1 X.1.2.1 d_Law_next_0 rfl (gl_at hl rfl) ?_
  refine lv_iconst (v := nI 0) X.1.1 X.1.2.1 d_Law_next_1 (by decide) ?_
  refine lv_aload_n X.1.1 X.1.2.1 d_Law_next_2 rfl (gl_at hl rfl) ?_
  refine lv_iload_n X.1.1 X.1.2.1 d_Law_next_3 rfl (gl_at hl rfl) ?_
  have hpl : e.platform.magicAccessors = ({} : Platform).magicAccessors := by rw [hadm.platform]
  refine g_catch (A := (fun p => A1 p ∨ p = o)) (rest := [.int (nI 0), .ref o]) (g_tv X gWS_good mw_Law_41 kc_Hall hb hM (fun V h1 h2 => hE.1.on (fun p hp => by rw [hH]) h1 h2) (gEs.blind b0 xq) rfl rfl hl.1 (Nat.le_of_ble_eq_true rfl) rfl rfl ⟨Nat.le_refl _, Nat.le_refl _⟩ ⟨show 0 + mc ≤ mc by omega, show 0 + ms ≤ ms by omega⟩ d_Law_next_4) htab 12 (fun x S hp hW0 => ?_) (fun _ h => Or.inl h) (fun _ h => by cases h) (fun x H1 locs hp hL => ?_)
  · obtain ⟨⟨ce, hce, hcl, hvm⟩, _⟩ := hp
    have hob : ∀ k, ce.vm ≠ .statics k := fun k h9 => by rw [hvm] at h9; cases h9
    exact g_hit (S := S) X hpl hW0 rfl hce hob (by rw [hcl]; exact hE.cls 0 (by decide)) (by rw [hcl]; exact hE.kn 0 (by decide)) (show 0 ≤ 4 ∧ 4 < 9 by decide) (by decide) lk_Law_13
  · refine g_astn X.1.1 X.1.2.1 hl 3 d_Law_next_12 rfl (Nat.le_of_ble_eq_true rfl) rfl (fun ls hl => ?_)
    refine lv_iconst (v := nI 1) X.1.1 X.1.2.1 d_Law_next_13 (by decide) ?_
    exact g_iret X B ⟨rfl, hp.2⟩ hL d_Law_next_14 (by omega) (by omega)

set_option maxHeartbeats 4000000 in
set_option maxRecDepth 100000 in
theorem w_next_t2 (l : Launch) (D : va_G) (q : Nat → ClassId) (H : Heap) (b o : Nat) (fs : List Value) (hb : va_at D CL (b, .inr (9, fs)) H) (G : Nat → Int64) (ho : va_at D CL (o, .inl (q 2, 1, .inr (.inl G))) H) (a1 : Int32) (f k mc ms : Nat) (A1 : Nat → Prop) (b0 : Nat) (xq : Nat → ClassId) (P : Heap → Prop) (hM : gT l y_Hall_next (Cond.code y_Hall_next b_Hall_next 4 (some .int) :: gWS) (gR f k mc ms) D CL (gY q) (fun U => gEs b0 xq U) [.ref b, .int a1] H (fun x H1 => (∃ ce : Cell, H1[x]? = some ce ∧ ce.cls = xq 2 ∧ ce.vm = .none) ∧ P H1) mc ms A1) : gC l y_Law_next (Cond.codeWith y_Law_next b_Law_next 4 (some .int) hh_Law_next :: gWS) (gR (f + 1) (8 + (4 + 11) + k) mc ms) D CL (gY q) (fun U => gEn b0 xq U) [.ref b, .int a1, .ref o] H (fun r H1 => r = some (.int (nI 2)) ∧ P H1) mc ms (fun p => A1 p ∨ p = o) := by
  refine gC.ofWW R_Law "next" (by decide) rfl rfl ?_
  intro p e s m below meth c hadm X hE hH B htab
  refine g_entry [some (.ref b), some (.int a1), some (.ref o), none] rfl rfl (Nat.le_of_ble_eq_true rfl) (fun ls hl => ?_)
  refine lv_aload_n X.1.1 X.1.2.1 d_Law_next_0 rfl (gl_at hl rfl) ?_
  refine lv_iconst (v := nI 0) X.1.1 X.1.2.1 d_Law_next_1 (by decide) ?_
  refine lv_aload_n X.1.1 X.1.2.1 d_Law_next_2 rfl (gl_at hl rfl) ?_
  refine lv_iload_n X.1.1 X.1.2.1 d_Law_next_3 rfl (gl_at hl rfl) ?_
  have hpl : e.platform.magicAccessors = ({} : Platform).magicAccessors := by rw [hadm.platform]
  refine g_catch (A := (fun p => A1 p ∨ p = o)) (rest := [.int (nI 0), .ref o]) (g_tv X gWS_good mw_Law_41 kc_Hall hb hM (fun V h1 h2 => hE.1.on (fun p hp => by rw [hH]) h1 h2) (gEs.blind b0 xq) rfl rfl hl.1 (Nat.le_of_ble_eq_true rfl) rfl rfl ⟨Nat.le_refl _, Nat.le_refl _⟩ ⟨show 0 + mc ≤ mc by omega, show 0 + ms ≤ ms by omega⟩ d_Law_next_4) htab 15 (fun x S hp hW0 => ?_) (fun _ h => Or.inl h) (fun _ h => by cases h) (fun x H1 locs hp hL => ?_)
  · obtain ⟨⟨ce, hce, hcl, hvm⟩, _⟩ := hp
    have hob : ∀ k, ce.vm ≠ .statics k := fun k h9 => by rw [hvm] at h9; cases h9
    exact g_pass (S := S) X hpl hW0 rfl hce hob (by rw [hcl]; exact hE.kn 2 (by decide)) (show 0 ≤ 4 ∧ 4 < 9 by decide) (by decide) lk_Law_13 (by rw [hcl]; exact hE.no 2 0 (by decide) (by decide) (by decide)) (fun vm1 hW1 => g_hit (S := (S.setVm vm1)) X hpl hW1 rfl hce hob (by rw [hcl]; exact hE.cls 2 (by decide)) (by rw [hcl]; exact hE.kn 2 (by decide)) (show 0 ≤ 4 ∧ 4 < 9 by decide) (by decide) lk_Law_20)
  · refine g_astn X.1.1 X.1.2.1 hl 3 d_Law_next_15 rfl (Nat.le_of_ble_eq_true rfl) rfl (fun ls hl => ?_)
    refine lv_iconst (v := nI 2) X.1.1 X.1.2.1 d_Law_next_16 (by decide) ?_
    exact g_iret X B ⟨rfl, hp.2⟩ hL d_Law_next_17 (by omega) (by omega)

set_option maxHeartbeats 4000000 in
set_option maxRecDepth 100000 in
theorem w_next_t3 (l : Launch) (D : va_G) (q : Nat → ClassId) (H : Heap) (b o : Nat) (fs : List Value) (hb : va_at D CL (b, .inr (9, fs)) H) (G : Nat → Int64) (ho : va_at D CL (o, .inl (q 2, 1, .inr (.inl G))) H) (a1 : Int32) (f k mc ms : Nat) (A1 : Nat → Prop) (b0 : Nat) (xq : Nat → ClassId) (P : Heap → Prop) (hM : gT l y_Hall_next (Cond.code y_Hall_next b_Hall_next 4 (some .int) :: gWS) (gR f k mc ms) D CL (gY q) (fun U => gEs b0 xq U) [.ref b, .int a1] H (fun x H1 => (∃ ce : Cell, H1[x]? = some ce ∧ ce.cls = xq 3 ∧ ce.vm = .none) ∧ P H1) mc ms A1) : gC l y_Law_next (Cond.codeWith y_Law_next b_Law_next 4 (some .int) hh_Law_next :: gWS) (gR (f + 1) (8 + (4 + 11) + k) mc ms) D CL (gY q) (fun U => gEn b0 xq U) [.ref b, .int a1, .ref o] H (fun r H1 => r = some (.int (nI 3)) ∧ P H1) mc ms (fun p => A1 p ∨ p = o) := by
  refine gC.ofWW R_Law "next" (by decide) rfl rfl ?_
  intro p e s m below meth c hadm X hE hH B htab
  refine g_entry [some (.ref b), some (.int a1), some (.ref o), none] rfl rfl (Nat.le_of_ble_eq_true rfl) (fun ls hl => ?_)
  refine lv_aload_n X.1.1 X.1.2.1 d_Law_next_0 rfl (gl_at hl rfl) ?_
  refine lv_iconst (v := nI 0) X.1.1 X.1.2.1 d_Law_next_1 (by decide) ?_
  refine lv_aload_n X.1.1 X.1.2.1 d_Law_next_2 rfl (gl_at hl rfl) ?_
  refine lv_iload_n X.1.1 X.1.2.1 d_Law_next_3 rfl (gl_at hl rfl) ?_
  have hpl : e.platform.magicAccessors = ({} : Platform).magicAccessors := by rw [hadm.platform]
  refine g_catch (A := (fun p => A1 p ∨ p = o)) (rest := [.int (nI 0), .ref o]) (g_tv X gWS_good mw_Law_41 kc_Hall hb hM (fun V h1 h2 => hE.1.on (fun p hp => by rw [hH]) h1 h2) (gEs.blind b0 xq) rfl rfl hl.1 (Nat.le_of_ble_eq_true rfl) rfl rfl ⟨Nat.le_refl _, Nat.le_refl _⟩ ⟨show 0 + mc ≤ mc by omega, show 0 + ms ≤ ms by omega⟩ d_Law_next_4) htab 18 (fun x S hp hW0 => ?_) (fun _ h => Or.inl h) (fun _ h => by cases h) (fun x H1 locs hp hL => ?_)
  · obtain ⟨⟨ce, hce, hcl, hvm⟩, _⟩ := hp
    have hob : ∀ k, ce.vm ≠ .statics k := fun k h9 => by rw [hvm] at h9; cases h9
    exact g_pass (S := S) X hpl hW0 rfl hce hob (by rw [hcl]; exact hE.kn 3 (by decide)) (show 0 ≤ 4 ∧ 4 < 9 by decide) (by decide) lk_Law_13 (by rw [hcl]; exact hE.no 3 0 (by decide) (by decide) (by decide)) (fun vm1 hW1 => g_pass (S := (S.setVm vm1)) X hpl hW1 rfl hce hob (by rw [hcl]; exact hE.kn 3 (by decide)) (show 0 ≤ 4 ∧ 4 < 9 by decide) (by decide) lk_Law_20 (by rw [hcl]; exact hE.no 3 2 (by decide) (by decide) (by decide)) (fun vm2 hW2 => g_hit (S := ((S.setVm vm1).setVm vm2)) X hpl hW2 rfl hce hob (by rw [hcl]; exact hE.cls 3 (by decide)) (by rw [hcl]; exact hE.kn 3 (by decide)) (show 0 ≤ 4 ∧ 4 < 9 by decide) (by decide) lk_Law_32))
  · refine g_astn X.1.1 X.1.2.1 hl 3 d_Law_next_18 rfl (Nat.le_of_ble_eq_true rfl) rfl (fun ls hl => ?_)
    refine lv_iconst (v := nI 3) X.1.1 X.1.2.1 d_Law_next_19 (by decide) ?_
    exact g_iret X B ⟨rfl, hp.2⟩ hL d_Law_next_20 (by omega) (by omega)

set_option maxHeartbeats 4000000 in
set_option maxRecDepth 100000 in
theorem w_drop (l : Launch) (D : va_G) (q : Nat → ClassId) (H : Heap) (b o : Nat) (fs : List Value) (hb : va_at D CL (b, .inr (9, fs)) H) (G : Nat → Int64) (ho : va_at D CL (o, .inl (q 2, 1, .inr (.inl G))) H) (a1 : Int32) (f k mc ms : Nat) (A1 : Nat → Prop) (E : State → Prop) (hEb : gBlind E) (hst : ∀ U V : State, E U → U.heap = H → V.heap = H → U.WarmedH V.vm → E V) (Post : Option Value → Heap → Prop) (hPo : ∀ v H1, Post v H1 → ∃ z, v = some (.int z) ∧ H1[o]? = H[o]?) (hM : gC l y_Hall_drop (Cond.code y_Hall_drop b_Hall_drop 5 (some .int) :: gWS) (gR f k mc ms) D CL (gY q) E [.ref b, .int a1] H Post mc ms A1) : gC l y_Law_drop (Cond.codeWith y_Law_drop b_Law_drop 4 (some .int) hh_Law_drop :: gWS) (gR (f + 1) (8 + (5 + 11) + k) mc ms) D CL (gY q) E [.ref b, .int a1, .ref o] H (fun r H2 => ∃ z H1, Post (some (.int z)) H1 ∧ r = some (.int (nI 0)) ∧ va_at D CL (o, .inl (q 2, 1, .inr (.inl (vp_updL G 0 z.toInt64)))) H2 ∧ H2.size = H1.size ∧ ∀ p : Nat, p ≠ o → H2[p]? = H1[p]?) mc ms (fun p => A1 p ∨ p = o) := by
  refine gC.ofWW R_Law "drop" (by decide) rfl rfl ?_
  intro p e s m below meth c hadm X hE hH B htab
  refine g_entry [some (.ref b), some (.int a1), some (.ref o), none] rfl rfl (Nat.le_of_ble_eq_true rfl) (fun ls hl => ?_)
  refine lv_aload_n X.1.1 X.1.2.1 d_Law_drop_0 rfl (gl_at hl rfl) ?_
  refine lv_iconst (v := nI 0) X.1.1 X.1.2.1 d_Law_drop_1 (by decide) ?_
  refine lv_aload_n X.1.1 X.1.2.1 d_Law_drop_2 rfl (gl_at hl rfl) ?_
  refine lv_iload_n X.1.1 X.1.2.1 d_Law_drop_3 rfl (gl_at hl rfl) ?_
  refine g_cv (A := (fun p => A1 p ∨ p = o)) X gWS_good mw_Law_44 kc_Hall hb hM (fun U h1 h2 => hst s U hE hH h1 h2) hEb rfl rfl hl.1 (Nat.le_of_ble_eq_true rfl) rfl rfl ⟨Nat.le_refl _, Nat.le_refl _⟩ ⟨(show 0 + mc ≤ mc by omega), (show 0 + ms ≤ ms by omega)⟩ d_Law_drop_4 (fun _ h => Or.inl h) (fun _ h => by cases h) (fun v1 H2 locs hp3 hL => ?_)
  obtain ⟨z, rfl, hko⟩ := hPo _ _ hp3
  replace ho := va_at.kept ho hko
  refine lv_i2l X.1.1 X.1.2.1 d_Law_drop_7 rfl ?_
  refine g_last (A := (fun p => A1 p ∨ p = o)) X 2 ho rfl 0 (by decide) (by decide) d_Law_drop_8 (Or.inr rfl) hL (fun H2 locs ho2 z2 o2 hL => ?_)
  refine lv_goto X.1.1 X.1.2.1 d_Law_drop_9 rfl ?_
  refine lv_iconst (v := nI 0) X.1.1 X.1.2.1 d_Law_drop_18 (by decide) ?_
  exact g_iret X B ⟨z, _, hp3, rfl, ho2, z2, o2⟩ hL d_Law_drop_19 (by omega) (by omega)

set_option maxHeartbeats 4000000 in
set_option maxRecDepth 100000 in
theorem w_drop_t0 (l : Launch) (D : va_G) (q : Nat → ClassId) (H : Heap) (b o : Nat) (fs : List Value) (hb : va_at D CL (b, .inr (9, fs)) H) (G : Nat → Int64) (ho : va_at D CL (o, .inl (q 2, 1, .inr (.inl G))) H) (a1 : Int32) (f k mc ms : Nat) (A1 : Nat → Prop) (b0 : Nat) (xq : Nat → ClassId) (P : Heap → Prop) (hM : gT l y_Hall_drop (Cond.code y_Hall_drop b_Hall_drop 5 (some .int) :: gWS) (gR f k mc ms) D CL (gY q) (fun U => gEs b0 xq U) [.ref b, .int a1] H (fun x H1 => (∃ ce : Cell, H1[x]? = some ce ∧ ce.cls = xq 0 ∧ ce.vm = .none) ∧ P H1) mc ms A1) : gC l y_Law_drop (Cond.codeWith y_Law_drop b_Law_drop 4 (some .int) hh_Law_drop :: gWS) (gR (f + 1) (8 + (5 + 11) + k) mc ms) D CL (gY q) (fun U => gEn b0 xq U) [.ref b, .int a1, .ref o] H (fun r H1 => r = some (.int (nI 1)) ∧ P H1) mc ms (fun p => A1 p ∨ p = o) := by
  refine gC.ofWW R_Law "drop" (by decide) rfl rfl ?_
  intro p e s m below meth c hadm X hE hH B htab
  refine g_entry [some (.ref b), some (.int a1), some (.ref o), none] rfl rfl (Nat.le_of_ble_eq_true rfl) (fun ls hl => ?_)
  refine lv_aload_n X.1.1 X.1.2.1 d_Law_drop_0 rfl (gl_at hl rfl) ?_
  refine lv_iconst (v := nI 0) X.1.1 X.1.2.1 d_Law_drop_1 (by decide) ?_
  refine lv_aload_n X.1.1 X.1.2.1 d_Law_drop_2 rfl (gl_at hl rfl) ?_
  refine lv_iload_n X.1.1 X.1.2.1 d_Law_drop_3 rfl (gl_at hl rfl) ?_
  have hpl : e.platform.magicAccessors = ({} : Platform).magicAccessors := by rw [hadm.platform]
  refine g_catch (A := (fun p => A1 p ∨ p = o)) (rest := [.int (nI 0), .ref o]) (g_tv X gWS_good mw_Law_44 kc_Hall hb hM (fun V h1 h2 => hE.1.on (fun p hp => by rw [hH]) h1 h2) (gEs.blind b0 xq) rfl rfl hl.1 (Nat.le_of_ble_eq_true rfl) rfl rfl ⟨Nat.le_refl _, Nat.le_refl _⟩ ⟨show 0 + mc ≤ mc by omega, show 0 + ms ≤ ms by omega⟩ d_Law_drop_4) htab 12 (fun x S hp hW0 => ?_) (fun _ h => Or.inl h) (fun _ h => by cases h) (fun x H1 locs hp hL => ?_)
  · obtain ⟨⟨ce, hce, hcl, hvm⟩, _⟩ := hp
    have hob : ∀ k, ce.vm ≠ .statics k := fun k h9 => by rw [hvm] at h9; cases h9
    exact g_hit (S := S) X hpl hW0 rfl hce hob (by rw [hcl]; exact hE.cls 0 (by decide)) (by rw [hcl]; exact hE.kn 0 (by decide)) (show 0 ≤ 4 ∧ 4 < 9 by decide) (by decide) lk_Law_13
  · refine g_astn X.1.1 X.1.2.1 hl 3 d_Law_drop_12 rfl (Nat.le_of_ble_eq_true rfl) rfl (fun ls hl => ?_)
    refine lv_iconst (v := nI 1) X.1.1 X.1.2.1 d_Law_drop_13 (by decide) ?_
    exact g_iret X B ⟨rfl, hp.2⟩ hL d_Law_drop_14 (by omega) (by omega)

set_option maxHeartbeats 4000000 in
set_option maxRecDepth 100000 in
theorem w_drop_t2 (l : Launch) (D : va_G) (q : Nat → ClassId) (H : Heap) (b o : Nat) (fs : List Value) (hb : va_at D CL (b, .inr (9, fs)) H) (G : Nat → Int64) (ho : va_at D CL (o, .inl (q 2, 1, .inr (.inl G))) H) (a1 : Int32) (f k mc ms : Nat) (A1 : Nat → Prop) (b0 : Nat) (xq : Nat → ClassId) (P : Heap → Prop) (hM : gT l y_Hall_drop (Cond.code y_Hall_drop b_Hall_drop 5 (some .int) :: gWS) (gR f k mc ms) D CL (gY q) (fun U => gEs b0 xq U) [.ref b, .int a1] H (fun x H1 => (∃ ce : Cell, H1[x]? = some ce ∧ ce.cls = xq 2 ∧ ce.vm = .none) ∧ P H1) mc ms A1) : gC l y_Law_drop (Cond.codeWith y_Law_drop b_Law_drop 4 (some .int) hh_Law_drop :: gWS) (gR (f + 1) (8 + (5 + 11) + k) mc ms) D CL (gY q) (fun U => gEn b0 xq U) [.ref b, .int a1, .ref o] H (fun r H1 => r = some (.int (nI 2)) ∧ P H1) mc ms (fun p => A1 p ∨ p = o) := by
  refine gC.ofWW R_Law "drop" (by decide) rfl rfl ?_
  intro p e s m below meth c hadm X hE hH B htab
  refine g_entry [some (.ref b), some (.int a1), some (.ref o), none] rfl rfl (Nat.le_of_ble_eq_true rfl) (fun ls hl => ?_)
  refine lv_aload_n X.1.1 X.1.2.1 d_Law_drop_0 rfl (gl_at hl rfl) ?_
  refine lv_iconst (v := nI 0) X.1.1 X.1.2.1 d_Law_drop_1 (by decide) ?_
  refine lv_aload_n X.1.1 X.1.2.1 d_Law_drop_2 rfl (gl_at hl rfl) ?_
  refine lv_iload_n X.1.1 X.1.2.1 d_Law_drop_3 rfl (gl_at hl rfl) ?_
  have hpl : e.platform.magicAccessors = ({} : Platform).magicAccessors := by rw [hadm.platform]
  refine g_catch (A := (fun p => A1 p ∨ p = o)) (rest := [.int (nI 0), .ref o]) (g_tv X gWS_good mw_Law_44 kc_Hall hb hM (fun V h1 h2 => hE.1.on (fun p hp => by rw [hH]) h1 h2) (gEs.blind b0 xq) rfl rfl hl.1 (Nat.le_of_ble_eq_true rfl) rfl rfl ⟨Nat.le_refl _, Nat.le_refl _⟩ ⟨show 0 + mc ≤ mc by omega, show 0 + ms ≤ ms by omega⟩ d_Law_drop_4) htab 15 (fun x S hp hW0 => ?_) (fun _ h => Or.inl h) (fun _ h => by cases h) (fun x H1 locs hp hL => ?_)
  · obtain ⟨⟨ce, hce, hcl, hvm⟩, _⟩ := hp
    have hob : ∀ k, ce.vm ≠ .statics k := fun k h9 => by rw [hvm] at h9; cases h9
    exact g_pass (S := S) X hpl hW0 rfl hce hob (by rw [hcl]; exact hE.kn 2 (by decide)) (show 0 ≤ 4 ∧ 4 < 9 by decide) (by decide) lk_Law_13 (by rw [hcl]; exact hE.no 2 0 (by decide) (by decide) (by decide)) (fun vm1 hW1 => g_hit (S := (S.setVm vm1)) X hpl hW1 rfl hce hob (by rw [hcl]; exact hE.cls 2 (by decide)) (by rw [hcl]; exact hE.kn 2 (by decide)) (show 0 ≤ 4 ∧ 4 < 9 by decide) (by decide) lk_Law_20)
  · refine g_astn X.1.1 X.1.2.1 hl 3 d_Law_drop_15 rfl (Nat.le_of_ble_eq_true rfl) rfl (fun ls hl => ?_)
    refine lv_iconst (v := nI 2) X.1.1 X.1.2.1 d_Law_drop_16 (by decide) ?_
    exact g_iret X B ⟨rfl, hp.2⟩ hL d_Law_drop_17 (by omega) (by omega)

set_option maxHeartbeats 4000000 in
set_option maxRecDepth 100000 in
theorem w_match (l : Launch) (D : va_G) (q : Nat → ClassId) (H : Heap) (b o : Nat) (fs : List Value) (hb : va_at D CL (b, .inr (9, fs)) H) (G : Nat → Int64) (ho : va_at D CL (o, .inl (q 2, 1, .inr (.inl G))) H) (a1 a2 : Int32) (f k mc ms : Nat) (A1 : Nat → Prop) (E : State → Prop) (hEb : gBlind E) (hst : ∀ U V : State, E U → U.heap = H → V.heap = H → U.WarmedH V.vm → E V) (Post : Option Value → Heap → Prop) (hPo : ∀ v H1, Post v H1 → ∃ z, v = some (.int z) ∧ H1[o]? = H[o]?) (hM : gC l y_Hall_match (Cond.code y_Hall_match b_Hall_match 6 (some .int) :: gWS) (gR f k mc ms) D CL (gY q) E [.ref b, .int a1, .int a2] H Post mc ms A1) : gC l y_Law_match (Cond.codeWith y_Law_match b_Law_match 5 (some .int) hh_Law_match :: gWS) (gR (f + 1) (8 + (6 + 11) + k) mc ms) D CL (gY q) E [.ref b, .int a1, .int a2, .ref o] H (fun r H2 => ∃ z H1, Post (some (.int z)) H1 ∧ r = some (.int (nI 0)) ∧ va_at D CL (o, .inl (q 2, 1, .inr (.inl (vp_updL G 0 z.toInt64)))) H2 ∧ H2.size = H1.size ∧ ∀ p : Nat, p ≠ o → H2[p]? = H1[p]?) mc ms (fun p => A1 p ∨ p = o) := by
  refine gC.ofWW R_Law "match" (by decide) rfl rfl ?_
  intro p e s m below meth c hadm X hE hH B htab
  refine g_entry [some (.ref b), some (.int a1), some (.int a2), some (.ref o), none] rfl rfl (Nat.le_of_ble_eq_true rfl) (fun ls hl => ?_)
  refine lv_aload_n X.1.1 X.1.2.1 d_Law_match_0 rfl (gl_at hl rfl) ?_
  refine lv_iconst (v := nI 0) X.1.1 X.1.2.1 d_Law_match_1 (by decide) ?_
  refine lv_aload_n X.1.1 X.1.2.1 d_Law_match_2 rfl (gl_at hl rfl) ?_
  refine lv_iload_n X.1.1 X.1.2.1 d_Law_match_3 rfl (gl_at hl rfl) ?_
  refine lv_iload_n X.1.1 X.1.2.1 d_Law_match_4 rfl (gl_at hl rfl) ?_
  refine g_cv (A := (fun p => A1 p ∨ p = o)) X gWS_good mw_Law_47 kc_Hall hb hM (fun U h1 h2 => hst s U hE hH h1 h2) hEb rfl rfl hl.1 (Nat.le_of_ble_eq_true rfl) rfl rfl ⟨Nat.le_refl _, Nat.le_refl _⟩ ⟨(show 0 + mc ≤ mc by omega), (show 0 + ms ≤ ms by omega)⟩ d_Law_match_5 (fun _ h => Or.inl h) (fun _ h => by cases h) (fun v1 H2 locs hp3 hL => ?_)
  obtain ⟨z, rfl, hko⟩ := hPo _ _ hp3
  replace ho := va_at.kept ho hko
  refine lv_i2l X.1.1 X.1.2.1 d_Law_match_8 rfl ?_
  refine g_last (A := (fun p => A1 p ∨ p = o)) X 2 ho rfl 0 (by decide) (by decide) d_Law_match_9 (Or.inr rfl) hL (fun H2 locs ho2 z2 o2 hL => ?_)
  refine lv_goto X.1.1 X.1.2.1 d_Law_match_10 rfl ?_
  refine lv_iconst (v := nI 0) X.1.1 X.1.2.1 d_Law_match_21 (by decide) ?_
  exact g_iret X B ⟨z, _, hp3, rfl, ho2, z2, o2⟩ hL d_Law_match_22 (by omega) (by omega)

set_option maxHeartbeats 4000000 in
set_option maxRecDepth 100000 in
theorem w_match_t0 (l : Launch) (D : va_G) (q : Nat → ClassId) (H : Heap) (b o : Nat) (fs : List Value) (hb : va_at D CL (b, .inr (9, fs)) H) (G : Nat → Int64) (ho : va_at D CL (o, .inl (q 2, 1, .inr (.inl G))) H) (a1 a2 : Int32) (f k mc ms : Nat) (A1 : Nat → Prop) (b0 : Nat) (xq : Nat → ClassId) (P : Heap → Prop) (hM : gT l y_Hall_match (Cond.code y_Hall_match b_Hall_match 6 (some .int) :: gWS) (gR f k mc ms) D CL (gY q) (fun U => gEs b0 xq U) [.ref b, .int a1, .int a2] H (fun x H1 => (∃ ce : Cell, H1[x]? = some ce ∧ ce.cls = xq 0 ∧ ce.vm = .none) ∧ P H1) mc ms A1) : gC l y_Law_match (Cond.codeWith y_Law_match b_Law_match 5 (some .int) hh_Law_match :: gWS) (gR (f + 1) (8 + (6 + 11) + k) mc ms) D CL (gY q) (fun U => gEn b0 xq U) [.ref b, .int a1, .int a2, .ref o] H (fun r H1 => r = some (.int (nI 1)) ∧ P H1) mc ms (fun p => A1 p ∨ p = o) := by
  refine gC.ofWW R_Law "match" (by decide) rfl rfl ?_
  intro p e s m below meth c hadm X hE hH B htab
  refine g_entry [some (.ref b), some (.int a1), some (.int a2), some (.ref o), none] rfl rfl (Nat.le_of_ble_eq_true rfl) (fun ls hl => ?_)
  refine lv_aload_n X.1.1 X.1.2.1 d_Law_match_0 rfl (gl_at hl rfl) ?_
  refine lv_iconst (v := nI 0) X.1.1 X.1.2.1 d_Law_match_1 (by decide) ?_
  refine lv_aload_n X.1.1 X.1.2.1 d_Law_match_2 rfl (gl_at hl rfl) ?_
  refine lv_iload_n X.1.1 X.1.2.1 d_Law_match_3 rfl (gl_at hl rfl) ?_
  refine lv_iload_n X.1.1 X.1.2.1 d_Law_match_4 rfl (gl_at hl rfl) ?_
  have hpl : e.platform.magicAccessors = ({} : Platform).magicAccessors := by rw [hadm.platform]
  refine g_catch (A := (fun p => A1 p ∨ p = o)) (rest := [.int (nI 0), .ref o]) (g_tv X gWS_good mw_Law_47 kc_Hall hb hM (fun V h1 h2 => hE.1.on (fun p hp => by rw [hH]) h1 h2) (gEs.blind b0 xq) rfl rfl hl.1 (Nat.le_of_ble_eq_true rfl) rfl rfl ⟨Nat.le_refl _, Nat.le_refl _⟩ ⟨show 0 + mc ≤ mc by omega, show 0 + ms ≤ ms by omega⟩ d_Law_match_5) htab 13 (fun x S hp hW0 => ?_) (fun _ h => Or.inl h) (fun _ h => by cases h) (fun x H1 locs hp hL => ?_)
  · obtain ⟨⟨ce, hce, hcl, hvm⟩, _⟩ := hp
    have hob : ∀ k, ce.vm ≠ .statics k := fun k h9 => by rw [hvm] at h9; cases h9
    exact g_hit (S := S) X hpl hW0 rfl hce hob (by rw [hcl]; exact hE.cls 0 (by decide)) (by rw [hcl]; exact hE.kn 0 (by decide)) (show 0 ≤ 5 ∧ 5 < 10 by decide) (by decide) lk_Law_13
  · refine g_ast X.1.1 X.1.2.1 hl 4 d_Law_match_13 (Nat.le_of_ble_eq_true rfl) rfl (fun ls hl => ?_)
    refine lv_iconst (v := nI 1) X.1.1 X.1.2.1 d_Law_match_15 (by decide) ?_
    exact g_iret X B ⟨rfl, hp.2⟩ hL d_Law_match_16 (by omega) (by omega)

set_option maxHeartbeats 4000000 in
set_option maxRecDepth 100000 in
theorem w_match_t1 (l : Launch) (D : va_G) (q : Nat → ClassId) (H : Heap) (b o : Nat) (fs : List Value) (hb : va_at D CL (b, .inr (9, fs)) H) (G : Nat → Int64) (ho : va_at D CL (o, .inl (q 2, 1, .inr (.inl G))) H) (a1 a2 : Int32) (f k mc ms : Nat) (A1 : Nat → Prop) (b0 : Nat) (xq : Nat → ClassId) (P : Heap → Prop) (hM : gT l y_Hall_match (Cond.code y_Hall_match b_Hall_match 6 (some .int) :: gWS) (gR f k mc ms) D CL (gY q) (fun U => gEs b0 xq U) [.ref b, .int a1, .int a2] H (fun x H1 => (∃ ce : Cell, H1[x]? = some ce ∧ ce.cls = xq 1 ∧ ce.vm = .none) ∧ P H1) mc ms A1) : gC l y_Law_match (Cond.codeWith y_Law_match b_Law_match 5 (some .int) hh_Law_match :: gWS) (gR (f + 1) (8 + (6 + 11) + k) mc ms) D CL (gY q) (fun U => gEn b0 xq U) [.ref b, .int a1, .int a2, .ref o] H (fun r H1 => r = some (.int (nI 2)) ∧ P H1) mc ms (fun p => A1 p ∨ p = o) := by
  refine gC.ofWW R_Law "match" (by decide) rfl rfl ?_
  intro p e s m below meth c hadm X hE hH B htab
  refine g_entry [some (.ref b), some (.int a1), some (.int a2), some (.ref o), none] rfl rfl (Nat.le_of_ble_eq_true rfl) (fun ls hl => ?_)
  refine lv_aload_n X.1.1 X.1.2.1 d_Law_match_0 rfl (gl_at hl rfl) ?_
  refine lv_iconst (v := nI 0) X.1.1 X.1.2.1 d_Law_match_1 (by decide) ?_
  refine lv_aload_n X.1.1 X.1.2.1 d_Law_match_2 rfl (gl_at hl rfl) ?_
  refine lv_iload_n X.1.1 X.1.2.1 d_Law_match_3 rfl (gl_at hl rfl) ?_
  refine lv_iload_n X.1.1 X.1.2.1 d_Law_match_4 rfl (gl_at hl rfl) ?_
  have hpl : e.platform.magicAccessors = ({} : Platform).magicAccessors := by rw [hadm.platform]
  refine g_catch (A := (fun p => A1 p ∨ p = o)) (rest := [.int (nI 0), .ref o]) (g_tv X gWS_good mw_Law_47 kc_Hall hb hM (fun V h1 h2 => hE.1.on (fun p hp => by rw [hH]) h1 h2) (gEs.blind b0 xq) rfl rfl hl.1 (Nat.le_of_ble_eq_true rfl) rfl rfl ⟨Nat.le_refl _, Nat.le_refl _⟩ ⟨show 0 + mc ≤ mc by omega, show 0 + ms ≤ ms by omega⟩ d_Law_match_5) htab 17 (fun x S hp hW0 => ?_) (fun _ h => Or.inl h) (fun _ h => by cases h) (fun x H1 locs hp hL => ?_)
  · obtain ⟨⟨ce, hce, hcl, hvm⟩, _⟩ := hp
    have hob : ∀ k, ce.vm ≠ .statics k := fun k h9 => by rw [hvm] at h9; cases h9
    exact g_pass (S := S) X hpl hW0 rfl hce hob (by rw [hcl]; exact hE.kn 1 (by decide)) (show 0 ≤ 5 ∧ 5 < 10 by decide) (by decide) lk_Law_13 (by rw [hcl]; exact hE.no 1 0 (by decide) (by decide) (by decide)) (fun vm1 hW1 => g_hit (S := (S.setVm vm1)) X hpl hW1 rfl hce hob (by rw [hcl]; exact hE.cls 1 (by decide)) (by rw [hcl]; exact hE.kn 1 (by decide)) (show 0 ≤ 5 ∧ 5 < 10 by decide) (by decide) lk_Law_18)
  · refine g_ast X.1.1 X.1.2.1 hl 4 d_Law_match_17 (Nat.le_of_ble_eq_true rfl) rfl (fun ls hl => ?_)
    refine lv_iconst (v := nI 2) X.1.1 X.1.2.1 d_Law_match_19 (by decide) ?_
    exact g_iret X B ⟨rfl, hp.2⟩ hL d_Law_match_20 (by omega) (by omega)

set_option maxHeartbeats 4000000 in
set_option maxRecDepth 100000 in
theorem w_edges (l : Launch) (D : va_G) (q : Nat → ClassId) (H : Heap) (b o : Nat) (fs : List Value) (hb : va_at D CL (b, .inr (9, fs)) H) (G : Nat → Int64) (ho : va_at D CL (o, .inl (q 2, 1, .inr (.inl G))) H) (a1 : Int32) (f k mc ms : Nat) (A1 : Nat → Prop) (E : State → Prop) (hEb : gBlind E) (hst : ∀ U V : State, E U → U.heap = H → V.heap = H → U.WarmedH V.vm → E V) (Post : Option Value → Heap → Prop) (hPo : ∀ v H1, Post v H1 → ∃ z, v = some (.int z) ∧ H1[o]? = H[o]?) (hM : gC l y_Hall_edges (Cond.code y_Hall_edges b_Hall_edges 4 (some .int) :: gWS) (gR f k mc ms) D CL (gY q) E [.ref b, .int a1] H Post mc ms A1) : gC l y_Law_edges (Cond.codeWith y_Law_edges b_Law_edges 4 (some .int) hh_Law_edges :: gWS) (gR (f + 1) (8 + (4 + 11) + k) mc ms) D CL (gY q) E [.ref b, .int a1, .ref o] H (fun r H2 => ∃ z H1, Post (some (.int z)) H1 ∧ r = some (.int (nI 0)) ∧ va_at D CL (o, .inl (q 2, 1, .inr (.inl (vp_updL G 0 z.toInt64)))) H2 ∧ H2.size = H1.size ∧ ∀ p : Nat, p ≠ o → H2[p]? = H1[p]?) mc ms (fun p => A1 p ∨ p = o) := by
  refine gC.ofWW R_Law "edges" (by decide) rfl rfl ?_
  intro p e s m below meth c hadm X hE hH B htab
  refine g_entry [some (.ref b), some (.int a1), some (.ref o), none] rfl rfl (Nat.le_of_ble_eq_true rfl) (fun ls hl => ?_)
  refine lv_aload_n X.1.1 X.1.2.1 d_Law_edges_0 rfl (gl_at hl rfl) ?_
  refine lv_iconst (v := nI 0) X.1.1 X.1.2.1 d_Law_edges_1 (by decide) ?_
  refine lv_aload_n X.1.1 X.1.2.1 d_Law_edges_2 rfl (gl_at hl rfl) ?_
  refine lv_iload_n X.1.1 X.1.2.1 d_Law_edges_3 rfl (gl_at hl rfl) ?_
  refine g_cv (A := (fun p => A1 p ∨ p = o)) X gWS_good mw_Law_50 kc_Hall hb hM (fun U h1 h2 => hst s U hE hH h1 h2) hEb rfl rfl hl.1 (Nat.le_of_ble_eq_true rfl) rfl rfl ⟨Nat.le_refl _, Nat.le_refl _⟩ ⟨(show 0 + mc ≤ mc by omega), (show 0 + ms ≤ ms by omega)⟩ d_Law_edges_4 (fun _ h => Or.inl h) (fun _ h => by cases h) (fun v1 H2 locs hp3 hL => ?_)
  obtain ⟨z, rfl, hko⟩ := hPo _ _ hp3
  replace ho := va_at.kept ho hko
  refine lv_i2l X.1.1 X.1.2.1 d_Law_edges_7 rfl ?_
  refine g_last (A := (fun p => A1 p ∨ p = o)) X 2 ho rfl 0 (by decide) (by decide) d_Law_edges_8 (Or.inr rfl) hL (fun H2 locs ho2 z2 o2 hL => ?_)
  refine lv_goto X.1.1 X.1.2.1 d_Law_edges_9 rfl ?_
  refine lv_iconst (v := nI 0) X.1.1 X.1.2.1 d_Law_edges_15 (by decide) ?_
  exact g_iret X B ⟨z, _, hp3, rfl, ho2, z2, o2⟩ hL d_Law_edges_16 (by omega) (by omega)

set_option maxHeartbeats 4000000 in
set_option maxRecDepth 100000 in
theorem w_edges_t0 (l : Launch) (D : va_G) (q : Nat → ClassId) (H : Heap) (b o : Nat) (fs : List Value) (hb : va_at D CL (b, .inr (9, fs)) H) (G : Nat → Int64) (ho : va_at D CL (o, .inl (q 2, 1, .inr (.inl G))) H) (a1 : Int32) (f k mc ms : Nat) (A1 : Nat → Prop) (b0 : Nat) (xq : Nat → ClassId) (P : Heap → Prop) (hM : gT l y_Hall_edges (Cond.code y_Hall_edges b_Hall_edges 4 (some .int) :: gWS) (gR f k mc ms) D CL (gY q) (fun U => gEs b0 xq U) [.ref b, .int a1] H (fun x H1 => (∃ ce : Cell, H1[x]? = some ce ∧ ce.cls = xq 0 ∧ ce.vm = .none) ∧ P H1) mc ms A1) : gC l y_Law_edges (Cond.codeWith y_Law_edges b_Law_edges 4 (some .int) hh_Law_edges :: gWS) (gR (f + 1) (8 + (4 + 11) + k) mc ms) D CL (gY q) (fun U => gEn b0 xq U) [.ref b, .int a1, .ref o] H (fun r H1 => r = some (.int (nI 1)) ∧ P H1) mc ms (fun p => A1 p ∨ p = o) := by
  refine gC.ofWW R_Law "edges" (by decide) rfl rfl ?_
  intro p e s m below meth c hadm X hE hH B htab
  refine g_entry [some (.ref b), some (.int a1), some (.ref o), none] rfl rfl (Nat.le_of_ble_eq_true rfl) (fun ls hl => ?_)
  refine lv_aload_n X.1.1 X.1.2.1 d_Law_edges_0 rfl (gl_at hl rfl) ?_
  refine lv_iconst (v := nI 0) X.1.1 X.1.2.1 d_Law_edges_1 (by decide) ?_
  refine lv_aload_n X.1.1 X.1.2.1 d_Law_edges_2 rfl (gl_at hl rfl) ?_
  refine lv_iload_n X.1.1 X.1.2.1 d_Law_edges_3 rfl (gl_at hl rfl) ?_
  have hpl : e.platform.magicAccessors = ({} : Platform).magicAccessors := by rw [hadm.platform]
  refine g_catch (A := (fun p => A1 p ∨ p = o)) (rest := [.int (nI 0), .ref o]) (g_tv X gWS_good mw_Law_50 kc_Hall hb hM (fun V h1 h2 => hE.1.on (fun p hp => by rw [hH]) h1 h2) (gEs.blind b0 xq) rfl rfl hl.1 (Nat.le_of_ble_eq_true rfl) rfl rfl ⟨Nat.le_refl _, Nat.le_refl _⟩ ⟨show 0 + mc ≤ mc by omega, show 0 + ms ≤ ms by omega⟩ d_Law_edges_4) htab 12 (fun x S hp hW0 => ?_) (fun _ h => Or.inl h) (fun _ h => by cases h) (fun x H1 locs hp hL => ?_)
  · obtain ⟨⟨ce, hce, hcl, hvm⟩, _⟩ := hp
    have hob : ∀ k, ce.vm ≠ .statics k := fun k h9 => by rw [hvm] at h9; cases h9
    exact g_hit (S := S) X hpl hW0 rfl hce hob (by rw [hcl]; exact hE.cls 0 (by decide)) (by rw [hcl]; exact hE.kn 0 (by decide)) (show 0 ≤ 4 ∧ 4 < 9 by decide) (by decide) lk_Law_13
  · refine g_astn X.1.1 X.1.2.1 hl 3 d_Law_edges_12 rfl (Nat.le_of_ble_eq_true rfl) rfl (fun ls hl => ?_)
    refine lv_iconst (v := nI 1) X.1.1 X.1.2.1 d_Law_edges_13 (by decide) ?_
    exact g_iret X B ⟨rfl, hp.2⟩ hL d_Law_edges_14 (by omega) (by omega)

set_option maxHeartbeats 4000000 in
set_option maxRecDepth 100000 in
theorem w_freeze (l : Launch) (D : va_G) (q : Nat → ClassId) (H : Heap) (b o : Nat) (fs : List Value) (hb : va_at D CL (b, .inr (9, fs)) H) (G : Nat → Int64) (ho : va_at D CL (o, .inl (q 2, 1, .inr (.inl G))) H) (a1 : Int32) (f k mc ms : Nat) (A1 : Nat → Prop) (E : State → Prop) (hEb : gBlind E) (hst : ∀ U V : State, E U → U.heap = H → V.heap = H → U.WarmedH V.vm → E V) (Post : Option Value → Heap → Prop) (hPo : ∀ v H1, Post v H1 → ∃ z, v = some (.int z) ∧ H1[o]? = H[o]?) (hM : gC l y_Hall_freeze (Cond.code y_Hall_freeze b_Hall_freeze 2 (some .int) :: gWS) (gR f k mc ms) D CL (gY q) E [.ref b, .int a1] H Post mc ms A1) : gC l y_Law_freeze (Cond.codeWith y_Law_freeze b_Law_freeze 4 (some .int) hh_Law_freeze :: gWS) (gR (f + 1) (8 + (2 + 11) + k) mc ms) D CL (gY q) E [.ref b, .int a1, .ref o] H (fun r H2 => ∃ z H1, Post (some (.int z)) H1 ∧ r = some (.int (nI 0)) ∧ va_at D CL (o, .inl (q 2, 1, .inr (.inl (vp_updL G 0 z.toInt64)))) H2 ∧ H2.size = H1.size ∧ ∀ p : Nat, p ≠ o → H2[p]? = H1[p]?) mc ms (fun p => A1 p ∨ p = o) := by
  refine gC.ofWW R_Law "freeze" (by decide) rfl rfl ?_
  intro p e s m below meth c hadm X hE hH B htab
  refine g_entry [some (.ref b), some (.int a1), some (.ref o), none] rfl rfl (Nat.le_of_ble_eq_true rfl) (fun ls hl => ?_)
  refine lv_aload_n X.1.1 X.1.2.1 d_Law_freeze_0 rfl (gl_at hl rfl) ?_
  refine lv_iconst (v := nI 0) X.1.1 X.1.2.1 d_Law_freeze_1 (by decide) ?_
  refine lv_aload_n X.1.1 X.1.2.1 d_Law_freeze_2 rfl (gl_at hl rfl) ?_
  refine lv_iload_n X.1.1 X.1.2.1 d_Law_freeze_3 rfl (gl_at hl rfl) ?_
  refine g_cv (A := (fun p => A1 p ∨ p = o)) X gWS_good mw_Law_53 kc_Hall hb hM (fun U h1 h2 => hst s U hE hH h1 h2) hEb rfl rfl hl.1 (Nat.le_of_ble_eq_true rfl) rfl rfl ⟨Nat.le_refl _, Nat.le_refl _⟩ ⟨(show 0 + mc ≤ mc by omega), (show 0 + ms ≤ ms by omega)⟩ d_Law_freeze_4 (fun _ h => Or.inl h) (fun _ h => by cases h) (fun v1 H2 locs hp3 hL => ?_)
  obtain ⟨z, rfl, hko⟩ := hPo _ _ hp3
  replace ho := va_at.kept ho hko
  refine lv_i2l X.1.1 X.1.2.1 d_Law_freeze_7 rfl ?_
  refine g_last (A := (fun p => A1 p ∨ p = o)) X 2 ho rfl 0 (by decide) (by decide) d_Law_freeze_8 (Or.inr rfl) hL (fun H2 locs ho2 z2 o2 hL => ?_)
  refine lv_goto X.1.1 X.1.2.1 d_Law_freeze_9 rfl ?_
  refine lv_iconst (v := nI 0) X.1.1 X.1.2.1 d_Law_freeze_15 (by decide) ?_
  exact g_iret X B ⟨z, _, hp3, rfl, ho2, z2, o2⟩ hL d_Law_freeze_16 (by omega) (by omega)

set_option maxHeartbeats 4000000 in
set_option maxRecDepth 100000 in
theorem w_freeze_t0 (l : Launch) (D : va_G) (q : Nat → ClassId) (H : Heap) (b o : Nat) (fs : List Value) (hb : va_at D CL (b, .inr (9, fs)) H) (G : Nat → Int64) (ho : va_at D CL (o, .inl (q 2, 1, .inr (.inl G))) H) (a1 : Int32) (f k mc ms : Nat) (A1 : Nat → Prop) (b0 : Nat) (xq : Nat → ClassId) (P : Heap → Prop) (hM : gT l y_Hall_freeze (Cond.code y_Hall_freeze b_Hall_freeze 2 (some .int) :: gWS) (gR f k mc ms) D CL (gY q) (fun U => gEs b0 xq U) [.ref b, .int a1] H (fun x H1 => (∃ ce : Cell, H1[x]? = some ce ∧ ce.cls = xq 0 ∧ ce.vm = .none) ∧ P H1) mc ms A1) : gC l y_Law_freeze (Cond.codeWith y_Law_freeze b_Law_freeze 4 (some .int) hh_Law_freeze :: gWS) (gR (f + 1) (8 + (2 + 11) + k) mc ms) D CL (gY q) (fun U => gEn b0 xq U) [.ref b, .int a1, .ref o] H (fun r H1 => r = some (.int (nI 1)) ∧ P H1) mc ms (fun p => A1 p ∨ p = o) := by
  refine gC.ofWW R_Law "freeze" (by decide) rfl rfl ?_
  intro p e s m below meth c hadm X hE hH B htab
  refine g_entry [some (.ref b), some (.int a1), some (.ref o), none] rfl rfl (Nat.le_of_ble_eq_true rfl) (fun ls hl => ?_)
  refine lv_aload_n X.1.1 X.1.2.1 d_Law_freeze_0 rfl (gl_at hl rfl) ?_
  refine lv_iconst (v := nI 0) X.1.1 X.1.2.1 d_Law_freeze_1 (by decide) ?_
  refine lv_aload_n X.1.1 X.1.2.1 d_Law_freeze_2 rfl (gl_at hl rfl) ?_
  refine lv_iload_n X.1.1 X.1.2.1 d_Law_freeze_3 rfl (gl_at hl rfl) ?_
  have hpl : e.platform.magicAccessors = ({} : Platform).magicAccessors := by rw [hadm.platform]
  refine g_catch (A := (fun p => A1 p ∨ p = o)) (rest := [.int (nI 0), .ref o]) (g_tv X gWS_good mw_Law_53 kc_Hall hb hM (fun V h1 h2 => hE.1.on (fun p hp => by rw [hH]) h1 h2) (gEs.blind b0 xq) rfl rfl hl.1 (Nat.le_of_ble_eq_true rfl) rfl rfl ⟨Nat.le_refl _, Nat.le_refl _⟩ ⟨show 0 + mc ≤ mc by omega, show 0 + ms ≤ ms by omega⟩ d_Law_freeze_4) htab 12 (fun x S hp hW0 => ?_) (fun _ h => Or.inl h) (fun _ h => by cases h) (fun x H1 locs hp hL => ?_)
  · obtain ⟨⟨ce, hce, hcl, hvm⟩, _⟩ := hp
    have hob : ∀ k, ce.vm ≠ .statics k := fun k h9 => by rw [hvm] at h9; cases h9
    exact g_hit (S := S) X hpl hW0 rfl hce hob (by rw [hcl]; exact hE.cls 0 (by decide)) (by rw [hcl]; exact hE.kn 0 (by decide)) (show 0 ≤ 4 ∧ 4 < 9 by decide) (by decide) lk_Law_13
  · refine g_astn X.1.1 X.1.2.1 hl 3 d_Law_freeze_12 rfl (Nat.le_of_ble_eq_true rfl) rfl (fun ls hl => ?_)
    refine lv_iconst (v := nI 1) X.1.1 X.1.2.1 d_Law_freeze_13 (by decide) ?_
    exact g_iret X B ⟨rfl, hp.2⟩ hL d_Law_freeze_14 (by omega) (by omega)

set_option maxHeartbeats 4000000 in
set_option maxRecDepth 100000 in
theorem w_insert (l : Launch) (D : va_G) (q : Nat → ClassId) (H : Heap) (b o : Nat) (fs : List Value) (hb : va_at D CL (b, .inr (9, fs)) H) (G : Nat → Int64) (ho : va_at D CL (o, .inl (q 2, 1, .inr (.inl G))) H) (a1 : Int32) (f k mc ms : Nat) (A1 : Nat → Prop) (E : State → Prop) (hEb : gBlind E) (hst : ∀ U V : State, E U → U.heap = H → V.heap = H → U.WarmedH V.vm → E V) (Post : Option Value → Heap → Prop) (hPo : ∀ v H1, Post v H1 → ∃ z, v = some (.int z) ∧ H1[o]? = H[o]?) (hM : gC l y_Hall_insert (Cond.code y_Hall_insert b_Hall_insert 2 (some .int) :: gWS) (gR f k mc ms) D CL (gY q) E [.ref b, .int a1] H Post mc ms A1) : gC l y_Law_insert (Cond.codeWith y_Law_insert b_Law_insert 4 (some .int) hh_Law_insert :: gWS) (gR (f + 1) (8 + (2 + 11) + k) mc ms) D CL (gY q) E [.ref b, .int a1, .ref o] H (fun r H2 => ∃ z H1, Post (some (.int z)) H1 ∧ r = some (.int (nI 0)) ∧ va_at D CL (o, .inl (q 2, 1, .inr (.inl (vp_updL G 0 z.toInt64)))) H2 ∧ H2.size = H1.size ∧ ∀ p : Nat, p ≠ o → H2[p]? = H1[p]?) mc ms (fun p => A1 p ∨ p = o) := by
  refine gC.ofWW R_Law "insert" (by decide) rfl rfl ?_
  intro p e s m below meth c hadm X hE hH B htab
  refine g_entry [some (.ref b), some (.int a1), some (.ref o), none] rfl rfl (Nat.le_of_ble_eq_true rfl) (fun ls hl => ?_)
  refine lv_aload_n X.1.1 X.1.2.1 d_Law_insert_0 rfl (gl_at hl rfl) ?_
  refine lv_iconst (v := nI 0) X.1.1 X.1.2.1 d_Law_insert_1 (by decide) ?_
  refine lv_aload_n X.1.1 X.1.2.1 d_Law_insert_2 rfl (gl_at hl rfl) ?_
  refine lv_iload_n X.1.1 X.1.2.1 d_Law_insert_3 rfl (gl_at hl rfl) ?_
  refine g_cv (A := (fun p => A1 p ∨ p = o)) X gWS_good mw_Law_56 kc_Hall hb hM (fun U h1 h2 => hst s U hE hH h1 h2) hEb rfl rfl hl.1 (Nat.le_of_ble_eq_true rfl) rfl rfl ⟨Nat.le_refl _, Nat.le_refl _⟩ ⟨(show 0 + mc ≤ mc by omega), (show 0 + ms ≤ ms by omega)⟩ d_Law_insert_4 (fun _ h => Or.inl h) (fun _ h => by cases h) (fun v1 H2 locs hp3 hL => ?_)
  obtain ⟨z, rfl, hko⟩ := hPo _ _ hp3
  replace ho := va_at.kept ho hko
  refine lv_i2l X.1.1 X.1.2.1 d_Law_insert_7 rfl ?_
  refine g_last (A := (fun p => A1 p ∨ p = o)) X 2 ho rfl 0 (by decide) (by decide) d_Law_insert_8 (Or.inr rfl) hL (fun H2 locs ho2 z2 o2 hL => ?_)
  refine lv_goto X.1.1 X.1.2.1 d_Law_insert_9 rfl ?_
  refine lv_iconst (v := nI 0) X.1.1 X.1.2.1 d_Law_insert_18 (by decide) ?_
  exact g_iret X B ⟨z, _, hp3, rfl, ho2, z2, o2⟩ hL d_Law_insert_19 (by omega) (by omega)

set_option maxHeartbeats 4000000 in
set_option maxRecDepth 100000 in
theorem w_insert_t0 (l : Launch) (D : va_G) (q : Nat → ClassId) (H : Heap) (b o : Nat) (fs : List Value) (hb : va_at D CL (b, .inr (9, fs)) H) (G : Nat → Int64) (ho : va_at D CL (o, .inl (q 2, 1, .inr (.inl G))) H) (a1 : Int32) (f k mc ms : Nat) (A1 : Nat → Prop) (b0 : Nat) (xq : Nat → ClassId) (P : Heap → Prop) (hM : gT l y_Hall_insert (Cond.code y_Hall_insert b_Hall_insert 2 (some .int) :: gWS) (gR f k mc ms) D CL (gY q) (fun U => gEs b0 xq U) [.ref b, .int a1] H (fun x H1 => (∃ ce : Cell, H1[x]? = some ce ∧ ce.cls = xq 0 ∧ ce.vm = .none) ∧ P H1) mc ms A1) : gC l y_Law_insert (Cond.codeWith y_Law_insert b_Law_insert 4 (some .int) hh_Law_insert :: gWS) (gR (f + 1) (8 + (2 + 11) + k) mc ms) D CL (gY q) (fun U => gEn b0 xq U) [.ref b, .int a1, .ref o] H (fun r H1 => r = some (.int (nI 1)) ∧ P H1) mc ms (fun p => A1 p ∨ p = o) := by
  refine gC.ofWW R_Law "insert" (by decide) rfl rfl ?_
  intro p e s m below meth c hadm X hE hH B htab
  refine g_entry [some (.ref b), some (.int a1), some (.ref o), none] rfl rfl (Nat.le_of_ble_eq_true rfl) (fun ls hl => ?_)
  refine lv_aload_n X.1.1 X.1.2.1 d_Law_insert_0 rfl (gl_at hl rfl) ?_
  refine lv_iconst (v := nI 0) X.1.1 X.1.2.1 d_Law_insert_1 (by decide) ?_
  refine lv_aload_n X.1.1 X.1.2.1 d_Law_insert_2 rfl (gl_at hl rfl) ?_
  refine lv_iload_n X.1.1 X.1.2.1 d_Law_insert_3 rfl (gl_at hl rfl) ?_
  have hpl : e.platform.magicAccessors = ({} : Platform).magicAccessors := by rw [hadm.platform]
  refine g_catch (A := (fun p => A1 p ∨ p = o)) (rest := [.int (nI 0), .ref o]) (g_tv X gWS_good mw_Law_56 kc_Hall hb hM (fun V h1 h2 => hE.1.on (fun p hp => by rw [hH]) h1 h2) (gEs.blind b0 xq) rfl rfl hl.1 (Nat.le_of_ble_eq_true rfl) rfl rfl ⟨Nat.le_refl _, Nat.le_refl _⟩ ⟨show 0 + mc ≤ mc by omega, show 0 + ms ≤ ms by omega⟩ d_Law_insert_4) htab 12 (fun x S hp hW0 => ?_) (fun _ h => Or.inl h) (fun _ h => by cases h) (fun x H1 locs hp hL => ?_)
  · obtain ⟨⟨ce, hce, hcl, hvm⟩, _⟩ := hp
    have hob : ∀ k, ce.vm ≠ .statics k := fun k h9 => by rw [hvm] at h9; cases h9
    exact g_hit (S := S) X hpl hW0 rfl hce hob (by rw [hcl]; exact hE.cls 0 (by decide)) (by rw [hcl]; exact hE.kn 0 (by decide)) (show 0 ≤ 4 ∧ 4 < 9 by decide) (by decide) lk_Law_13
  · refine g_astn X.1.1 X.1.2.1 hl 3 d_Law_insert_12 rfl (Nat.le_of_ble_eq_true rfl) rfl (fun ls hl => ?_)
    refine lv_iconst (v := nI 1) X.1.1 X.1.2.1 d_Law_insert_13 (by decide) ?_
    exact g_iret X B ⟨rfl, hp.2⟩ hL d_Law_insert_14 (by omega) (by omega)

set_option maxHeartbeats 4000000 in
set_option maxRecDepth 100000 in
theorem w_insert_t2 (l : Launch) (D : va_G) (q : Nat → ClassId) (H : Heap) (b o : Nat) (fs : List Value) (hb : va_at D CL (b, .inr (9, fs)) H) (G : Nat → Int64) (ho : va_at D CL (o, .inl (q 2, 1, .inr (.inl G))) H) (a1 : Int32) (f k mc ms : Nat) (A1 : Nat → Prop) (b0 : Nat) (xq : Nat → ClassId) (P : Heap → Prop) (hM : gT l y_Hall_insert (Cond.code y_Hall_insert b_Hall_insert 2 (some .int) :: gWS) (gR f k mc ms) D CL (gY q) (fun U => gEs b0 xq U) [.ref b, .int a1] H (fun x H1 => (∃ ce : Cell, H1[x]? = some ce ∧ ce.cls = xq 2 ∧ ce.vm = .none) ∧ P H1) mc ms A1) : gC l y_Law_insert (Cond.codeWith y_Law_insert b_Law_insert 4 (some .int) hh_Law_insert :: gWS) (gR (f + 1) (8 + (2 + 11) + k) mc ms) D CL (gY q) (fun U => gEn b0 xq U) [.ref b, .int a1, .ref o] H (fun r H1 => r = some (.int (nI 2)) ∧ P H1) mc ms (fun p => A1 p ∨ p = o) := by
  refine gC.ofWW R_Law "insert" (by decide) rfl rfl ?_
  intro p e s m below meth c hadm X hE hH B htab
  refine g_entry [some (.ref b), some (.int a1), some (.ref o), none] rfl rfl (Nat.le_of_ble_eq_true rfl) (fun ls hl => ?_)
  refine lv_aload_n X.1.1 X.1.2.1 d_Law_insert_0 rfl (gl_at hl rfl) ?_
  refine lv_iconst (v := nI 0) X.1.1 X.1.2.1 d_Law_insert_1 (by decide) ?_
  refine lv_aload_n X.1.1 X.1.2.1 d_Law_insert_2 rfl (gl_at hl rfl) ?_
  refine lv_iload_n X.1.1 X.1.2.1 d_Law_insert_3 rfl (gl_at hl rfl) ?_
  have hpl : e.platform.magicAccessors = ({} : Platform).magicAccessors := by rw [hadm.platform]
  refine g_catch (A := (fun p => A1 p ∨ p = o)) (rest := [.int (nI 0), .ref o]) (g_tv X gWS_good mw_Law_56 kc_Hall hb hM (fun V h1 h2 => hE.1.on (fun p hp => by rw [hH]) h1 h2) (gEs.blind b0 xq) rfl rfl hl.1 (Nat.le_of_ble_eq_true rfl) rfl rfl ⟨Nat.le_refl _, Nat.le_refl _⟩ ⟨show 0 + mc ≤ mc by omega, show 0 + ms ≤ ms by omega⟩ d_Law_insert_4) htab 15 (fun x S hp hW0 => ?_) (fun _ h => Or.inl h) (fun _ h => by cases h) (fun x H1 locs hp hL => ?_)
  · obtain ⟨⟨ce, hce, hcl, hvm⟩, _⟩ := hp
    have hob : ∀ k, ce.vm ≠ .statics k := fun k h9 => by rw [hvm] at h9; cases h9
    exact g_pass (S := S) X hpl hW0 rfl hce hob (by rw [hcl]; exact hE.kn 2 (by decide)) (show 0 ≤ 4 ∧ 4 < 9 by decide) (by decide) lk_Law_13 (by rw [hcl]; exact hE.no 2 0 (by decide) (by decide) (by decide)) (fun vm1 hW1 => g_hit (S := (S.setVm vm1)) X hpl hW1 rfl hce hob (by rw [hcl]; exact hE.cls 2 (by decide)) (by rw [hcl]; exact hE.kn 2 (by decide)) (show 0 ≤ 4 ∧ 4 < 9 by decide) (by decide) lk_Law_20)
  · refine g_astn X.1.1 X.1.2.1 hl 3 d_Law_insert_15 rfl (Nat.le_of_ble_eq_true rfl) rfl (fun ls hl => ?_)
    refine lv_iconst (v := nI 2) X.1.1 X.1.2.1 d_Law_insert_16 (by decide) ?_
    exact g_iret X B ⟨rfl, hp.2⟩ hL d_Law_insert_17 (by omega) (by omega)

set_option maxHeartbeats 4000000 in
set_option maxRecDepth 100000 in
theorem w_delete (l : Launch) (D : va_G) (q : Nat → ClassId) (H : Heap) (b o : Nat) (fs : List Value) (hb : va_at D CL (b, .inr (9, fs)) H) (G : Nat → Int64) (ho : va_at D CL (o, .inl (q 2, 1, .inr (.inl G))) H) (a1 a2 : Int32) (f k mc ms : Nat) (A1 : Nat → Prop) (E : State → Prop) (hEb : gBlind E) (hst : ∀ U V : State, E U → U.heap = H → V.heap = H → U.WarmedH V.vm → E V) (Post : Option Value → Heap → Prop) (hPo : ∀ v H1, Post v H1 → ∃ z, v = some (.int z) ∧ H1[o]? = H[o]?) (hM : gC l y_Hall_delete (Cond.code y_Hall_delete b_Hall_delete 3 (some .int) :: gWS) (gR f k mc ms) D CL (gY q) E [.ref b, .int a1, .int a2] H Post mc ms A1) : gC l y_Law_delete (Cond.codeWith y_Law_delete b_Law_delete 5 (some .int) hh_Law_delete :: gWS) (gR (f + 1) (8 + (3 + 11) + k) mc ms) D CL (gY q) E [.ref b, .int a1, .int a2, .ref o] H (fun r H2 => ∃ z H1, Post (some (.int z)) H1 ∧ r = some (.int (nI 0)) ∧ va_at D CL (o, .inl (q 2, 1, .inr (.inl (vp_updL G 0 z.toInt64)))) H2 ∧ H2.size = H1.size ∧ ∀ p : Nat, p ≠ o → H2[p]? = H1[p]?) mc ms (fun p => A1 p ∨ p = o) := by
  refine gC.ofWW R_Law "delete" (by decide) rfl rfl ?_
  intro p e s m below meth c hadm X hE hH B htab
  refine g_entry [some (.ref b), some (.int a1), some (.int a2), some (.ref o), none] rfl rfl (Nat.le_of_ble_eq_true rfl) (fun ls hl => ?_)
  refine lv_aload_n X.1.1 X.1.2.1 d_Law_delete_0 rfl (gl_at hl rfl) ?_
  refine lv_iconst (v := nI 0) X.1.1 X.1.2.1 d_Law_delete_1 (by decide) ?_
  refine lv_aload_n X.1.1 X.1.2.1 d_Law_delete_2 rfl (gl_at hl rfl) ?_
  refine lv_iload_n X.1.1 X.1.2.1 d_Law_delete_3 rfl (gl_at hl rfl) ?_
  refine lv_iload_n X.1.1 X.1.2.1 d_Law_delete_4 rfl (gl_at hl rfl) ?_
  refine g_cv (A := (fun p => A1 p ∨ p = o)) X gWS_good mw_Law_59 kc_Hall hb hM (fun U h1 h2 => hst s U hE hH h1 h2) hEb rfl rfl hl.1 (Nat.le_of_ble_eq_true rfl) rfl rfl ⟨Nat.le_refl _, Nat.le_refl _⟩ ⟨(show 0 + mc ≤ mc by omega), (show 0 + ms ≤ ms by omega)⟩ d_Law_delete_5 (fun _ h => Or.inl h) (fun _ h => by cases h) (fun v1 H2 locs hp3 hL => ?_)
  obtain ⟨z, rfl, hko⟩ := hPo _ _ hp3
  replace ho := va_at.kept ho hko
  refine lv_i2l X.1.1 X.1.2.1 d_Law_delete_8 rfl ?_
  refine g_last (A := (fun p => A1 p ∨ p = o)) X 2 ho rfl 0 (by decide) (by decide) d_Law_delete_9 (Or.inr rfl) hL (fun H2 locs ho2 z2 o2 hL => ?_)
  refine lv_goto X.1.1 X.1.2.1 d_Law_delete_10 rfl ?_
  refine lv_iconst (v := nI 0) X.1.1 X.1.2.1 d_Law_delete_17 (by decide) ?_
  exact g_iret X B ⟨z, _, hp3, rfl, ho2, z2, o2⟩ hL d_Law_delete_18 (by omega) (by omega)

set_option maxHeartbeats 4000000 in
set_option maxRecDepth 100000 in
theorem w_delete_t0 (l : Launch) (D : va_G) (q : Nat → ClassId) (H : Heap) (b o : Nat) (fs : List Value) (hb : va_at D CL (b, .inr (9, fs)) H) (G : Nat → Int64) (ho : va_at D CL (o, .inl (q 2, 1, .inr (.inl G))) H) (a1 a2 : Int32) (f k mc ms : Nat) (A1 : Nat → Prop) (b0 : Nat) (xq : Nat → ClassId) (P : Heap → Prop) (hM : gT l y_Hall_delete (Cond.code y_Hall_delete b_Hall_delete 3 (some .int) :: gWS) (gR f k mc ms) D CL (gY q) (fun U => gEs b0 xq U) [.ref b, .int a1, .int a2] H (fun x H1 => (∃ ce : Cell, H1[x]? = some ce ∧ ce.cls = xq 0 ∧ ce.vm = .none) ∧ P H1) mc ms A1) : gC l y_Law_delete (Cond.codeWith y_Law_delete b_Law_delete 5 (some .int) hh_Law_delete :: gWS) (gR (f + 1) (8 + (3 + 11) + k) mc ms) D CL (gY q) (fun U => gEn b0 xq U) [.ref b, .int a1, .int a2, .ref o] H (fun r H1 => r = some (.int (nI 1)) ∧ P H1) mc ms (fun p => A1 p ∨ p = o) := by
  refine gC.ofWW R_Law "delete" (by decide) rfl rfl ?_
  intro p e s m below meth c hadm X hE hH B htab
  refine g_entry [some (.ref b), some (.int a1), some (.int a2), some (.ref o), none] rfl rfl (Nat.le_of_ble_eq_true rfl) (fun ls hl => ?_)
  refine lv_aload_n X.1.1 X.1.2.1 d_Law_delete_0 rfl (gl_at hl rfl) ?_
  refine lv_iconst (v := nI 0) X.1.1 X.1.2.1 d_Law_delete_1 (by decide) ?_
  refine lv_aload_n X.1.1 X.1.2.1 d_Law_delete_2 rfl (gl_at hl rfl) ?_
  refine lv_iload_n X.1.1 X.1.2.1 d_Law_delete_3 rfl (gl_at hl rfl) ?_
  refine lv_iload_n X.1.1 X.1.2.1 d_Law_delete_4 rfl (gl_at hl rfl) ?_
  have hpl : e.platform.magicAccessors = ({} : Platform).magicAccessors := by rw [hadm.platform]
  refine g_catch (A := (fun p => A1 p ∨ p = o)) (rest := [.int (nI 0), .ref o]) (g_tv X gWS_good mw_Law_59 kc_Hall hb hM (fun V h1 h2 => hE.1.on (fun p hp => by rw [hH]) h1 h2) (gEs.blind b0 xq) rfl rfl hl.1 (Nat.le_of_ble_eq_true rfl) rfl rfl ⟨Nat.le_refl _, Nat.le_refl _⟩ ⟨show 0 + mc ≤ mc by omega, show 0 + ms ≤ ms by omega⟩ d_Law_delete_5) htab 13 (fun x S hp hW0 => ?_) (fun _ h => Or.inl h) (fun _ h => by cases h) (fun x H1 locs hp hL => ?_)
  · obtain ⟨⟨ce, hce, hcl, hvm⟩, _⟩ := hp
    have hob : ∀ k, ce.vm ≠ .statics k := fun k h9 => by rw [hvm] at h9; cases h9
    exact g_hit (S := S) X hpl hW0 rfl hce hob (by rw [hcl]; exact hE.cls 0 (by decide)) (by rw [hcl]; exact hE.kn 0 (by decide)) (show 0 ≤ 5 ∧ 5 < 10 by decide) (by decide) lk_Law_13
  · refine g_ast X.1.1 X.1.2.1 hl 4 d_Law_delete_13 (Nat.le_of_ble_eq_true rfl) rfl (fun ls hl => ?_)
    refine lv_iconst (v := nI 1) X.1.1 X.1.2.1 d_Law_delete_15 (by decide) ?_
    exact g_iret X B ⟨rfl, hp.2⟩ hL d_Law_delete_16 (by omega) (by omega)
