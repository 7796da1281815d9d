/-! the law's cases: printed by wip/specs/lawc.py -/
section LC
variable {p : Program} {l : Launch} {e : Env} {R : Room} {s : State} {m : MethodId} {args : Array Value} {below : List Frame} {meth : Method} {c : Code} {H : Heap} {locs : List Loc} {cells slots : Nat} {Q : State → Prop} {cc : ByteArray} {pc : Nat} {ls : Array Slot} {rest : List Value}
theorem g_lcmp0 (hexec : p.tables.exec = Jvm.exec) (hb : c.code = cc) {x : Int64} (hdg : decode cc pc = .ok (.lcmp, 1))
    (k : W p l e R s m args below meth c H locs cells slots Q (F0 m (pc + 1) ls (.int (nI 0) :: rest))) : W p l e R s m args below meth c H locs cells slots Q (F0 m pc ls (.long x :: .long x :: rest)) := by
  intro T hT X
  obtain ⟨t, a, b⟩ := k T hT X
  refine ⟨t, ?_, b⟩
  jvm_step X.here [X.here.top, hexec, hb, hdg]
  exact a
theorem g_sld {nL : Nat} {own : String} {Ts : List Cond} {D : va_G} {cl : List vw_C} {tys : List (ClassId × FieldType)} (X : gX p m c cc nL s args own Ts D cl tys) {sc L : Nat} {xs : Nat → Int32} (hX : va_X sc L xs s s.heap) (hsc : H[sc]? = s.heap[sc]?) (i : Nat) (hi : i < L) (hL : L < 2 ^ 31) (hdg : decode cc pc = .ok (.iaload, 1))
    (kk : W p l e R s m args below meth c H locs cells slots Q (F0 m (pc + 1) ls (.int (xs i) :: rest))) : W p l e R s m args below meth c H locs cells slots Q (F0 m pc ls (.int (nI i) :: .ref sc :: rest)) := by
  obtain ⟨scr, h1, h2, h3, h4, h5⟩ := hX
  have hc : (nI i).toNatClampNeg = i := nI_clamp (by omega)
  exact W.iald (v := .int (xs i)) X.1.1 X.1.2.1 (by rw [hsc]; exact h1) h2 h3 (by rw [h4]; exact vp_in_nI hi hL) (by rw [hc]; exact h5 i hi) rfl rfl hdg kk
theorem g_slen {nL : Nat} {own : String} {Ts : List Cond} {D : va_G} {cl : List vw_C} {tys : List (ClassId × FieldType)} (X : gX p m c cc nL s args own Ts D cl tys) {sc L : Nat} {xs : Nat → Int32} (hX : va_X sc L xs s s.heap) (hsc : H[sc]? = s.heap[sc]?) (hdg : decode cc pc = .ok (.arraylength, 1))
    (kk : W p l e R s m args below meth c H locs cells slots Q (F0 m (pc + 1) ls (.int (nI L) :: rest))) : W p l e R s m args below meth c H locs cells slots Q (F0 m pc ls (.ref sc :: rest)) := by
  obtain ⟨scr, h1, h2, h3, h4, h5⟩ := hX
  exact W.alen (n := nI L) X.1.1 X.1.2.1 (by rw [hsc]; exact h1) h2 (by rw [h4] <;> rfl) rfl rfl hdg kk
end LC
theorem lE.blind (b z1 z2 : Nat) (F1 F2 : Nat → Int32) (xq : Nat → ClassId) : gBlind (lE b z1 z2 F1 F2 xq) := fun U g mk a h => ⟨h.1, va_Nw.same rfl rfl h.2.1, h.2.2⟩
theorem lJ.hall {D : va_G} {q : Nat → ClassId} {b z1 z2 : Nat} {F1 F2 : Nat → Int32} {T : Nat} {x : Int32} {H : Heap} (h : lJ D q b z1 z2 F1 F2 T x H) : ∃ fs, va_at D CL (b, .inr (9, fs)) H := by
  obtain ⟨c0, ad, org, srt, bt, tn, mp, wk, n, ks, vs, chg, tp, ud, tl, an, aks, aus, xs, us, so, w, ar, G, hQ, _⟩ := h
  exact ⟨_, hQ.1.1⟩
theorem lJ.thrown {D : va_G} {q : Nat → ClassId} {b z1 z2 : Nat} {F1 F2 : Nat → Int32} {T : Nat} {x : Int32} {H : Heap} (h : lJ D q b z1 z2 F1 F2 T x H) (l : Launch) : (∃ fs, va_at D CL (b + 559, .inr (10, fs)) H) ∧ gC l y_Model_thrown (Cond.code y_Model_thrown b_Model_thrown 1 (some .int) :: gWS) (gR 0 0 0 0) D CL (gY q) (fun _ => True) [.ref (b + 559)] H (fun v1 H1 => v1 = some (.int x) ∧ H1 = H) 0 0 (fun _ => False) := by
  obtain ⟨c0, ad, org, srt, bt, tn, mp, wk, n, ks, vs, chg, tp, ud, tl, an, aks, aus, xs, us, so, w, ar, G, hQ, hx, _⟩ := h
  refine ⟨⟨_, hQ.2.1.1⟩, ?_⟩
  rw [← hx]
  exact c_Model_thrown l D q H (b + 559) w ar hQ.2.1

set_option maxHeartbeats 4000000 in
set_option maxRecDepth 100000 in
theorem lc_view (l : Launch) (D : va_G) (q : Nat → ClassId) (b z1 z2 : Nat) (F1 F2 : Nat → Int32) {p : Program} {e : Env} {s : State} {m : MethodId} {below : List Frame} {meth : Method} {c : Code} (sc L : Nat) (xs : Nat → Int32) (X : gX p m c code 7 s ([.ref sc] : List Value).toArray R_Law gWS D CL (gY q)) (htr : ∀ e, l.admits e → e.platform.stackTraces = false) (xq : Nat → ClassId) (hE : ∀ U : State, (∀ p : Nat, p < b → U.heap[p]? = s.heap[p]?) → s.WarmedH U.vm → lE b z1 z2 F1 F2 xq U) (hFn : ∀ j, j ≤ 4 → F1 j = nI (fanL j) ∧ F2 j = nI (fanM j)) (hX0 : va_X sc L xs s s.heap) (hLen : L ≤ 2048) (hscb : sc < b) (Q : State → Prop) (i T : Nat) (hi : i + 4 ≤ L) (hTb : T < 1048576) (x0 : Int32) (H : Heap) (hJ : lJ D q b z1 z2 F1 F2 T x0 H) (hsc : H[sc]? = s.heap[sc]?) (hfr : ∀ p : Nat, p < b → H[p]? = s.heap[p]?) (ls : Array Slot) (locs : List Loc) (cells slots : Nat) (hcs : cells + 5 ≤ 601024 ∧ slots + 22 ≤ 7293034) (hL : ∀ x ∈ locs, (fun p => b ≤ p) x.base) (hl : gl ls [some (.ref sc), some (.ref b), some (.ref (b + 559)), some (.ref (b + 588)), some (.int (nI i)), none, none]) (kont : ∀ (x1 : Int32) (H1 : Heap) (locs1 : List Loc) (ls1 : Array Slot), lJ D q b z1 z2 F1 F2 (T + 1) x1 H1 → H1[sc]? = s.heap[sc]? → (∀ p : Nat, p < b → H1[p]? = s.heap[p]?) → (∀ x ∈ locs1, (fun p => b ≤ p) x.base) → gl ls1 [some (.ref sc), some (.ref b), some (.ref (b + 559)), some (.ref (b + 588)), some (.int (nI i)), none, none] → W p l e room_1 s m ([.ref sc] : List Value).toArray below meth c H1 locs1 (cells + 5) (slots + 22) Q (F0 m 1297 ls1 [])) : W p l e room_1 s m ([.ref sc] : List Value).toArray below meth c H locs cells slots Q (F0 m 213 ls []) := by
  refine lv_aload_n X.1.1 X.1.2.1 d_Law_law_213 rfl (gl_at hl rfl) ?_
  refine lv_aload_n X.1.1 X.1.2.1 d_Law_law_214 rfl (gl_at hl rfl) ?_
  refine lv_iload X.1.1 X.1.2.1 d_Law_law_215 (gl_at hl rfl) ?_
  refine lv_iconst (v := nI 1) X.1.1 X.1.2.1 d_Law_law_217 (by decide) ?_
  refine lv_iadd X.1.1 X.1.2.1 d_Law_law_218 ?_
  refine g_top (nI (i + 1)) (nI_add _ _) ?_
  refine g_sld X hX0 hsc (i + 1) (by omega) (by omega) d_Law_law_219 ?_
  refine lv_aload_n X.1.1 X.1.2.1 d_Law_law_220 rfl (gl_at hl rfl) ?_
  refine lv_iload X.1.1 X.1.2.1 d_Law_law_221 (gl_at hl rfl) ?_
  refine lv_iconst (v := nI 2) X.1.1 X.1.2.1 d_Law_law_223 (by decide) ?_
  refine lv_iadd X.1.1 X.1.2.1 d_Law_law_224 ?_
  refine g_top (nI (i + 2)) (nI_add _ _) ?_
  refine g_sld X hX0 hsc (i + 2) (by omega) (by omega) d_Law_law_225 ?_
  refine lv_aload_n X.1.1 X.1.2.1 d_Law_law_226 rfl (gl_at hl rfl) ?_
  refine g_csW (A := (fun p => b ≤ p)) X gWS_good mw_Law_73 (l_view l D q b z1 z2 F1 F2 T x0 H hJ htr xq (xs (i + 1)) (xs (i + 2))) (fun U h1 h2 => hE U (fun p hp => by rw [h1]; exact hfr p hp) h2) (lE.blind b z1 z2 F1 F2 xq) rfl rfl hl.1 (Nat.le_of_ble_eq_true rfl) rfl rfl ⟨by decide, by decide⟩ ⟨hcs.1, hcs.2⟩ d_Law_law_227 (fun _ h => h) hL (fun v1 H1 locs hp1 hL => ?_)
  obtain ⟨k, G1, hk3, rfl, ho1, hz1, fb1, ⟨fd1, hd1⟩, hM1⟩ := hp1
  replace hsc := (fb1 _ hscb).trans hsc
  refine g_ist X.1.1 X.1.2.1 hl 5 d_Law_law_230 (Nat.le_of_ble_eq_true rfl) rfl (fun ls hl => ?_)
  refine lv_aload_n X.1.1 X.1.2.1 d_Law_law_232 rfl (gl_at hl rfl) ?_
  refine lv_aload_n X.1.1 X.1.2.1 d_Law_law_233 rfl (gl_at hl rfl) ?_
  refine lv_iload X.1.1 X.1.2.1 d_Law_law_234 (gl_at hl rfl) ?_
  refine lv_iconst (v := nI 1) X.1.1 X.1.2.1 d_Law_law_236 (by decide) ?_
  refine lv_iadd X.1.1 X.1.2.1 d_Law_law_237 ?_
  refine g_top (nI (i + 1)) (nI_add _ _) ?_
  refine g_sld X hX0 hsc (i + 1) (by omega) (by omega) d_Law_law_238 ?_
  refine lv_aload_n X.1.1 X.1.2.1 d_Law_law_239 rfl (gl_at hl rfl) ?_
  refine lv_iload X.1.1 X.1.2.1 d_Law_law_240 (gl_at hl rfl) ?_
  refine lv_iconst (v := nI 2) X.1.1 X.1.2.1 d_Law_law_242 (by decide) ?_
  refine lv_iadd X.1.1 X.1.2.1 d_Law_law_243 ?_
  refine g_top (nI (i + 2)) (nI_add _ _) ?_
  refine g_sld X hX0 hsc (i + 2) (by omega) (by omega) d_Law_law_244 ?_
  refine g_cv (A := (fun p => b ≤ p)) X gWS_good mw_Law_78 kc_Model hd1 hM1 (fun _ _ _ => trivial) gBlind.tt rfl rfl hl.1 (Nat.le_of_ble_eq_true rfl) rfl rfl ⟨by decide, by decide⟩ ⟨hcs.1, hcs.2⟩ d_Law_law_245 (fun _ h => h) hL (fun v2 H2 locs hp2 hL => ?_)
  obtain ⟨z, rfl, hz, ho2, hJ2, hz2, fb2⟩ := hp2
  replace ho1 := va_at.kept ho1 ho2
  replace hsc := (fb2 _ hscb).trans hsc
  have hfr2 : ∀ p : Nat, p < b → H2[p]? = s.heap[p]? := fun p hp => (fb2 p hp).trans ((fb1 p hp).trans (hfr p hp))
  refine g_ist X.1.1 X.1.2.1 hl 6 d_Law_law_248 (Nat.le_of_ble_eq_true rfl) rfl (fun ls hl => ?_)
  refine lv_aload_n X.1.1 X.1.2.1 d_Law_law_250 rfl (gl_at hl rfl) ?_
  obtain ⟨⟨fd2, hd2⟩, hM2⟩ := hJ2.thrown l
  refine g_cv (A := (fun p => b ≤ p)) X gWS_good mw_Law_79 kc_Model hd2 hM2 (fun _ _ _ => trivial) gBlind.tt rfl rfl hl.1 (Nat.le_of_ble_eq_true rfl) rfl rfl ⟨by decide, by decide⟩ ⟨hcs.1, hcs.2⟩ d_Law_law_251 (fun _ h => h.elim) hL (fun v3 H3 locs hp3 hL => ?_)
  obtain ⟨rfl, rfl⟩ := hp3
  refine lv_iload X.1.1 X.1.2.1 d_Law_law_254 (gl_at hl rfl) ?_
  refine gn_eq X.1.1 X.1.2.1 k k (by omega) (by omega) d_Law_law_256 rfl (fun hc256 => ?_) (fun hc256 => ?_)
  · refine lv_iload X.1.1 X.1.2.1 d_Law_law_261 (gl_at hl rfl) ?_
    refine gn_ne0 X.1.1 X.1.2.1 k (by omega) d_Law_law_263 rfl (fun hc263 => ?_) (fun hc263 => ?_)
    · refine lv_goto X.1.1 X.1.2.1 d_Law_law_278 rfl ?_
      exact kont _ _ _ _ hJ2 hsc hfr2 hL (gl_forget (gl_forget hl 5) 6)
    · refine lv_aload_n X.1.1 X.1.2.1 d_Law_law_266 rfl (gl_at hl rfl) ?_
      refine lv_iconst (v := nI 0) X.1.1 X.1.2.1 d_Law_law_267 (by decide) ?_
      refine g_lald X 2 ho1 rfl 0 (by decide) (by decide) d_Law_law_268 ?_
      refine lv_iload X.1.1 X.1.2.1 d_Law_law_269 (gl_at hl rfl) ?_
      refine lv_i2l X.1.1 X.1.2.1 d_Law_law_271 rfl ?_
      rw [hz (by omega)]
      refine g_lcmp0 X.1.1 X.1.2.1 d_Law_law_272 ?_
      refine gn_eq0 X.1.1 X.1.2.1 0 (by omega) d_Law_law_273 rfl (fun hc273 => ?_) (fun hc273 => ?_)
      · refine lv_goto X.1.1 X.1.2.1 d_Law_law_278 rfl ?_
        exact kont _ _ _ _ hJ2 hsc hfr2 hL (gl_forget (gl_forget hl 5) 6)
      · omega
  · omega

set_option maxHeartbeats 4000000 in
set_option maxRecDepth 100000 in
theorem lc_put (l : Launch) (D : va_G) (q : Nat → ClassId) (b z1 z2 : Nat) (F1 F2 : Nat → Int32) {p : Program} {e : Env} {s : State} {m : MethodId} {below : List Frame} {meth : Method} {c : Code} (sc L : Nat) (xs : Nat → Int32) (X : gX p m c code 7 s ([.ref sc] : List Value).toArray R_Law gWS D CL (gY q)) (htr : ∀ e, l.admits e → e.platform.stackTraces = false) (xq : Nat → ClassId) (hE : ∀ U : State, (∀ p : Nat, p < b → U.heap[p]? = s.heap[p]?) → s.WarmedH U.vm → lE b z1 z2 F1 F2 xq U) (hFn : ∀ j, j ≤ 4 → F1 j = nI (fanL j) ∧ F2 j = nI (fanM j)) (hX0 : va_X sc L xs s s.heap) (hLen : L ≤ 2048) (hscb : sc < b) (Q : State → Prop) (i T : Nat) (hi : i + 4 ≤ L) (hTb : T < 1048576) (x0 : Int32) (H : Heap) (hJ : lJ D q b z1 z2 F1 F2 T x0 H) (hsc : H[sc]? = s.heap[sc]?) (hfr : ∀ p : Nat, p < b → H[p]? = s.heap[p]?) (ls : Array Slot) (locs : List Loc) (cells slots : Nat) (hcs : cells + 5 ≤ 601024 ∧ slots + 22 ≤ 7293034) (hL : ∀ x ∈ locs, (fun p => b ≤ p) x.base) (hl : gl ls [some (.ref sc), some (.ref b), some (.ref (b + 559)), some (.ref (b + 588)), some (.int (nI i)), none, none]) (kont : ∀ (x1 : Int32) (H1 : Heap) (locs1 : List Loc) (ls1 : Array Slot), lJ D q b z1 z2 F1 F2 (T + 1) x1 H1 → H1[sc]? = s.heap[sc]? → (∀ p : Nat, p < b → H1[p]? = s.heap[p]?) → (∀ x ∈ locs1, (fun p => b ≤ p) x.base) → gl ls1 [some (.ref sc), some (.ref b), some (.ref (b + 559)), some (.ref (b + 588)), some (.int (nI i)), none, none] → W p l e room_1 s m ([.ref sc] : List Value).toArray below meth c H1 locs1 (cells + 5) (slots + 22) Q (F0 m 1297 ls1 [])) : W p l e room_1 s m ([.ref sc] : List Value).toArray below meth c H locs cells slots Q (F0 m 281 ls []) := by
  refine lv_aload_n X.1.1 X.1.2.1 d_Law_law_281 rfl (gl_at hl rfl) ?_
  refine lv_aload_n X.1.1 X.1.2.1 d_Law_law_282 rfl (gl_at hl rfl) ?_
  refine lv_iload X.1.1 X.1.2.1 d_Law_law_283 (gl_at hl rfl) ?_
  refine lv_iconst (v := nI 1) X.1.1 X.1.2.1 d_Law_law_285 (by decide) ?_
  refine lv_iadd X.1.1 X.1.2.1 d_Law_law_286 ?_
  refine g_top (nI (i + 1)) (nI_add _ _) ?_
  refine g_sld X hX0 hsc (i + 1) (by omega) (by omega) d_Law_law_287 ?_
  refine lv_aload_n X.1.1 X.1.2.1 d_Law_law_288 rfl (gl_at hl rfl) ?_
  refine lv_iload X.1.1 X.1.2.1 d_Law_law_289 (gl_at hl rfl) ?_
  refine lv_iconst (v := nI 2) X.1.1 X.1.2.1 d_Law_law_291 (by decide) ?_
  refine lv_iadd X.1.1 X.1.2.1 d_Law_law_292 ?_
  refine g_top (nI (i + 2)) (nI_add _ _) ?_
  refine g_sld X hX0 hsc (i + 2) (by omega) (by omega) d_Law_law_293 ?_
  refine lv_aload_n X.1.1 X.1.2.1 d_Law_law_294 rfl (gl_at hl rfl) ?_
  refine g_csW (A := (fun p => b ≤ p)) X gWS_good mw_Law_83 (l_put l D q b z1 z2 F1 F2 T x0 H hJ htr xq (xs (i + 1)) (xs (i + 2))) (fun U h1 h2 => hE U (fun p hp => by rw [h1]; exact hfr p hp) h2) (lE.blind b z1 z2 F1 F2 xq) rfl rfl hl.1 (Nat.le_of_ble_eq_true rfl) rfl rfl ⟨by decide, by decide⟩ ⟨hcs.1, hcs.2⟩ d_Law_law_295 (fun _ h => h) hL (fun v1 H1 locs hp1 hL => ?_)
  obtain ⟨k, G1, hk3, rfl, ho1, hz1, fb1, ⟨fd1, hd1⟩, hM1⟩ := hp1
  replace hsc := (fb1 _ hscb).trans hsc
  refine g_ist X.1.1 X.1.2.1 hl 5 d_Law_law_298 (Nat.le_of_ble_eq_true rfl) rfl (fun ls hl => ?_)
  refine lv_aload_n X.1.1 X.1.2.1 d_Law_law_300 rfl (gl_at hl rfl) ?_
  refine lv_aload_n X.1.1 X.1.2.1 d_Law_law_301 rfl (gl_at hl rfl) ?_
  refine lv_iload X.1.1 X.1.2.1 d_Law_law_302 (gl_at hl rfl) ?_
  refine lv_iconst (v := nI 1) X.1.1 X.1.2.1 d_Law_law_304 (by decide) ?_
  refine lv_iadd X.1.1 X.1.2.1 d_Law_law_305 ?_
  refine g_top (nI (i + 1)) (nI_add _ _) ?_
  refine g_sld X hX0 hsc (i + 1) (by omega) (by omega) d_Law_law_306 ?_
  refine lv_aload_n X.1.1 X.1.2.1 d_Law_law_307 rfl (gl_at hl rfl) ?_
  refine lv_iload X.1.1 X.1.2.1 d_Law_law_308 (gl_at hl rfl) ?_
  refine lv_iconst (v := nI 2) X.1.1 X.1.2.1 d_Law_law_310 (by decide) ?_
  refine lv_iadd X.1.1 X.1.2.1 d_Law_law_311 ?_
  refine g_top (nI (i + 2)) (nI_add _ _) ?_
  refine g_sld X hX0 hsc (i + 2) (by omega) (by omega) d_Law_law_312 ?_
  refine g_cv (A := (fun p => b ≤ p)) X gWS_good mw_Law_85 kc_Model hd1 hM1 (fun _ _ _ => trivial) gBlind.tt rfl rfl hl.1 (Nat.le_of_ble_eq_true rfl) rfl rfl ⟨by decide, by decide⟩ ⟨hcs.1, hcs.2⟩ d_Law_law_313 (fun _ h => h) hL (fun v2 H2 locs hp2 hL => ?_)
  obtain ⟨z, rfl, hz, ho2, hJ2, hz2, fb2⟩ := hp2
  replace ho1 := va_at.kept ho1 ho2
  replace hsc := (fb2 _ hscb).trans hsc
  have hfr2 : ∀ p : Nat, p < b → H2[p]? = s.heap[p]? := fun p hp => (fb2 p hp).trans ((fb1 p hp).trans (hfr p hp))
  refine g_ist X.1.1 X.1.2.1 hl 6 d_Law_law_316 (Nat.le_of_ble_eq_true rfl) rfl (fun ls hl => ?_)
  refine lv_aload_n X.1.1 X.1.2.1 d_Law_law_318 rfl (gl_at hl rfl) ?_
  obtain ⟨⟨fd2, hd2⟩, hM2⟩ := hJ2.thrown l
  refine g_cv (A := (fun p => b ≤ p)) X gWS_good mw_Law_79 kc_Model hd2 hM2 (fun _ _ _ => trivial) gBlind.tt rfl rfl hl.1 (Nat.le_of_ble_eq_true rfl) rfl rfl ⟨by decide, by decide⟩ ⟨hcs.1, hcs.2⟩ d_Law_law_319 (fun _ h => h.elim) hL (fun v3 H3 locs hp3 hL => ?_)
  obtain ⟨rfl, rfl⟩ := hp3
  refine lv_iload X.1.1 X.1.2.1 d_Law_law_322 (gl_at hl rfl) ?_
  refine gn_eq X.1.1 X.1.2.1 k k (by omega) (by omega) d_Law_law_324 rfl (fun hc324 => ?_) (fun hc324 => ?_)
  · refine lv_iload X.1.1 X.1.2.1 d_Law_law_329 (gl_at hl rfl) ?_
    refine gn_ne0 X.1.1 X.1.2.1 k (by omega) d_Law_law_331 rfl (fun hc331 => ?_) (fun hc331 => ?_)
    · refine lv_goto X.1.1 X.1.2.1 d_Law_law_346 rfl ?_
      exact kont _ _ _ _ hJ2 hsc hfr2 hL (gl_forget (gl_forget hl 5) 6)
    · refine lv_aload_n X.1.1 X.1.2.1 d_Law_law_334 rfl (gl_at hl rfl) ?_
      refine lv_iconst (v := nI 0) X.1.1 X.1.2.1 d_Law_law_335 (by decide) ?_
      refine g_lald X 2 ho1 rfl 0 (by decide) (by decide) d_Law_law_336 ?_
      refine lv_iload X.1.1 X.1.2.1 d_Law_law_337 (gl_at hl rfl) ?_
      refine lv_i2l X.1.1 X.1.2.1 d_Law_law_339 rfl ?_
      rw [hz (by omega)]
      refine g_lcmp0 X.1.1 X.1.2.1 d_Law_law_340 ?_
      refine gn_eq0 X.1.1 X.1.2.1 0 (by omega) d_Law_law_341 rfl (fun hc341 => ?_) (fun hc341 => ?_)
      · refine lv_goto X.1.1 X.1.2.1 d_Law_law_346 rfl ?_
        exact kont _ _ _ _ hJ2 hsc hfr2 hL (gl_forget (gl_forget hl 5) 6)
      · omega
  · omega

set_option maxHeartbeats 4000000 in
set_option maxRecDepth 100000 in
theorem lc_get (l : Launch) (D : va_G) (q : Nat → ClassId) (b z1 z2 : Nat) (F1 F2 : Nat → Int32) {p : Program} {e : Env} {s : State} {m : MethodId} {below : List Frame} {meth : Method} {c : Code} (sc L : Nat) (xs : Nat → Int32) (X : gX p m c code 7 s ([.ref sc] : List Value).toArray R_Law gWS D CL (gY q)) (htr : ∀ e, l.admits e → e.platform.stackTraces = false) (xq : Nat → ClassId) (hE : ∀ U : State, (∀ p : Nat, p < b → U.heap[p]? = s.heap[p]?) → s.WarmedH U.vm → lE b z1 z2 F1 F2 xq U) (hFn : ∀ j, j ≤ 4 → F1 j = nI (fanL j) ∧ F2 j = nI (fanM j)) (hX0 : va_X sc L xs s s.heap) (hLen : L ≤ 2048) (hscb : sc < b) (Q : State → Prop) (i T : Nat) (hi : i + 4 ≤ L) (hTb : T < 1048576) (x0 : Int32) (H : Heap) (hJ : lJ D q b z1 z2 F1 F2 T x0 H) (hsc : H[sc]? = s.heap[sc]?) (hfr : ∀ p : Nat, p < b → H[p]? = s.heap[p]?) (ls : Array Slot) (locs : List Loc) (cells slots : Nat) (hcs : cells + 5 ≤ 601024 ∧ slots + 22 ≤ 7293034) (hL : ∀ x ∈ locs, (fun p => b ≤ p) x.base) (hl : gl ls [some (.ref sc), some (.ref b), some (.ref (b + 559)), some (.ref (b + 588)), some (.int (nI i)), none, none]) (kont : ∀ (x1 : Int32) (H1 : Heap) (locs1 : List Loc) (ls1 : Array Slot), lJ D q b z1 z2 F1 F2 (T + 1) x1 H1 → H1[sc]? = s.heap[sc]? → (∀ p : Nat, p < b → H1[p]? = s.heap[p]?) → (∀ x ∈ locs1, (fun p => b ≤ p) x.base) → gl ls1 [some (.ref sc), some (.ref b), some (.ref (b + 559)), some (.ref (b + 588)), some (.int (nI i)), none, none] → W p l e room_1 s m ([.ref sc] : List Value).toArray below meth c H1 locs1 (cells + 5) (slots + 22) Q (F0 m 1297 ls1 [])) : W p l e room_1 s m ([.ref sc] : List Value).toArray below meth c H locs cells slots Q (F0 m 349 ls []) := by
  refine lv_aload_n X.1.1 X.1.2.1 d_Law_law_349 rfl (gl_at hl rfl) ?_
  refine lv_aload_n X.1.1 X.1.2.1 d_Law_law_350 rfl (gl_at hl rfl) ?_
  refine lv_iload X.1.1 X.1.2.1 d_Law_law_351 (gl_at hl rfl) ?_
  refine lv_iconst (v := nI 1) X.1.1 X.1.2.1 d_Law_law_353 (by decide) ?_
  refine lv_iadd X.1.1 X.1.2.1 d_Law_law_354 ?_
  refine g_top (nI (i + 1)) (nI_add _ _) ?_
  refine g_sld X hX0 hsc (i + 1) (by omega) (by omega) d_Law_law_355 ?_
  refine lv_aload_n X.1.1 X.1.2.1 d_Law_law_356 rfl (gl_at hl rfl) ?_
  refine g_csW (A := (fun p => b ≤ p)) X gWS_good mw_Law_86 (l_get l D q b z1 z2 F1 F2 T x0 H hJ htr xq (xs (i + 1))) (fun U h1 h2 => hE U (fun p hp => by rw [h1]; exact hfr p hp) h2) (lE.blind b z1 z2 F1 F2 xq) rfl rfl hl.1 (Nat.le_of_ble_eq_true rfl) rfl rfl ⟨by decide, by decide⟩ ⟨hcs.1, hcs.2⟩ d_Law_law_357 (fun _ h => h) hL (fun v1 H1 locs hp1 hL => ?_)
  obtain ⟨k, G1, hk3, rfl, ho1, hz1, fb1, ⟨fd1, hd1⟩, hM1⟩ := hp1
  replace hsc := (fb1 _ hscb).trans hsc
  refine g_ist X.1.1 X.1.2.1 hl 5 d_Law_law_360 (Nat.le_of_ble_eq_true rfl) rfl (fun ls hl => ?_)
  refine lv_aload_n X.1.1 X.1.2.1 d_Law_law_362 rfl (gl_at hl rfl) ?_
  refine lv_aload_n X.1.1 X.1.2.1 d_Law_law_363 rfl (gl_at hl rfl) ?_
  refine lv_iload X.1.1 X.1.2.1 d_Law_law_364 (gl_at hl rfl) ?_
  refine lv_iconst (v := nI 1) X.1.1 X.1.2.1 d_Law_law_366 (by decide) ?_
  refine lv_iadd X.1.1 X.1.2.1 d_Law_law_367 ?_
  refine g_top (nI (i + 1)) (nI_add _ _) ?_
  refine g_sld X hX0 hsc (i + 1) (by omega) (by omega) d_Law_law_368 ?_
  refine g_cv (A := (fun p => b ≤ p)) X gWS_good mw_Law_89 kc_Model hd1 hM1 (fun _ _ _ => trivial) gBlind.tt rfl rfl hl.1 (Nat.le_of_ble_eq_true rfl) rfl rfl ⟨by decide, by decide⟩ ⟨hcs.1, hcs.2⟩ d_Law_law_369 (fun _ h => h) hL (fun v2 H2 locs hp2 hL => ?_)
  obtain ⟨z, rfl, hz, ho2, hJ2, hz2, fb2⟩ := hp2
  replace ho1 := va_at.kept ho1 ho2
  replace hsc := (fb2 _ hscb).trans hsc
  have hfr2 : ∀ p : Nat, p < b → H2[p]? = s.heap[p]? := fun p hp => (fb2 p hp).trans ((fb1 p hp).trans (hfr p hp))
  refine g_ist X.1.1 X.1.2.1 hl 6 d_Law_law_372 (Nat.le_of_ble_eq_true rfl) rfl (fun ls hl => ?_)
  refine lv_aload_n X.1.1 X.1.2.1 d_Law_law_374 rfl (gl_at hl rfl) ?_
  obtain ⟨⟨fd2, hd2⟩, hM2⟩ := hJ2.thrown l
  refine g_cv (A := (fun p => b ≤ p)) X gWS_good mw_Law_79 kc_Model hd2 hM2 (fun _ _ _ => trivial) gBlind.tt rfl rfl hl.1 (Nat.le_of_ble_eq_true rfl) rfl rfl ⟨by decide, by decide⟩ ⟨hcs.1, hcs.2⟩ d_Law_law_375 (fun _ h => h.elim) hL (fun v3 H3 locs hp3 hL => ?_)
  obtain ⟨rfl, rfl⟩ := hp3
  refine lv_iload X.1.1 X.1.2.1 d_Law_law_378 (gl_at hl rfl) ?_
  refine gn_eq X.1.1 X.1.2.1 k k (by omega) (by omega) d_Law_law_380 rfl (fun hc380 => ?_) (fun hc380 => ?_)
  · refine lv_iload X.1.1 X.1.2.1 d_Law_law_385 (gl_at hl rfl) ?_
    refine gn_ne0 X.1.1 X.1.2.1 k (by omega) d_Law_law_387 rfl (fun hc387 => ?_) (fun hc387 => ?_)
    · refine lv_goto X.1.1 X.1.2.1 d_Law_law_402 rfl ?_
      exact kont _ _ _ _ hJ2 hsc hfr2 hL (gl_forget (gl_forget hl 5) 6)
    · refine lv_aload_n X.1.1 X.1.2.1 d_Law_law_390 rfl (gl_at hl rfl) ?_
      refine lv_iconst (v := nI 0) X.1.1 X.1.2.1 d_Law_law_391 (by decide) ?_
      refine g_lald X 2 ho1 rfl 0 (by decide) (by decide) d_Law_law_392 ?_
      refine lv_iload X.1.1 X.1.2.1 d_Law_law_393 (gl_at hl rfl) ?_
      refine lv_i2l X.1.1 X.1.2.1 d_Law_law_395 rfl ?_
      rw [hz (by omega)]
      refine g_lcmp0 X.1.1 X.1.2.1 d_Law_law_396 ?_
      refine gn_eq0 X.1.1 X.1.2.1 0 (by omega) d_Law_law_397 rfl (fun hc397 => ?_) (fun hc397 => ?_)
      · refine lv_goto X.1.1 X.1.2.1 d_Law_law_402 rfl ?_
        exact kont _ _ _ _ hJ2 hsc hfr2 hL (gl_forget (gl_forget hl 5) 6)
      · omega
  · omega

set_option maxHeartbeats 4000000 in
set_option maxRecDepth 100000 in
theorem lc_remove (l : Launch) (D : va_G) (q : Nat → ClassId) (b z1 z2 : Nat) (F1 F2 : Nat → Int32) {p : Program} {e : Env} {s : State} {m : MethodId} {below : List Frame} {meth : Method} {c : Code} (sc L : Nat) (xs : Nat → Int32) (X : gX p m c code 7 s ([.ref sc] : List Value).toArray R_Law gWS D CL (gY q)) (htr : ∀ e, l.admits e → e.platform.stackTraces = false) (xq : Nat → ClassId) (hE : ∀ U : State, (∀ p : Nat, p < b → U.heap[p]? = s.heap[p]?) → s.WarmedH U.vm → lE b z1 z2 F1 F2 xq U) (hFn : ∀ j, j ≤ 4 → F1 j = nI (fanL j) ∧ F2 j = nI (fanM j)) (hX0 : va_X sc L xs s s.heap) (hLen : L ≤ 2048) (hscb : sc < b) (Q : State → Prop) (i T : Nat) (hi : i + 4 ≤ L) (hTb : T < 1048576) (x0 : Int32) (H : Heap) (hJ : lJ D q b z1 z2 F1 F2 T x0 H) (hsc : H[sc]? = s.heap[sc]?) (hfr : ∀ p : Nat, p < b → H[p]? = s.heap[p]?) (ls : Array Slot) (locs : List Loc) (cells slots : Nat) (hcs : cells + 5 ≤ 601024 ∧ slots + 22 ≤ 7293034) (hL : ∀ x ∈ locs, (fun p => b ≤ p) x.base) (hl : gl ls [some (.ref sc), some (.ref b), some (.ref (b + 559)), some (.ref (b + 588)), some (.int (nI i)), none, none]) (kont : ∀ (x1 : Int32) (H1 : Heap) (locs1 : List Loc) (ls1 : Array Slot), lJ D q b z1 z2 F1 F2 (T + 1) x1 H1 → H1[sc]? = s.heap[sc]? → (∀ p : Nat, p < b → H1[p]? = s.heap[p]?) → (∀ x ∈ locs1, (fun p => b ≤ p) x.base) → gl ls1 [some (.ref sc), some (.ref b), some (.ref (b + 559)), some (.ref (b + 588)), some (.int (nI i)), none, none] → W p l e room_1 s m ([.ref sc] : List Value).toArray below meth c H1 locs1 (cells + 5) (slots + 22) Q (F0 m 1297 ls1 [])) : W p l e room_1 s m ([.ref sc] : List Value).toArray below meth c H locs cells slots Q (F0 m 405 ls []) := by
  refine lv_aload_n X.1.1 X.1.2.1 d_Law_law_405 rfl (gl_at hl rfl) ?_
  refine lv_aload_n X.1.1 X.1.2.1 d_Law_law_406 rfl (gl_at hl rfl) ?_
  refine lv_iload X.1.1 X.1.2.1 d_Law_law_407 (gl_at hl rfl) ?_
  refine lv_iconst (v := nI 1) X.1.1 X.1.2.1 d_Law_law_409 (by decide) ?_
  refine lv_iadd X.1.1 X.1.2.1 d_Law_law_410 ?_
  refine g_top (nI (i + 1)) (nI_add _ _) ?_
  refine g_sld X hX0 hsc (i + 1) (by omega) (by omega) d_Law_law_411 ?_
  refine lv_aload_n X.1.1 X.1.2.1 d_Law_law_412 rfl (gl_at hl rfl) ?_
  refine g_csW (A := (fun p => b ≤ p)) X gWS_good mw_Law_90 (l_remove l D q b z1 z2 F1 F2 T x0 H hJ htr xq (xs (i + 1))) (fun U h1 h2 => hE U (fun p hp => by rw [h1]; exact hfr p hp) h2) (lE.blind b z1 z2 F1 F2 xq) rfl rfl hl.1 (Nat.le_of_ble_eq_true rfl) rfl rfl ⟨by decide, by decide⟩ ⟨hcs.1, hcs.2⟩ d_Law_law_413 (fun _ h => h) hL (fun v1 H1 locs hp1 hL => ?_)
  obtain ⟨k, G1, hk3, rfl, ho1, hz1, fb1, ⟨fd1, hd1⟩, hM1⟩ := hp1
  replace hsc := (fb1 _ hscb).trans hsc
  refine g_ist X.1.1 X.1.2.1 hl 5 d_Law_law_416 (Nat.le_of_ble_eq_true rfl) rfl (fun ls hl => ?_)
  refine lv_aload_n X.1.1 X.1.2.1 d_Law_law_418 rfl (gl_at hl rfl) ?_
  refine lv_aload_n X.1.1 X.1.2.1 d_Law_law_419 rfl (gl_at hl rfl) ?_
  refine lv_iload X.1.1 X.1.2.1 d_Law_law_420 (gl_at hl rfl) ?_
  refine lv_iconst (v := nI 1) X.1.1 X.1.2.1 d_Law_law_422 (by decide) ?_
  refine lv_iadd X.1.1 X.1.2.1 d_Law_law_423 ?_
  refine g_top (nI (i + 1)) (nI_add _ _) ?_
  refine g_sld X hX0 hsc (i + 1) (by omega) (by omega) d_Law_law_424 ?_
  refine g_cv (A := (fun p => b ≤ p)) X gWS_good mw_Law_92 kc_Model hd1 hM1 (fun _ _ _ => trivial) gBlind.tt rfl rfl hl.1 (Nat.le_of_ble_eq_true rfl) rfl rfl ⟨by decide, by decide⟩ ⟨hcs.1, hcs.2⟩ d_Law_law_425 (fun _ h => h) hL (fun v2 H2 locs hp2 hL => ?_)
  obtain ⟨z, rfl, hz, ho2, hJ2, hz2, fb2⟩ := hp2
  replace ho1 := va_at.kept ho1 ho2
  replace hsc := (fb2 _ hscb).trans hsc
  have hfr2 : ∀ p : Nat, p < b → H2[p]? = s.heap[p]? := fun p hp => (fb2 p hp).trans ((fb1 p hp).trans (hfr p hp))
  refine g_ist X.1.1 X.1.2.1 hl 6 d_Law_law_428 (Nat.le_of_ble_eq_true rfl) rfl (fun ls hl => ?_)
  refine lv_aload_n X.1.1 X.1.2.1 d_Law_law_430 rfl (gl_at hl rfl) ?_
  obtain ⟨⟨fd2, hd2⟩, hM2⟩ := hJ2.thrown l
  refine g_cv (A := (fun p => b ≤ p)) X gWS_good mw_Law_79 kc_Model hd2 hM2 (fun _ _ _ => trivial) gBlind.tt rfl rfl hl.1 (Nat.le_of_ble_eq_true rfl) rfl rfl ⟨by decide, by decide⟩ ⟨hcs.1, hcs.2⟩ d_Law_law_431 (fun _ h => h.elim) hL (fun v3 H3 locs hp3 hL => ?_)
  obtain ⟨rfl, rfl⟩ := hp3
  refine lv_iload X.1.1 X.1.2.1 d_Law_law_434 (gl_at hl rfl) ?_
  refine gn_eq X.1.1 X.1.2.1 k k (by omega) (by omega) d_Law_law_436 rfl (fun hc436 => ?_) (fun hc436 => ?_)
  · refine lv_iload X.1.1 X.1.2.1 d_Law_law_441 (gl_at hl rfl) ?_
    refine gn_ne0 X.1.1 X.1.2.1 k (by omega) d_Law_law_443 rfl (fun hc443 => ?_) (fun hc443 => ?_)
    · refine lv_goto X.1.1 X.1.2.1 d_Law_law_458 rfl ?_
      exact kont _ _ _ _ hJ2 hsc hfr2 hL (gl_forget (gl_forget hl 5) 6)
    · refine lv_aload_n X.1.1 X.1.2.1 d_Law_law_446 rfl (gl_at hl rfl) ?_
      refine lv_iconst (v := nI 0) X.1.1 X.1.2.1 d_Law_law_447 (by decide) ?_
      refine g_lald X 2 ho1 rfl 0 (by decide) (by decide) d_Law_law_448 ?_
      refine lv_iload X.1.1 X.1.2.1 d_Law_law_449 (gl_at hl rfl) ?_
      refine lv_i2l X.1.1 X.1.2.1 d_Law_law_451 rfl ?_
      rw [hz (by omega)]
      refine g_lcmp0 X.1.1 X.1.2.1 d_Law_law_452 ?_
      refine gn_eq0 X.1.1 X.1.2.1 0 (by omega) d_Law_law_453 rfl (fun hc453 => ?_) (fun hc453 => ?_)
      · refine lv_goto X.1.1 X.1.2.1 d_Law_law_458 rfl ?_
        exact kont _ _ _ _ hJ2 hsc hfr2 hL (gl_forget (gl_forget hl 5) 6)
      · omega
  · omega

set_option maxHeartbeats 4000000 in
set_option maxRecDepth 100000 in
theorem lc_size (l : Launch) (D : va_G) (q : Nat → ClassId) (b z1 z2 : Nat) (F1 F2 : Nat → Int32) {p : Program} {e : Env} {s : State} {m : MethodId} {below : List Frame} {meth : Method} {c : Code} (sc L : Nat) (xs : Nat → Int32) (X : gX p m c code 7 s ([.ref sc] : List Value).toArray R_Law gWS D CL (gY q)) (htr : ∀ e, l.admits e → e.platform.stackTraces = false) (xq : Nat → ClassId) (hE : ∀ U : State, (∀ p : Nat, p < b → U.heap[p]? = s.heap[p]?) → s.WarmedH U.vm → lE b z1 z2 F1 F2 xq U) (hFn : ∀ j, j ≤ 4 → F1 j = nI (fanL j) ∧ F2 j = nI (fanM j)) (hX0 : va_X sc L xs s s.heap) (hLen : L ≤ 2048) (hscb : sc < b) (Q : State → Prop) (i T : Nat) (hi : i + 4 ≤ L) (hTb : T < 1048576) (x0 : Int32) (H : Heap) (hJ : lJ D q b z1 z2 F1 F2 T x0 H) (hsc : H[sc]? = s.heap[sc]?) (hfr : ∀ p : Nat, p < b → H[p]? = s.heap[p]?) (ls : Array Slot) (locs : List Loc) (cells slots : Nat) (hcs : cells + 5 ≤ 601024 ∧ slots + 22 ≤ 7293034) (hL : ∀ x ∈ locs, (fun p => b ≤ p) x.base) (hl : gl ls [some (.ref sc), some (.ref b), some (.ref (b + 559)), some (.ref (b + 588)), some (.int (nI i)), none, none]) (kont : ∀ (x1 : Int32) (H1 : Heap) (locs1 : List Loc) (ls1 : Array Slot), lJ D q b z1 z2 F1 F2 (T + 1) x1 H1 → H1[sc]? = s.heap[sc]? → (∀ p : Nat, p < b → H1[p]? = s.heap[p]?) → (∀ x ∈ locs1, (fun p => b ≤ p) x.base) → gl ls1 [some (.ref sc), some (.ref b), some (.ref (b + 559)), some (.ref (b + 588)), some (.int (nI i)), none, none] → W p l e room_1 s m ([.ref sc] : List Value).toArray below meth c H1 locs1 (cells + 5) (slots + 22) Q (F0 m 1297 ls1 [])) : W p l e room_1 s m ([.ref sc] : List Value).toArray below meth c H locs cells slots Q (F0 m 461 ls []) := by
  refine lv_aload_n X.1.1 X.1.2.1 d_Law_law_461 rfl (gl_at hl rfl) ?_
  refine lv_aload_n X.1.1 X.1.2.1 d_Law_law_462 rfl (gl_at hl rfl) ?_
  refine lv_iload X.1.1 X.1.2.1 d_Law_law_463 (gl_at hl rfl) ?_
  refine lv_iconst (v := nI 1) X.1.1 X.1.2.1 d_Law_law_465 (by decide) ?_
  refine lv_iadd X.1.1 X.1.2.1 d_Law_law_466 ?_
  refine g_top (nI (i + 1)) (nI_add _ _) ?_
  refine g_sld X hX0 hsc (i + 1) (by omega) (by omega) d_Law_law_467 ?_
  obtain ⟨fs0, hb0⟩ := hJ.hall
  refine g_cv (A := (fun p => b ≤ p)) X gWS_good mw_Law_93 kc_Hall hb0 (l_size l D q b z1 z2 F1 F2 T x0 H hJ (xs (i + 1))) (fun _ _ _ => trivial) gBlind.tt rfl rfl hl.1 (Nat.le_of_ble_eq_true rfl) rfl rfl ⟨by decide, by decide⟩ ⟨hcs.1, hcs.2⟩ d_Law_law_468 (fun _ h => h) hL (fun v1 H1 locs hp1 hL => ?_)
  obtain ⟨z, rfl, hz1, fb1, ⟨fd1, hd1⟩, hM1⟩ := hp1
  replace hsc := (fb1 _ hscb).trans hsc
  refine lv_aload_n X.1.1 X.1.2.1 d_Law_law_471 rfl (gl_at hl rfl) ?_
  refine lv_aload_n X.1.1 X.1.2.1 d_Law_law_472 rfl (gl_at hl rfl) ?_
  refine lv_iload X.1.1 X.1.2.1 d_Law_law_473 (gl_at hl rfl) ?_
  refine lv_iconst (v := nI 1) X.1.1 X.1.2.1 d_Law_law_475 (by decide) ?_
  refine lv_iadd X.1.1 X.1.2.1 d_Law_law_476 ?_
  refine g_top (nI (i + 1)) (nI_add _ _) ?_
  refine g_sld X hX0 hsc (i + 1) (by omega) (by omega) d_Law_law_477 ?_
  refine g_cv (A := (fun p => b ≤ p)) X gWS_good mw_Law_96 kc_Model hd1 hM1 (fun _ _ _ => trivial) gBlind.tt rfl rfl hl.1 (Nat.le_of_ble_eq_true rfl) rfl rfl ⟨by decide, by decide⟩ ⟨hcs.1, hcs.2⟩ d_Law_law_478 (fun _ h => h) hL (fun v2 H2 locs hp2 hL => ?_)
  obtain ⟨rfl, ⟨x1, hJ2⟩, hz2, fb2⟩ := hp2
  replace hsc := (fb2 _ hscb).trans hsc
  have hfr2 : ∀ p : Nat, p < b → H2[p]? = s.heap[p]? := fun p hp => (fb2 p hp).trans ((fb1 p hp).trans (hfr p hp))
  refine lv_icmp_eq X.1.1 X.1.2.1 d_Law_law_481 rfl (fun hc481 => ?_) (fun hc481 => ?_)
  · exact kont _ _ _ _ hJ2 hsc hfr2 hL hl
  · exact absurd rfl hc481

set_option maxHeartbeats 4000000 in
set_option maxRecDepth 100000 in
theorem lc_find (l : Launch) (D : va_G) (q : Nat → ClassId) (b z1 z2 : Nat) (F1 F2 : Nat → Int32) {p : Program} {e : Env} {s : State} {m : MethodId} {below : List Frame} {meth : Method} {c : Code} (sc L : Nat) (xs : Nat → Int32) (X : gX p m c code 7 s ([.ref sc] : List Value).toArray R_Law gWS D CL (gY q)) (htr : ∀ e, l.admits e → e.platform.stackTraces = false) (xq : Nat → ClassId) (hE : ∀ U : State, (∀ p : Nat, p < b → U.heap[p]? = s.heap[p]?) → s.WarmedH U.vm → lE b z1 z2 F1 F2 xq U) (hFn : ∀ j, j ≤ 4 → F1 j = nI (fanL j) ∧ F2 j = nI (fanM j)) (hX0 : va_X sc L xs s s.heap) (hLen : L ≤ 2048) (hscb : sc < b) (Q : State → Prop) (i T : Nat) (hi : i + 4 ≤ L) (hTb : T < 1048576) (x0 : Int32) (H : Heap) (hJ : lJ D q b z1 z2 F1 F2 T x0 H) (hsc : H[sc]? = s.heap[sc]?) (hfr : ∀ p : Nat, p < b → H[p]? = s.heap[p]?) (ls : Array Slot) (locs : List Loc) (cells slots : Nat) (hcs : cells + 5 ≤ 601024 ∧ slots + 22 ≤ 7293034) (hL : ∀ x ∈ locs, (fun p => b ≤ p) x.base) (hl : gl ls [some (.ref sc), some (.ref b), some (.ref (b + 559)), some (.ref (b + 588)), some (.int (nI i)), none, none]) (kont : ∀ (x1 : Int32) (H1 : Heap) (locs1 : List Loc) (ls1 : Array Slot), lJ D q b z1 z2 F1 F2 (T + 1) x1 H1 → H1[sc]? = s.heap[sc]? → (∀ p : Nat, p < b → H1[p]? = s.heap[p]?) → (∀ x ∈ locs1, (fun p => b ≤ p) x.base) → gl ls1 [some (.ref sc), some (.ref b), some (.ref (b + 559)), some (.ref (b + 588)), some (.int (nI i)), none, none] → W p l e room_1 s m ([.ref sc] : List Value).toArray below meth c H1 locs1 (cells + 5) (slots + 22) Q (F0 m 1297 ls1 [])) : W p l e room_1 s m ([.ref sc] : List Value).toArray below meth c H locs cells slots Q (F0 m 486 ls []) := by
  refine lv_aload_n X.1.1 X.1.2.1 d_Law_law_486 rfl (gl_at hl rfl) ?_
  refine lv_aload_n X.1.1 X.1.2.1 d_Law_law_487 rfl (gl_at hl rfl) ?_
  refine lv_iload X.1.1 X.1.2.1 d_Law_law_488 (gl_at hl rfl) ?_
  refine lv_iconst (v := nI 1) X.1.1 X.1.2.1 d_Law_law_490 (by decide) ?_
  refine lv_iadd X.1.1 X.1.2.1 d_Law_law_491 ?_
  refine g_top (nI (i + 1)) (nI_add _ _) ?_
  refine g_sld X hX0 hsc (i + 1) (by omega) (by omega) d_Law_law_492 ?_
  refine lv_aload_n X.1.1 X.1.2.1 d_Law_law_493 rfl (gl_at hl rfl) ?_
  refine lv_iload X.1.1 X.1.2.1 d_Law_law_494 (gl_at hl rfl) ?_
  refine lv_iconst (v := nI 2) X.1.1 X.1.2.1 d_Law_law_496 (by decide) ?_
  refine lv_iadd X.1.1 X.1.2.1 d_Law_law_497 ?_
  refine g_top (nI (i + 2)) (nI_add _ _) ?_
  refine g_sld X hX0 hsc (i + 2) (by omega) (by omega) d_Law_law_498 ?_
  refine lv_aload_n X.1.1 X.1.2.1 d_Law_law_499 rfl (gl_at hl rfl) ?_
  refine g_csW (A := (fun p => b ≤ p)) X gWS_good mw_Law_97 (l_find l D q b z1 z2 F1 F2 T x0 H hJ htr xq (xs (i + 1)) (xs (i + 2))) (fun U h1 h2 => hE U (fun p hp => by rw [h1]; exact hfr p hp) h2) (lE.blind b z1 z2 F1 F2 xq) rfl rfl hl.1 (Nat.le_of_ble_eq_true rfl) rfl rfl ⟨by decide, by decide⟩ ⟨hcs.1, hcs.2⟩ d_Law_law_500 (fun _ h => h) hL (fun v1 H1 locs hp1 hL => ?_)
  obtain ⟨k, G1, hk3, rfl, ho1, hz1, fb1, ⟨fd1, hd1⟩, hM1⟩ := hp1
  replace hsc := (fb1 _ hscb).trans hsc
  refine g_ist X.1.1 X.1.2.1 hl 5 d_Law_law_503 (Nat.le_of_ble_eq_true rfl) rfl (fun ls hl => ?_)
  refine lv_aload_n X.1.1 X.1.2.1 d_Law_law_505 rfl (gl_at hl rfl) ?_
  refine lv_aload_n X.1.1 X.1.2.1 d_Law_law_506 rfl (gl_at hl rfl) ?_
  refine lv_iload X.1.1 X.1.2.1 d_Law_law_507 (gl_at hl rfl) ?_
  refine lv_iconst (v := nI 1) X.1.1 X.1.2.1 d_Law_law_509 (by decide) ?_
  refine lv_iadd X.1.1 X.1.2.1 d_Law_law_510 ?_
  refine g_top (nI (i + 1)) (nI_add _ _) ?_
  refine g_sld X hX0 hsc (i + 1) (by omega) (by omega) d_Law_law_511 ?_
  refine lv_aload_n X.1.1 X.1.2.1 d_Law_law_512 rfl (gl_at hl rfl) ?_
  refine lv_iload X.1.1 X.1.2.1 d_Law_law_513 (gl_at hl rfl) ?_
  refine lv_iconst (v := nI 2) X.1.1 X.1.2.1 d_Law_law_515 (by decide) ?_
  refine lv_iadd X.1.1 X.1.2.1 d_Law_law_516 ?_
  refine g_top (nI (i + 2)) (nI_add _ _) ?_
  refine g_sld X hX0 hsc (i + 2) (by omega) (by omega) d_Law_law_517 ?_
  refine g_cv (A := (fun p => b ≤ p)) X gWS_good mw_Law_99 kc_Model hd1 hM1 (fun _ _ _ => trivial) gBlind.tt rfl rfl hl.1 (Nat.le_of_ble_eq_true rfl) rfl rfl ⟨by decide, by decide⟩ ⟨hcs.1, hcs.2⟩ d_Law_law_518 (fun _ h => h) hL (fun v2 H2 locs hp2 hL => ?_)
  obtain ⟨z, rfl, hz, ho2, hJ2, hz2, fb2⟩ := hp2
  replace ho1 := va_at.kept ho1 ho2
  replace hsc := (fb2 _ hscb).trans hsc
  have hfr2 : ∀ p : Nat, p < b → H2[p]? = s.heap[p]? := fun p hp => (fb2 p hp).trans ((fb1 p hp).trans (hfr p hp))
  refine g_ist X.1.1 X.1.2.1 hl 6 d_Law_law_521 (Nat.le_of_ble_eq_true rfl) rfl (fun ls hl => ?_)
  refine lv_aload_n X.1.1 X.1.2.1 d_Law_law_523 rfl (gl_at hl rfl) ?_
  obtain ⟨⟨fd2, hd2⟩, hM2⟩ := hJ2.thrown l
  refine g_cv (A := (fun p => b ≤ p)) X gWS_good mw_Law_79 kc_Model hd2 hM2 (fun _ _ _ => trivial) gBlind.tt rfl rfl hl.1 (Nat.le_of_ble_eq_true rfl) rfl rfl ⟨by decide, by decide⟩ ⟨hcs.1, hcs.2⟩ d_Law_law_524 (fun _ h => h.elim) hL (fun v3 H3 locs hp3 hL => ?_)
  obtain ⟨rfl, rfl⟩ := hp3
  refine lv_iload X.1.1 X.1.2.1 d_Law_law_527 (gl_at hl rfl) ?_
  refine gn_eq X.1.1 X.1.2.1 k k (by omega) (by omega) d_Law_law_529 rfl (fun hc529 => ?_) (fun hc529 => ?_)
  · refine lv_iload X.1.1 X.1.2.1 d_Law_law_534 (gl_at hl rfl) ?_
    refine gn_ne0 X.1.1 X.1.2.1 k (by omega) d_Law_law_536 rfl (fun hc536 => ?_) (fun hc536 => ?_)
    · refine lv_goto X.1.1 X.1.2.1 d_Law_law_551 rfl ?_
      exact kont _ _ _ _ hJ2 hsc hfr2 hL (gl_forget (gl_forget hl 5) 6)
    · refine lv_aload_n X.1.1 X.1.2.1 d_Law_law_539 rfl (gl_at hl rfl) ?_
      refine lv_iconst (v := nI 0) X.1.1 X.1.2.1 d_Law_law_540 (by decide) ?_
      refine g_lald X 2 ho1 rfl 0 (by decide) (by decide) d_Law_law_541 ?_
      refine lv_iload X.1.1 X.1.2.1 d_Law_law_542 (gl_at hl rfl) ?_
      refine lv_i2l X.1.1 X.1.2.1 d_Law_law_544 rfl ?_
      rw [hz (by omega)]
      refine g_lcmp0 X.1.1 X.1.2.1 d_Law_law_545 ?_
      refine gn_eq0 X.1.1 X.1.2.1 0 (by omega) d_Law_law_546 rfl (fun hc546 => ?_) (fun hc546 => ?_)
      · refine lv_goto X.1.1 X.1.2.1 d_Law_law_551 rfl ?_
        exact kont _ _ _ _ hJ2 hsc hfr2 hL (gl_forget (gl_forget hl 5) 6)
      · omega
  · omega

set_option maxHeartbeats 4000000 in
set_option maxRecDepth 100000 in
theorem lc_at (l : Launch) (D : va_G) (q : Nat → ClassId) (b z1 z2 : Nat) (F1 F2 : Nat → Int32) {p : Program} {e : Env} {s : State} {m : MethodId} {below : List Frame} {meth : Method} {c : Code} (sc L : Nat) (xs : Nat → Int32) (X : gX p m c code 7 s ([.ref sc] : List Value).toArray R_Law gWS D CL (gY q)) (htr : ∀ e, l.admits e → e.platform.stackTraces = false) (xq : Nat → ClassId) (hE : ∀ U : State, (∀ p : Nat, p < b → U.heap[p]? = s.heap[p]?) → s.WarmedH U.vm → lE b z1 z2 F1 F2 xq U) (hFn : ∀ j, j ≤ 4 → F1 j = nI (fanL j) ∧ F2 j = nI (fanM j)) (hX0 : va_X sc L xs s s.heap) (hLen : L ≤ 2048) (hscb : sc < b) (Q : State → Prop) (i T : Nat) (hi : i + 4 ≤ L) (hTb : T < 1048576) (x0 : Int32) (H : Heap) (hJ : lJ D q b z1 z2 F1 F2 T x0 H) (hsc : H[sc]? = s.heap[sc]?) (hfr : ∀ p : Nat, p < b → H[p]? = s.heap[p]?) (ls : Array Slot) (locs : List Loc) (cells slots : Nat) (hcs : cells + 5 ≤ 601024 ∧ slots + 22 ≤ 7293034) (hL : ∀ x ∈ locs, (fun p => b ≤ p) x.base) (hl : gl ls [some (.ref sc), some (.ref b), some (.ref (b + 559)), some (.ref (b + 588)), some (.int (nI i)), none, none]) (kont : ∀ (x1 : Int32) (H1 : Heap) (locs1 : List Loc) (ls1 : Array Slot), lJ D q b z1 z2 F1 F2 (T + 1) x1 H1 → H1[sc]? = s.heap[sc]? → (∀ p : Nat, p < b → H1[p]? = s.heap[p]?) → (∀ x ∈ locs1, (fun p => b ≤ p) x.base) → gl ls1 [some (.ref sc), some (.ref b), some (.ref (b + 559)), some (.ref (b + 588)), some (.int (nI i)), none, none] → W p l e room_1 s m ([.ref sc] : List Value).toArray below meth c H1 locs1 (cells + 5) (slots + 22) Q (F0 m 1297 ls1 [])) : W p l e room_1 s m ([.ref sc] : List Value).toArray below meth c H locs cells slots Q (F0 m 554 ls []) := by
  refine lv_aload_n X.1.1 X.1.2.1 d_Law_law_554 rfl (gl_at hl rfl) ?_
  refine lv_aload_n X.1.1 X.1.2.1 d_Law_law_555 rfl (gl_at hl rfl) ?_
  refine lv_iload X.1.1 X.1.2.1 d_Law_law_556 (gl_at hl rfl) ?_
  refine lv_iconst (v := nI 1) X.1.1 X.1.2.1 d_Law_law_558 (by decide) ?_
  refine lv_iadd X.1.1 X.1.2.1 d_Law_law_559 ?_
  refine g_top (nI (i + 1)) (nI_add _ _) ?_
  refine g_sld X hX0 hsc (i + 1) (by omega) (by omega) d_Law_law_560 ?_
  refine lv_aload_n X.1.1 X.1.2.1 d_Law_law_561 rfl (gl_at hl rfl) ?_
  refine lv_iload X.1.1 X.1.2.1 d_Law_law_562 (gl_at hl rfl) ?_
  refine lv_iconst (v := nI 2) X.1.1 X.1.2.1 d_Law_law_564 (by decide) ?_
  refine lv_iadd X.1.1 X.1.2.1 d_Law_law_565 ?_
  refine g_top (nI (i + 2)) (nI_add _ _) ?_
  refine g_sld X hX0 hsc (i + 2) (by omega) (by omega) d_Law_law_566 ?_
  refine lv_aload_n X.1.1 X.1.2.1 d_Law_law_567 rfl (gl_at hl rfl) ?_
  refine g_csW (A := (fun p => b ≤ p)) X gWS_good mw_Law_100 (l_at l D q b z1 z2 F1 F2 T x0 H hJ htr xq (xs (i + 1)) (xs (i + 2))) (fun U h1 h2 => hE U (fun p hp => by rw [h1]; exact hfr p hp) h2) (lE.blind b z1 z2 F1 F2 xq) rfl rfl hl.1 (Nat.le_of_ble_eq_true rfl) rfl rfl ⟨by decide, by decide⟩ ⟨hcs.1, hcs.2⟩ d_Law_law_568 (fun _ h => h) hL (fun v1 H1 locs hp1 hL => ?_)
  obtain ⟨k, G1, hk3, rfl, ho1, hz1, fb1, ⟨fd1, hd1⟩, hM1⟩ := hp1
  replace hsc := (fb1 _ hscb).trans hsc
  refine g_ist X.1.1 X.1.2.1 hl 5 d_Law_law_571 (Nat.le_of_ble_eq_true rfl) rfl (fun ls hl => ?_)
  refine lv_aload_n X.1.1 X.1.2.1 d_Law_law_573 rfl (gl_at hl rfl) ?_
  refine lv_aload_n X.1.1 X.1.2.1 d_Law_law_574 rfl (gl_at hl rfl) ?_
  refine lv_iload X.1.1 X.1.2.1 d_Law_law_575 (gl_at hl rfl) ?_
  refine lv_iconst (v := nI 1) X.1.1 X.1.2.1 d_Law_law_577 (by decide) ?_
  refine lv_iadd X.1.1 X.1.2.1 d_Law_law_578 ?_
  refine g_top (nI (i + 1)) (nI_add _ _) ?_
  refine g_sld X hX0 hsc (i + 1) (by omega) (by omega) d_Law_law_579 ?_
  refine lv_aload_n X.1.1 X.1.2.1 d_Law_law_580 rfl (gl_at hl rfl) ?_
  refine lv_iload X.1.1 X.1.2.1 d_Law_law_581 (gl_at hl rfl) ?_
  refine lv_iconst (v := nI 2) X.1.1 X.1.2.1 d_Law_law_583 (by decide) ?_
  refine lv_iadd X.1.1 X.1.2.1 d_Law_law_584 ?_
  refine g_top (nI (i + 2)) (nI_add _ _) ?_
  refine g_sld X hX0 hsc (i + 2) (by omega) (by omega) d_Law_law_585 ?_
  refine g_cv (A := (fun p => b ≤ p)) X gWS_good mw_Law_102 kc_Model hd1 hM1 (fun _ _ _ => trivial) gBlind.tt rfl rfl hl.1 (Nat.le_of_ble_eq_true rfl) rfl rfl ⟨by decide, by decide⟩ ⟨hcs.1, hcs.2⟩ d_Law_law_586 (fun _ h => h) hL (fun v2 H2 locs hp2 hL => ?_)
  obtain ⟨z, rfl, hz, ho2, hJ2, hz2, fb2⟩ := hp2
  replace ho1 := va_at.kept ho1 ho2
  replace hsc := (fb2 _ hscb).trans hsc
  have hfr2 : ∀ p : Nat, p < b → H2[p]? = s.heap[p]? := fun p hp => (fb2 p hp).trans ((fb1 p hp).trans (hfr p hp))
  refine g_ist X.1.1 X.1.2.1 hl 6 d_Law_law_589 (Nat.le_of_ble_eq_true rfl) rfl (fun ls hl => ?_)
  refine lv_aload_n X.1.1 X.1.2.1 d_Law_law_591 rfl (gl_at hl rfl) ?_
  obtain ⟨⟨fd2, hd2⟩, hM2⟩ := hJ2.thrown l
  refine g_cv (A := (fun p => b ≤ p)) X gWS_good mw_Law_79 kc_Model hd2 hM2 (fun _ _ _ => trivial) gBlind.tt rfl rfl hl.1 (Nat.le_of_ble_eq_true rfl) rfl rfl ⟨by decide, by decide⟩ ⟨hcs.1, hcs.2⟩ d_Law_law_592 (fun _ h => h.elim) hL (fun v3 H3 locs hp3 hL => ?_)
  obtain ⟨rfl, rfl⟩ := hp3
  refine lv_iload X.1.1 X.1.2.1 d_Law_law_595 (gl_at hl rfl) ?_
  refine gn_eq X.1.1 X.1.2.1 k k (by omega) (by omega) d_Law_law_597 rfl (fun hc597 => ?_) (fun hc597 => ?_)
  · refine lv_iload X.1.1 X.1.2.1 d_Law_law_602 (gl_at hl rfl) ?_
    refine gn_ne0 X.1.1 X.1.2.1 k (by omega) d_Law_law_604 rfl (fun hc604 => ?_) (fun hc604 => ?_)
    · refine lv_goto X.1.1 X.1.2.1 d_Law_law_619 rfl ?_
      exact kont _ _ _ _ hJ2 hsc hfr2 hL (gl_forget (gl_forget hl 5) 6)
    · refine lv_aload_n X.1.1 X.1.2.1 d_Law_law_607 rfl (gl_at hl rfl) ?_
      refine lv_iconst (v := nI 0) X.1.1 X.1.2.1 d_Law_law_608 (by decide) ?_
      refine g_lald X 2 ho1 rfl 0 (by decide) (by decide) d_Law_law_609 ?_
      refine lv_iload X.1.1 X.1.2.1 d_Law_law_610 (gl_at hl rfl) ?_
      refine lv_i2l X.1.1 X.1.2.1 d_Law_law_612 rfl ?_
      rw [hz (by omega)]
      refine g_lcmp0 X.1.1 X.1.2.1 d_Law_law_613 ?_
      refine gn_eq0 X.1.1 X.1.2.1 0 (by omega) d_Law_law_614 rfl (fun hc614 => ?_) (fun hc614 => ?_)
      · refine lv_goto X.1.1 X.1.2.1 d_Law_law_619 rfl ?_
        exact kont _ _ _ _ hJ2 hsc hfr2 hL (gl_forget (gl_forget hl 5) 6)
      · omega
  · omega

set_option maxHeartbeats 4000000 in
set_option maxRecDepth 100000 in
theorem lc_found (l : Launch) (D : va_G) (q : Nat → ClassId) (b z1 z2 : Nat) (F1 F2 : Nat → Int32) {p : Program} {e : Env} {s : State} {m : MethodId} {below : List Frame} {meth : Method} {c : Code} (sc L : Nat) (xs : Nat → Int32) (X : gX p m c code 7 s ([.ref sc] : List Value).toArray R_Law gWS D CL (gY q)) (htr : ∀ e, l.admits e → e.platform.stackTraces = false) (xq : Nat → ClassId) (hE : ∀ U : State, (∀ p : Nat, p < b → U.heap[p]? = s.heap[p]?) → s.WarmedH U.vm → lE b z1 z2 F1 F2 xq U) (hFn : ∀ j, j ≤ 4 → F1 j = nI (fanL j) ∧ F2 j = nI (fanM j)) (hX0 : va_X sc L xs s s.heap) (hLen : L ≤ 2048) (hscb : sc < b) (Q : State → Prop) (i T : Nat) (hi : i + 4 ≤ L) (hTb : T < 1048576) (x0 : Int32) (H : Heap) (hJ : lJ D q b z1 z2 F1 F2 T x0 H) (hsc : H[sc]? = s.heap[sc]?) (hfr : ∀ p : Nat, p < b → H[p]? = s.heap[p]?) (ls : Array Slot) (locs : List Loc) (cells slots : Nat) (hcs : cells + 5 ≤ 601024 ∧ slots + 22 ≤ 7293034) (hL : ∀ x ∈ locs, (fun p => b ≤ p) x.base) (hl : gl ls [some (.ref sc), some (.ref b), some (.ref (b + 559)), some (.ref (b + 588)), some (.int (nI i)), none, none]) (kont : ∀ (x1 : Int32) (H1 : Heap) (locs1 : List Loc) (ls1 : Array Slot), lJ D q b z1 z2 F1 F2 (T + 1) x1 H1 → H1[sc]? = s.heap[sc]? → (∀ p : Nat, p < b → H1[p]? = s.heap[p]?) → (∀ x ∈ locs1, (fun p => b ≤ p) x.base) → gl ls1 [some (.ref sc), some (.ref b), some (.ref (b + 559)), some (.ref (b + 588)), some (.int (nI i)), none, none] → W p l e room_1 s m ([.ref sc] : List Value).toArray below meth c H1 locs1 (cells + 5) (slots + 22) Q (F0 m 1297 ls1 [])) : W p l e room_1 s m ([.ref sc] : List Value).toArray below meth c H locs cells slots Q (F0 m 706 ls []) := by
  refine lv_aload_n X.1.1 X.1.2.1 d_Law_law_706 rfl (gl_at hl rfl) ?_
  refine lv_aload_n X.1.1 X.1.2.1 d_Law_law_707 rfl (gl_at hl rfl) ?_
  refine lv_iload X.1.1 X.1.2.1 d_Law_law_708 (gl_at hl rfl) ?_
  refine lv_iconst (v := nI 1) X.1.1 X.1.2.1 d_Law_law_710 (by decide) ?_
  refine lv_iadd X.1.1 X.1.2.1 d_Law_law_711 ?_
  refine g_top (nI (i + 1)) (nI_add _ _) ?_
  refine g_sld X hX0 hsc (i + 1) (by omega) (by omega) d_Law_law_712 ?_
  obtain ⟨fs0, hb0⟩ := hJ.hall
  refine g_cv (A := (fun p => b ≤ p)) X gWS_good mw_Law_107 kc_Hall hb0 (l_found l D q b z1 z2 F1 F2 T x0 H hJ (xs (i + 1))) (fun _ _ _ => trivial) gBlind.tt rfl rfl hl.1 (Nat.le_of_ble_eq_true rfl) rfl rfl ⟨by decide, by decide⟩ ⟨hcs.1, hcs.2⟩ d_Law_law_713 (fun _ h => h) hL (fun v1 H1 locs hp1 hL => ?_)
  obtain ⟨z, rfl, hz1, fb1, ⟨fd1, hd1⟩, hM1⟩ := hp1
  replace hsc := (fb1 _ hscb).trans hsc
  refine lv_aload_n X.1.1 X.1.2.1 d_Law_law_716 rfl (gl_at hl rfl) ?_
  refine lv_aload_n X.1.1 X.1.2.1 d_Law_law_717 rfl (gl_at hl rfl) ?_
  refine lv_iload X.1.1 X.1.2.1 d_Law_law_718 (gl_at hl rfl) ?_
  refine lv_iconst (v := nI 1) X.1.1 X.1.2.1 d_Law_law_720 (by decide) ?_
  refine lv_iadd X.1.1 X.1.2.1 d_Law_law_721 ?_
  refine g_top (nI (i + 1)) (nI_add _ _) ?_
  refine g_sld X hX0 hsc (i + 1) (by omega) (by omega) d_Law_law_722 ?_
  refine g_cv (A := (fun p => b ≤ p)) X gWS_good mw_Law_110 kc_Model hd1 hM1 (fun _ _ _ => trivial) gBlind.tt rfl rfl hl.1 (Nat.le_of_ble_eq_true rfl) rfl rfl ⟨by decide, by decide⟩ ⟨hcs.1, hcs.2⟩ d_Law_law_723 (fun _ h => h) hL (fun v2 H2 locs hp2 hL => ?_)
  obtain ⟨rfl, ⟨x1, hJ2⟩, hz2, fb2⟩ := hp2
  replace hsc := (fb2 _ hscb).trans hsc
  have hfr2 : ∀ p : Nat, p < b → H2[p]? = s.heap[p]? := fun p hp => (fb2 p hp).trans ((fb1 p hp).trans (hfr p hp))
  refine lv_icmp_eq X.1.1 X.1.2.1 d_Law_law_726 rfl (fun hc726 => ?_) (fun hc726 => ?_)
  · exact kont _ _ _ _ hJ2 hsc hfr2 hL hl
  · exact absurd rfl hc726

set_option maxHeartbeats 4000000 in
set_option maxRecDepth 100000 in
theorem lc_iterate (l : Launch) (D : va_G) (q : Nat → ClassId) (b z1 z2 : Nat) (F1 F2 : Nat → Int32) {p : Program} {e : Env} {s : State} {m : MethodId} {below : List Frame} {meth : Method} {c : Code} (sc L : Nat) (xs : Nat → Int32) (X : gX p m c code 7 s ([.ref sc] : List Value).toArray R_Law gWS D CL (gY q)) (htr : ∀ e, l.admits e → e.platform.stackTraces = false) (xq : Nat → ClassId) (hE : ∀ U : State, (∀ p : Nat, p < b → U.heap[p]? = s.heap[p]?) → s.WarmedH U.vm → lE b z1 z2 F1 F2 xq U) (hFn : ∀ j, j ≤ 4 → F1 j = nI (fanL j) ∧ F2 j = nI (fanM j)) (hX0 : va_X sc L xs s s.heap) (hLen : L ≤ 2048) (hscb : sc < b) (Q : State → Prop) (i T : Nat) (hi : i + 4 ≤ L) (hTb : T < 1048576) (x0 : Int32) (H : Heap) (hJ : lJ D q b z1 z2 F1 F2 T x0 H) (hsc : H[sc]? = s.heap[sc]?) (hfr : ∀ p : Nat, p < b → H[p]? = s.heap[p]?) (ls : Array Slot) (locs : List Loc) (cells slots : Nat) (hcs : cells + 5 ≤ 601024 ∧ slots + 22 ≤ 7293034) (hL : ∀ x ∈ locs, (fun p => b ≤ p) x.base) (hl : gl ls [some (.ref sc), some (.ref b), some (.ref (b + 559)), some (.ref (b + 588)), some (.int (nI i)), none, none]) (kont : ∀ (x1 : Int32) (H1 : Heap) (locs1 : List Loc) (ls1 : Array Slot), lJ D q b z1 z2 F1 F2 (T + 1) x1 H1 → H1[sc]? = s.heap[sc]? → (∀ p : Nat, p < b → H1[p]? = s.heap[p]?) → (∀ x ∈ locs1, (fun p => b ≤ p) x.base) → gl ls1 [some (.ref sc), some (.ref b), some (.ref (b + 559)), some (.ref (b + 588)), some (.int (nI i)), none, none] → W p l e room_1 s m ([.ref sc] : List Value).toArray below meth c H1 locs1 (cells + 5) (slots + 22) Q (F0 m 1297 ls1 [])) : W p l e room_1 s m ([.ref sc] : List Value).toArray below meth c H locs cells slots Q (F0 m 731 ls []) := by
  refine lv_aload_n X.1.1 X.1.2.1 d_Law_law_731 rfl (gl_at hl rfl) ?_
  refine lv_aload_n X.1.1 X.1.2.1 d_Law_law_732 rfl (gl_at hl rfl) ?_
  refine lv_iload X.1.1 X.1.2.1 d_Law_law_733 (gl_at hl rfl) ?_
  refine lv_iconst (v := nI 1) X.1.1 X.1.2.1 d_Law_law_735 (by decide) ?_
  refine lv_iadd X.1.1 X.1.2.1 d_Law_law_736 ?_
  refine g_top (nI (i + 1)) (nI_add _ _) ?_
  refine g_sld X hX0 hsc (i + 1) (by omega) (by omega) d_Law_law_737 ?_
  obtain ⟨fs0, hb0⟩ := hJ.hall
  refine g_cv (A := (fun p => b ≤ p)) X gWS_good mw_Law_111 kc_Hall hb0 (l_iterate l D q b z1 z2 F1 F2 T x0 H hJ (xs (i + 1))) (fun _ _ _ => trivial) gBlind.tt rfl rfl hl.1 (Nat.le_of_ble_eq_true rfl) rfl rfl ⟨by decide, by decide⟩ ⟨hcs.1, hcs.2⟩ d_Law_law_738 (fun _ h => h) hL (fun v1 H1 locs hp1 hL => ?_)
  obtain ⟨z, rfl, hz1, fb1, ⟨fd1, hd1⟩, hM1⟩ := hp1
  replace hsc := (fb1 _ hscb).trans hsc
  refine lv_aload_n X.1.1 X.1.2.1 d_Law_law_741 rfl (gl_at hl rfl) ?_
  refine lv_aload_n X.1.1 X.1.2.1 d_Law_law_742 rfl (gl_at hl rfl) ?_
  refine lv_iload X.1.1 X.1.2.1 d_Law_law_743 (gl_at hl rfl) ?_
  refine lv_iconst (v := nI 1) X.1.1 X.1.2.1 d_Law_law_745 (by decide) ?_
  refine lv_iadd X.1.1 X.1.2.1 d_Law_law_746 ?_
  refine g_top (nI (i + 1)) (nI_add _ _) ?_
  refine g_sld X hX0 hsc (i + 1) (by omega) (by omega) d_Law_law_747 ?_
  refine g_cv (A := (fun p => b ≤ p)) X gWS_good mw_Law_115 kc_Model hd1 hM1 (fun _ _ _ => trivial) gBlind.tt rfl rfl hl.1 (Nat.le_of_ble_eq_true rfl) rfl rfl ⟨by decide, by decide⟩ ⟨hcs.1, hcs.2⟩ d_Law_law_748 (fun _ h => h) hL (fun v2 H2 locs hp2 hL => ?_)
  obtain ⟨rfl, ⟨x1, hJ2⟩, hz2, fb2⟩ := hp2
  replace hsc := (fb2 _ hscb).trans hsc
  have hfr2 : ∀ p : Nat, p < b → H2[p]? = s.heap[p]? := fun p hp => (fb2 p hp).trans ((fb1 p hp).trans (hfr p hp))
  refine lv_icmp_eq X.1.1 X.1.2.1 d_Law_law_751 rfl (fun hc751 => ?_) (fun hc751 => ?_)
  · exact kont _ _ _ _ hJ2 hsc hfr2 hL hl
  · exact absurd rfl hc751

set_option maxHeartbeats 4000000 in
set_option maxRecDepth 100000 in
theorem lc_next (l : Launch) (D : va_G) (q : Nat → ClassId) (b z1 z2 : Nat) (F1 F2 : Nat → Int32) {p : Program} {e : Env} {s : State} {m : MethodId} {below : List Frame} {meth : Method} {c : Code} (sc L : Nat) (xs : Nat → Int32) (X : gX p m c code 7 s ([.ref sc] : List Value).toArray R_Law gWS D CL (gY q)) (htr : ∀ e, l.admits e → e.platform.stackTraces = false) (xq : Nat → ClassId) (hE : ∀ U : State, (∀ p : Nat, p < b → U.heap[p]? = s.heap[p]?) → s.WarmedH U.vm → lE b z1 z2 F1 F2 xq U) (hFn : ∀ j, j ≤ 4 → F1 j = nI (fanL j) ∧ F2 j = nI (fanM j)) (hX0 : va_X sc L xs s s.heap) (hLen : L ≤ 2048) (hscb : sc < b) (Q : State → Prop) (i T : Nat) (hi : i + 4 ≤ L) (hTb : T < 1048576) (x0 : Int32) (H : Heap) (hJ : lJ D q b z1 z2 F1 F2 T x0 H) (hsc : H[sc]? = s.heap[sc]?) (hfr : ∀ p : Nat, p < b → H[p]? = s.heap[p]?) (ls : Array Slot) (locs : List Loc) (cells slots : Nat) (hcs : cells + 5 ≤ 601024 ∧ slots + 22 ≤ 7293034) (hL : ∀ x ∈ locs, (fun p => b ≤ p) x.base) (hl : gl ls [some (.ref sc), some (.ref b), some (.ref (b + 559)), some (.ref (b + 588)), some (.int (nI i)), none, none]) (kont : ∀ (x1 : Int32) (H1 : Heap) (locs1 : List Loc) (ls1 : Array Slot), lJ D q b z1 z2 F1 F2 (T + 1) x1 H1 → H1[sc]? = s.heap[sc]? → (∀ p : Nat, p < b → H1[p]? = s.heap[p]?) → (∀ x ∈ locs1, (fun p => b ≤ p) x.base) → gl ls1 [some (.ref sc), some (.ref b), some (.ref (b + 559)), some (.ref (b + 588)), some (.int (nI i)), none, none] → W p l e room_1 s m ([.ref sc] : List Value).toArray below meth c H1 locs1 (cells + 5) (slots + 22) Q (F0 m 1297 ls1 [])) : W p l e room_1 s m ([.ref sc] : List Value).toArray below meth c H locs cells slots Q (F0 m 756 ls []) := by
  refine lv_aload_n X.1.1 X.1.2.1 d_Law_law_756 rfl (gl_at hl rfl) ?_
  refine lv_aload_n X.1.1 X.1.2.1 d_Law_law_757 rfl (gl_at hl rfl) ?_
  refine lv_iload X.1.1 X.1.2.1 d_Law_law_758 (gl_at hl rfl) ?_
  refine lv_iconst (v := nI 1) X.1.1 X.1.2.1 d_Law_law_760 (by decide) ?_
  refine lv_iadd X.1.1 X.1.2.1 d_Law_law_761 ?_
  refine g_top (nI (i + 1)) (nI_add _ _) ?_
  refine g_sld X hX0 hsc (i + 1) (by omega) (by omega) d_Law_law_762 ?_
  refine lv_aload_n X.1.1 X.1.2.1 d_Law_law_763 rfl (gl_at hl rfl) ?_
  refine g_csW (A := (fun p => b ≤ p)) X gWS_good mw_Law_116 (l_next l D q b z1 z2 F1 F2 T x0 H hJ htr xq (xs (i + 1)) hTb) (fun U h1 h2 => hE U (fun p hp => by rw [h1]; exact hfr p hp) h2) (lE.blind b z1 z2 F1 F2 xq) rfl rfl hl.1 (Nat.le_of_ble_eq_true rfl) rfl rfl ⟨by decide, by decide⟩ ⟨hcs.1, hcs.2⟩ d_Law_law_764 (fun _ h => h) hL (fun v1 H1 locs hp1 hL => ?_)
  obtain ⟨k, G1, hk3, rfl, ho1, hz1, fb1, ⟨fd1, hd1⟩, hM1⟩ := hp1
  replace hsc := (fb1 _ hscb).trans hsc
  refine g_ist X.1.1 X.1.2.1 hl 5 d_Law_law_767 (Nat.le_of_ble_eq_true rfl) rfl (fun ls hl => ?_)
  refine lv_aload_n X.1.1 X.1.2.1 d_Law_law_769 rfl (gl_at hl rfl) ?_
  refine lv_aload_n X.1.1 X.1.2.1 d_Law_law_770 rfl (gl_at hl rfl) ?_
  refine lv_iload X.1.1 X.1.2.1 d_Law_law_771 (gl_at hl rfl) ?_
  refine lv_iconst (v := nI 1) X.1.1 X.1.2.1 d_Law_law_773 (by decide) ?_
  refine lv_iadd X.1.1 X.1.2.1 d_Law_law_774 ?_
  refine g_top (nI (i + 1)) (nI_add _ _) ?_
  refine g_sld X hX0 hsc (i + 1) (by omega) (by omega) d_Law_law_775 ?_
  refine g_cv (A := (fun p => b ≤ p)) X gWS_good mw_Law_118 kc_Model hd1 hM1 (fun _ _ _ => trivial) gBlind.tt rfl rfl hl.1 (Nat.le_of_ble_eq_true rfl) rfl rfl ⟨by decide, by decide⟩ ⟨hcs.1, hcs.2⟩ d_Law_law_776 (fun _ h => h) hL (fun v2 H2 locs hp2 hL => ?_)
  obtain ⟨z, rfl, hz, ho2, hJ2, hz2, fb2⟩ := hp2
  replace ho1 := va_at.kept ho1 ho2
  replace hsc := (fb2 _ hscb).trans hsc
  have hfr2 : ∀ p : Nat, p < b → H2[p]? = s.heap[p]? := fun p hp => (fb2 p hp).trans ((fb1 p hp).trans (hfr p hp))
  refine g_ist X.1.1 X.1.2.1 hl 6 d_Law_law_779 (Nat.le_of_ble_eq_true rfl) rfl (fun ls hl => ?_)
  refine lv_aload_n X.1.1 X.1.2.1 d_Law_law_781 rfl (gl_at hl rfl) ?_
  obtain ⟨⟨fd2, hd2⟩, hM2⟩ := hJ2.thrown l
  refine g_cv (A := (fun p => b ≤ p)) X gWS_good mw_Law_79 kc_Model hd2 hM2 (fun _ _ _ => trivial) gBlind.tt rfl rfl hl.1 (Nat.le_of_ble_eq_true rfl) rfl rfl ⟨by decide, by decide⟩ ⟨hcs.1, hcs.2⟩ d_Law_law_782 (fun _ h => h.elim) hL (fun v3 H3 locs hp3 hL => ?_)
  obtain ⟨rfl, rfl⟩ := hp3
  refine lv_iload X.1.1 X.1.2.1 d_Law_law_785 (gl_at hl rfl) ?_
  refine gn_eq X.1.1 X.1.2.1 k k (by omega) (by omega) d_Law_law_787 rfl (fun hc787 => ?_) (fun hc787 => ?_)
  · refine lv_iload X.1.1 X.1.2.1 d_Law_law_792 (gl_at hl rfl) ?_
    refine gn_ne0 X.1.1 X.1.2.1 k (by omega) d_Law_law_794 rfl (fun hc794 => ?_) (fun hc794 => ?_)
    · refine lv_goto X.1.1 X.1.2.1 d_Law_law_809 rfl ?_
      exact kont _ _ _ _ hJ2 hsc hfr2 hL (gl_forget (gl_forget hl 5) 6)
    · refine lv_aload_n X.1.1 X.1.2.1 d_Law_law_797 rfl (gl_at hl rfl) ?_
      refine lv_iconst (v := nI 0) X.1.1 X.1.2.1 d_Law_law_798 (by decide) ?_
      refine g_lald X 2 ho1 rfl 0 (by decide) (by decide) d_Law_law_799 ?_
      refine lv_iload X.1.1 X.1.2.1 d_Law_law_800 (gl_at hl rfl) ?_
      refine lv_i2l X.1.1 X.1.2.1 d_Law_law_802 rfl ?_
      rw [hz (by omega)]
      refine g_lcmp0 X.1.1 X.1.2.1 d_Law_law_803 ?_
      refine gn_eq0 X.1.1 X.1.2.1 0 (by omega) d_Law_law_804 rfl (fun hc804 => ?_) (fun hc804 => ?_)
      · refine lv_goto X.1.1 X.1.2.1 d_Law_law_809 rfl ?_
        exact kont _ _ _ _ hJ2 hsc hfr2 hL (gl_forget (gl_forget hl 5) 6)
      · omega
  · omega

set_option maxHeartbeats 4000000 in
set_option maxRecDepth 100000 in
theorem lc_drop (l : Launch) (D : va_G) (q : Nat → ClassId) (b z1 z2 : Nat) (F1 F2 : Nat → Int32) {p : Program} {e : Env} {s : State} {m : MethodId} {below : List Frame} {meth : Method} {c : Code} (sc L : Nat) (xs : Nat → Int32) (X : gX p m c code 7 s ([.ref sc] : List Value).toArray R_Law gWS D CL (gY q)) (htr : ∀ e, l.admits e → e.platform.stackTraces = false) (xq : Nat → ClassId) (hE : ∀ U : State, (∀ p : Nat, p < b → U.heap[p]? = s.heap[p]?) → s.WarmedH U.vm → lE b z1 z2 F1 F2 xq U) (hFn : ∀ j, j ≤ 4 → F1 j = nI (fanL j) ∧ F2 j = nI (fanM j)) (hX0 : va_X sc L xs s s.heap) (hLen : L ≤ 2048) (hscb : sc < b) (Q : State → Prop) (i T : Nat) (hi : i + 4 ≤ L) (hTb : T < 1048576) (x0 : Int32) (H : Heap) (hJ : lJ D q b z1 z2 F1 F2 T x0 H) (hsc : H[sc]? = s.heap[sc]?) (hfr : ∀ p : Nat, p < b → H[p]? = s.heap[p]?) (ls : Array Slot) (locs : List Loc) (cells slots : Nat) (hcs : cells + 5 ≤ 601024 ∧ slots + 22 ≤ 7293034) (hL : ∀ x ∈ locs, (fun p => b ≤ p) x.base) (hl : gl ls [some (.ref sc), some (.ref b), some (.ref (b + 559)), some (.ref (b + 588)), some (.int (nI i)), none, none]) (kont : ∀ (x1 : Int32) (H1 : Heap) (locs1 : List Loc) (ls1 : Array Slot), lJ D q b z1 z2 F1 F2 (T + 1) x1 H1 → H1[sc]? = s.heap[sc]? → (∀ p : Nat, p < b → H1[p]? = s.heap[p]?) → (∀ x ∈ locs1, (fun p => b ≤ p) x.base) → gl ls1 [some (.ref sc), some (.ref b), some (.ref (b + 559)), some (.ref (b + 588)), some (.int (nI i)), none, none] → W p l e room_1 s m ([.ref sc] : List Value).toArray below meth c H1 locs1 (cells + 5) (slots + 22) Q (F0 m 1297 ls1 [])) : W p l e room_1 s m ([.ref sc] : List Value).toArray below meth c H locs cells slots Q (F0 m 812 ls []) := by
  refine lv_aload_n X.1.1 X.1.2.1 d_Law_law_812 rfl (gl_at hl rfl) ?_
  refine lv_aload_n X.1.1 X.1.2.1 d_Law_law_813 rfl (gl_at hl rfl) ?_
  refine lv_iload X.1.1 X.1.2.1 d_Law_law_814 (gl_at hl rfl) ?_
  refine lv_iconst (v := nI 1) X.1.1 X.1.2.1 d_Law_law_816 (by decide) ?_
  refine lv_iadd X.1.1 X.1.2.1 d_Law_law_817 ?_
  refine g_top (nI (i + 1)) (nI_add _ _) ?_
  refine g_sld X hX0 hsc (i + 1) (by omega) (by omega) d_Law_law_818 ?_
  refine lv_aload_n X.1.1 X.1.2.1 d_Law_law_819 rfl (gl_at hl rfl) ?_
  refine g_csW (A := (fun p => b ≤ p)) X gWS_good mw_Law_119 (l_drop l D q b z1 z2 F1 F2 T x0 H hJ htr xq (xs (i + 1)) hTb) (fun U h1 h2 => hE U (fun p hp => by rw [h1]; exact hfr p hp) h2) (lE.blind b z1 z2 F1 F2 xq) rfl rfl hl.1 (Nat.le_of_ble_eq_true rfl) rfl rfl ⟨by decide, by decide⟩ ⟨hcs.1, hcs.2⟩ d_Law_law_820 (fun _ h => h) hL (fun v1 H1 locs hp1 hL => ?_)
  obtain ⟨k, G1, hk3, rfl, ho1, hz1, fb1, ⟨fd1, hd1⟩, hM1⟩ := hp1
  replace hsc := (fb1 _ hscb).trans hsc
  refine g_ist X.1.1 X.1.2.1 hl 5 d_Law_law_823 (Nat.le_of_ble_eq_true rfl) rfl (fun ls hl => ?_)
  refine lv_aload_n X.1.1 X.1.2.1 d_Law_law_825 rfl (gl_at hl rfl) ?_
  refine lv_aload_n X.1.1 X.1.2.1 d_Law_law_826 rfl (gl_at hl rfl) ?_
  refine lv_iload X.1.1 X.1.2.1 d_Law_law_827 (gl_at hl rfl) ?_
  refine lv_iconst (v := nI 1) X.1.1 X.1.2.1 d_Law_law_829 (by decide) ?_
  refine lv_iadd X.1.1 X.1.2.1 d_Law_law_830 ?_
  refine g_top (nI (i + 1)) (nI_add _ _) ?_
  refine g_sld X hX0 hsc (i + 1) (by omega) (by omega) d_Law_law_831 ?_
  refine g_cv (A := (fun p => b ≤ p)) X gWS_good mw_Law_121 kc_Model hd1 hM1 (fun _ _ _ => trivial) gBlind.tt rfl rfl hl.1 (Nat.le_of_ble_eq_true rfl) rfl rfl ⟨by decide, by decide⟩ ⟨hcs.1, hcs.2⟩ d_Law_law_832 (fun _ h => h) hL (fun v2 H2 locs hp2 hL => ?_)
  obtain ⟨z, rfl, hz, ho2, hJ2, hz2, fb2⟩ := hp2
  replace ho1 := va_at.kept ho1 ho2
  replace hsc := (fb2 _ hscb).trans hsc
  have hfr2 : ∀ p : Nat, p < b → H2[p]? = s.heap[p]? := fun p hp => (fb2 p hp).trans ((fb1 p hp).trans (hfr p hp))
  refine g_ist X.1.1 X.1.2.1 hl 6 d_Law_law_835 (Nat.le_of_ble_eq_true rfl) rfl (fun ls hl => ?_)
  refine lv_aload_n X.1.1 X.1.2.1 d_Law_law_837 rfl (gl_at hl rfl) ?_
  obtain ⟨⟨fd2, hd2⟩, hM2⟩ := hJ2.thrown l
  refine g_cv (A := (fun p => b ≤ p)) X gWS_good mw_Law_79 kc_Model hd2 hM2 (fun _ _ _ => trivial) gBlind.tt rfl rfl hl.1 (Nat.le_of_ble_eq_true rfl) rfl rfl ⟨by decide, by decide⟩ ⟨hcs.1, hcs.2⟩ d_Law_law_838 (fun _ h => h.elim) hL (fun v3 H3 locs hp3 hL => ?_)
  obtain ⟨rfl, rfl⟩ := hp3
  refine lv_iload X.1.1 X.1.2.1 d_Law_law_841 (gl_at hl rfl) ?_
  refine gn_eq X.1.1 X.1.2.1 k k (by omega) (by omega) d_Law_law_843 rfl (fun hc843 => ?_) (fun hc843 => ?_)
  · refine lv_iload X.1.1 X.1.2.1 d_Law_law_848 (gl_at hl rfl) ?_
    refine gn_ne0 X.1.1 X.1.2.1 k (by omega) d_Law_law_850 rfl (fun hc850 => ?_) (fun hc850 => ?_)
    · refine lv_goto X.1.1 X.1.2.1 d_Law_law_865 rfl ?_
      exact kont _ _ _ _ hJ2 hsc hfr2 hL (gl_forget (gl_forget hl 5) 6)
    · refine lv_aload_n X.1.1 X.1.2.1 d_Law_law_853 rfl (gl_at hl rfl) ?_
      refine lv_iconst (v := nI 0) X.1.1 X.1.2.1 d_Law_law_854 (by decide) ?_
      refine g_lald X 2 ho1 rfl 0 (by decide) (by decide) d_Law_law_855 ?_
      refine lv_iload X.1.1 X.1.2.1 d_Law_law_856 (gl_at hl rfl) ?_
      refine lv_i2l X.1.1 X.1.2.1 d_Law_law_858 rfl ?_
      rw [hz (by omega)]
      refine g_lcmp0 X.1.1 X.1.2.1 d_Law_law_859 ?_
      refine gn_eq0 X.1.1 X.1.2.1 0 (by omega) d_Law_law_860 rfl (fun hc860 => ?_) (fun hc860 => ?_)
      · refine lv_goto X.1.1 X.1.2.1 d_Law_law_865 rfl ?_
        exact kont _ _ _ _ hJ2 hsc hfr2 hL (gl_forget (gl_forget hl 5) 6)
      · omega
  · omega

set_option maxHeartbeats 4000000 in
set_option maxRecDepth 100000 in
theorem lc_match (l : Launch) (D : va_G) (q : Nat → ClassId) (b z1 z2 : Nat) (F1 F2 : Nat → Int32) {p : Program} {e : Env} {s : State} {m : MethodId} {below : List Frame} {meth : Method} {c : Code} (sc L : Nat) (xs : Nat → Int32) (X : gX p m c code 7 s ([.ref sc] : List Value).toArray R_Law gWS D CL (gY q)) (htr : ∀ e, l.admits e → e.platform.stackTraces = false) (xq : Nat → ClassId) (hE : ∀ U : State, (∀ p : Nat, p < b → U.heap[p]? = s.heap[p]?) → s.WarmedH U.vm → lE b z1 z2 F1 F2 xq U) (hFn : ∀ j, j ≤ 4 → F1 j = nI (fanL j) ∧ F2 j = nI (fanM j)) (hX0 : va_X sc L xs s s.heap) (hLen : L ≤ 2048) (hscb : sc < b) (Q : State → Prop) (i T : Nat) (hi : i + 4 ≤ L) (hTb : T < 1048576) (x0 : Int32) (H : Heap) (hJ : lJ D q b z1 z2 F1 F2 T x0 H) (hsc : H[sc]? = s.heap[sc]?) (hfr : ∀ p : Nat, p < b → H[p]? = s.heap[p]?) (ls : Array Slot) (locs : List Loc) (cells slots : Nat) (hcs : cells + 5 ≤ 601024 ∧ slots + 22 ≤ 7293034) (hL : ∀ x ∈ locs, (fun p => b ≤ p) x.base) (hl : gl ls [some (.ref sc), some (.ref b), some (.ref (b + 559)), some (.ref (b + 588)), some (.int (nI i)), none, none]) (kont : ∀ (x1 : Int32) (H1 : Heap) (locs1 : List Loc) (ls1 : Array Slot), lJ D q b z1 z2 F1 F2 (T + 1) x1 H1 → H1[sc]? = s.heap[sc]? → (∀ p : Nat, p < b → H1[p]? = s.heap[p]?) → (∀ x ∈ locs1, (fun p => b ≤ p) x.base) → gl ls1 [some (.ref sc), some (.ref b), some (.ref (b + 559)), some (.ref (b + 588)), some (.int (nI i)), none, none] → W p l e room_1 s m ([.ref sc] : List Value).toArray below meth c H1 locs1 (cells + 5) (slots + 22) Q (F0 m 1297 ls1 [])) : W p l e room_1 s m ([.ref sc] : List Value).toArray below meth c H locs cells slots Q (F0 m 868 ls []) := by
  refine lv_aload_n X.1.1 X.1.2.1 d_Law_law_868 rfl (gl_at hl rfl) ?_
  refine lv_aload_n X.1.1 X.1.2.1 d_Law_law_869 rfl (gl_at hl rfl) ?_
  refine lv_iload X.1.1 X.1.2.1 d_Law_law_870 (gl_at hl rfl) ?_
  refine lv_iconst (v := nI 1) X.1.1 X.1.2.1 d_Law_law_872 (by decide) ?_
  refine lv_iadd X.1.1 X.1.2.1 d_Law_law_873 ?_
  refine g_top (nI (i + 1)) (nI_add _ _) ?_
  refine g_sld X hX0 hsc (i + 1) (by omega) (by omega) d_Law_law_874 ?_
  refine lv_aload_n X.1.1 X.1.2.1 d_Law_law_875 rfl (gl_at hl rfl) ?_
  refine lv_iload X.1.1 X.1.2.1 d_Law_law_876 (gl_at hl rfl) ?_
  refine lv_iconst (v := nI 2) X.1.1 X.1.2.1 d_Law_law_878 (by decide) ?_
  refine lv_iadd X.1.1 X.1.2.1 d_Law_law_879 ?_
  refine g_top (nI (i + 2)) (nI_add _ _) ?_
  refine g_sld X hX0 hsc (i + 2) (by omega) (by omega) d_Law_law_880 ?_
  refine lv_aload_n X.1.1 X.1.2.1 d_Law_law_881 rfl (gl_at hl rfl) ?_
  refine g_csW (A := (fun p => b ≤ p)) X gWS_good mw_Law_122 (l_match l D q b z1 z2 F1 F2 T x0 H hJ htr xq (xs (i + 1)) (xs (i + 2))) (fun U h1 h2 => hE U (fun p hp => by rw [h1]; exact hfr p hp) h2) (lE.blind b z1 z2 F1 F2 xq) rfl rfl hl.1 (Nat.le_of_ble_eq_true rfl) rfl rfl ⟨by decide, by decide⟩ ⟨hcs.1, hcs.2⟩ d_Law_law_882 (fun _ h => h) hL (fun v1 H1 locs hp1 hL => ?_)
  obtain ⟨k, G1, hk3, rfl, ho1, hz1, fb1, ⟨fd1, hd1⟩, hM1⟩ := hp1
  replace hsc := (fb1 _ hscb).trans hsc
  refine g_ist X.1.1 X.1.2.1 hl 5 d_Law_law_885 (Nat.le_of_ble_eq_true rfl) rfl (fun ls hl => ?_)
  refine lv_aload_n X.1.1 X.1.2.1 d_Law_law_887 rfl (gl_at hl rfl) ?_
  refine lv_aload_n X.1.1 X.1.2.1 d_Law_law_888 rfl (gl_at hl rfl) ?_
  refine lv_iload X.1.1 X.1.2.1 d_Law_law_889 (gl_at hl rfl) ?_
  refine lv_iconst (v := nI 1) X.1.1 X.1.2.1 d_Law_law_891 (by decide) ?_
  refine lv_iadd X.1.1 X.1.2.1 d_Law_law_892 ?_
  refine g_top (nI (i + 1)) (nI_add _ _) ?_
  refine g_sld X hX0 hsc (i + 1) (by omega) (by omega) d_Law_law_893 ?_
  refine lv_aload_n X.1.1 X.1.2.1 d_Law_law_894 rfl (gl_at hl rfl) ?_
  refine lv_iload X.1.1 X.1.2.1 d_Law_law_895 (gl_at hl rfl) ?_
  refine lv_iconst (v := nI 2) X.1.1 X.1.2.1 d_Law_law_897 (by decide) ?_
  refine lv_iadd X.1.1 X.1.2.1 d_Law_law_898 ?_
  refine g_top (nI (i + 2)) (nI_add _ _) ?_
  refine g_sld X hX0 hsc (i + 2) (by omega) (by omega) d_Law_law_899 ?_
  refine g_cv (A := (fun p => b ≤ p)) X gWS_good mw_Law_124 kc_Model hd1 hM1 (fun _ _ _ => trivial) gBlind.tt rfl rfl hl.1 (Nat.le_of_ble_eq_true rfl) rfl rfl ⟨by decide, by decide⟩ ⟨hcs.1, hcs.2⟩ d_Law_law_900 (fun _ h => h) hL (fun v2 H2 locs hp2 hL => ?_)
  obtain ⟨z, rfl, hz, ho2, hJ2, hz2, fb2⟩ := hp2
  replace ho1 := va_at.kept ho1 ho2
  replace hsc := (fb2 _ hscb).trans hsc
  have hfr2 : ∀ p : Nat, p < b → H2[p]? = s.heap[p]? := fun p hp => (fb2 p hp).trans ((fb1 p hp).trans (hfr p hp))
  refine g_ist X.1.1 X.1.2.1 hl 6 d_Law_law_903 (Nat.le_of_ble_eq_true rfl) rfl (fun ls hl => ?_)
  refine lv_aload_n X.1.1 X.1.2.1 d_Law_law_905 rfl (gl_at hl rfl) ?_
  obtain ⟨⟨fd2, hd2⟩, hM2⟩ := hJ2.thrown l
  refine g_cv (A := (fun p => b ≤ p)) X gWS_good mw_Law_79 kc_Model hd2 hM2 (fun _ _ _ => trivial) gBlind.tt rfl rfl hl.1 (Nat.le_of_ble_eq_true rfl) rfl rfl ⟨by decide, by decide⟩ ⟨hcs.1, hcs.2⟩ d_Law_law_906 (fun _ h => h.elim) hL (fun v3 H3 locs hp3 hL => ?_)
  obtain ⟨rfl, rfl⟩ := hp3
  refine lv_iload X.1.1 X.1.2.1 d_Law_law_909 (gl_at hl rfl) ?_
  refine gn_eq X.1.1 X.1.2.1 k k (by omega) (by omega) d_Law_law_911 rfl (fun hc911 => ?_) (fun hc911 => ?_)
  · refine lv_iload X.1.1 X.1.2.1 d_Law_law_916 (gl_at hl rfl) ?_
    refine gn_ne0 X.1.1 X.1.2.1 k (by omega) d_Law_law_918 rfl (fun hc918 => ?_) (fun hc918 => ?_)
    · refine lv_goto X.1.1 X.1.2.1 d_Law_law_933 rfl ?_
      exact kont _ _ _ _ hJ2 hsc hfr2 hL (gl_forget (gl_forget hl 5) 6)
    · refine lv_aload_n X.1.1 X.1.2.1 d_Law_law_921 rfl (gl_at hl rfl) ?_
      refine lv_iconst (v := nI 0) X.1.1 X.1.2.1 d_Law_law_922 (by decide) ?_
      refine g_lald X 2 ho1 rfl 0 (by decide) (by decide) d_Law_law_923 ?_
      refine lv_iload X.1.1 X.1.2.1 d_Law_law_924 (gl_at hl rfl) ?_
      refine lv_i2l X.1.1 X.1.2.1 d_Law_law_926 rfl ?_
      rw [hz (by omega)]
      refine g_lcmp0 X.1.1 X.1.2.1 d_Law_law_927 ?_
      refine gn_eq0 X.1.1 X.1.2.1 0 (by omega) d_Law_law_928 rfl (fun hc928 => ?_) (fun hc928 => ?_)
      · refine lv_goto X.1.1 X.1.2.1 d_Law_law_933 rfl ?_
        exact kont _ _ _ _ hJ2 hsc hfr2 hL (gl_forget (gl_forget hl 5) 6)
      · omega
  · omega

set_option maxHeartbeats 4000000 in
set_option maxRecDepth 100000 in
theorem lc_edges (l : Launch) (D : va_G) (q : Nat → ClassId) (b z1 z2 : Nat) (F1 F2 : Nat → Int32) {p : Program} {e : Env} {s : State} {m : MethodId} {below : List Frame} {meth : Method} {c : Code} (sc L : Nat) (xs : Nat → Int32) (X : gX p m c code 7 s ([.ref sc] : List Value).toArray R_Law gWS D CL (gY q)) (htr : ∀ e, l.admits e → e.platform.stackTraces = false) (xq : Nat → ClassId) (hE : ∀ U : State, (∀ p : Nat, p < b → U.heap[p]? = s.heap[p]?) → s.WarmedH U.vm → lE b z1 z2 F1 F2 xq U) (hFn : ∀ j, j ≤ 4 → F1 j = nI (fanL j) ∧ F2 j = nI (fanM j)) (hX0 : va_X sc L xs s s.heap) (hLen : L ≤ 2048) (hscb : sc < b) (Q : State → Prop) (i T : Nat) (hi : i + 4 ≤ L) (hTb : T < 1048576) (x0 : Int32) (H : Heap) (hJ : lJ D q b z1 z2 F1 F2 T x0 H) (hsc : H[sc]? = s.heap[sc]?) (hfr : ∀ p : Nat, p < b → H[p]? = s.heap[p]?) (ls : Array Slot) (locs : List Loc) (cells slots : Nat) (hcs : cells + 5 ≤ 601024 ∧ slots + 22 ≤ 7293034) (hL : ∀ x ∈ locs, (fun p => b ≤ p) x.base) (hl : gl ls [some (.ref sc), some (.ref b), some (.ref (b + 559)), some (.ref (b + 588)), some (.int (nI i)), none, none]) (kont : ∀ (x1 : Int32) (H1 : Heap) (locs1 : List Loc) (ls1 : Array Slot), lJ D q b z1 z2 F1 F2 (T + 1) x1 H1 → H1[sc]? = s.heap[sc]? → (∀ p : Nat, p < b → H1[p]? = s.heap[p]?) → (∀ x ∈ locs1, (fun p => b ≤ p) x.base) → gl ls1 [some (.ref sc), some (.ref b), some (.ref (b + 559)), some (.ref (b + 588)), some (.int (nI i)), none, none] → W p l e room_1 s m ([.ref sc] : List Value).toArray below meth c H1 locs1 (cells + 5) (slots + 22) Q (F0 m 1297 ls1 [])) : W p l e room_1 s m ([.ref sc] : List Value).toArray below meth c H locs cells slots Q (F0 m 936 ls []) := by
  refine lv_aload_n X.1.1 X.1.2.1 d_Law_law_936 rfl (gl_at hl rfl) ?_
  refine lv_aload_n X.1.1 X.1.2.1 d_Law_law_937 rfl (gl_at hl rfl) ?_
  refine lv_iload X.1.1 X.1.2.1 d_Law_law_938 (gl_at hl rfl) ?_
  refine lv_iconst (v := nI 1) X.1.1 X.1.2.1 d_Law_law_940 (by decide) ?_
  refine lv_iadd X.1.1 X.1.2.1 d_Law_law_941 ?_
  refine g_top (nI (i + 1)) (nI_add _ _) ?_
  refine g_sld X hX0 hsc (i + 1) (by omega) (by omega) d_Law_law_942 ?_
  refine lv_aload_n X.1.1 X.1.2.1 d_Law_law_943 rfl (gl_at hl rfl) ?_
  refine g_csW (A := (fun p => b ≤ p)) X gWS_good mw_Law_125 (l_edges l D q b z1 z2 F1 F2 T x0 H hJ htr xq (xs (i + 1)) hFn) (fun U h1 h2 => hE U (fun p hp => by rw [h1]; exact hfr p hp) h2) (lE.blind b z1 z2 F1 F2 xq) rfl rfl hl.1 (Nat.le_of_ble_eq_true rfl) rfl rfl ⟨by decide, by decide⟩ ⟨hcs.1, hcs.2⟩ d_Law_law_944 (fun _ h => h) hL (fun v1 H1 locs hp1 hL => ?_)
  obtain ⟨k, G1, hk3, rfl, ho1, hz1, fb1, ⟨fd1, hd1⟩, hM1⟩ := hp1
  replace hsc := (fb1 _ hscb).trans hsc
  refine g_ist X.1.1 X.1.2.1 hl 5 d_Law_law_947 (Nat.le_of_ble_eq_true rfl) rfl (fun ls hl => ?_)
  refine lv_aload_n X.1.1 X.1.2.1 d_Law_law_949 rfl (gl_at hl rfl) ?_
  refine lv_aload_n X.1.1 X.1.2.1 d_Law_law_950 rfl (gl_at hl rfl) ?_
  refine lv_iload X.1.1 X.1.2.1 d_Law_law_951 (gl_at hl rfl) ?_
  refine lv_iconst (v := nI 1) X.1.1 X.1.2.1 d_Law_law_953 (by decide) ?_
  refine lv_iadd X.1.1 X.1.2.1 d_Law_law_954 ?_
  refine g_top (nI (i + 1)) (nI_add _ _) ?_
  refine g_sld X hX0 hsc (i + 1) (by omega) (by omega) d_Law_law_955 ?_
  refine g_cv (A := (fun p => b ≤ p)) X gWS_good mw_Law_127 kc_Model hd1 hM1 (fun _ _ _ => trivial) gBlind.tt rfl rfl hl.1 (Nat.le_of_ble_eq_true rfl) rfl rfl ⟨by decide, by decide⟩ ⟨hcs.1, hcs.2⟩ d_Law_law_956 (fun _ h => h) hL (fun v2 H2 locs hp2 hL => ?_)
  obtain ⟨z, rfl, hz, ho2, hJ2, hz2, fb2⟩ := hp2
  replace ho1 := va_at.kept ho1 ho2
  replace hsc := (fb2 _ hscb).trans hsc
  have hfr2 : ∀ p : Nat, p < b → H2[p]? = s.heap[p]? := fun p hp => (fb2 p hp).trans ((fb1 p hp).trans (hfr p hp))
  refine g_ist X.1.1 X.1.2.1 hl 6 d_Law_law_959 (Nat.le_of_ble_eq_true rfl) rfl (fun ls hl => ?_)
  refine lv_aload_n X.1.1 X.1.2.1 d_Law_law_961 rfl (gl_at hl rfl) ?_
  obtain ⟨⟨fd2, hd2⟩, hM2⟩ := hJ2.thrown l
  refine g_cv (A := (fun p => b ≤ p)) X gWS_good mw_Law_79 kc_Model hd2 hM2 (fun _ _ _ => trivial) gBlind.tt rfl rfl hl.1 (Nat.le_of_ble_eq_true rfl) rfl rfl ⟨by decide, by decide⟩ ⟨hcs.1, hcs.2⟩ d_Law_law_962 (fun _ h => h.elim) hL (fun v3 H3 locs hp3 hL => ?_)
  obtain ⟨rfl, rfl⟩ := hp3
  refine lv_iload X.1.1 X.1.2.1 d_Law_law_965 (gl_at hl rfl) ?_
  refine gn_eq X.1.1 X.1.2.1 k k (by omega) (by omega) d_Law_law_967 rfl (fun hc967 => ?_) (fun hc967 => ?_)
  · refine lv_iload X.1.1 X.1.2.1 d_Law_law_972 (gl_at hl rfl) ?_
    refine gn_ne0 X.1.1 X.1.2.1 k (by omega) d_Law_law_974 rfl (fun hc974 => ?_) (fun hc974 => ?_)
    · refine lv_goto X.1.1 X.1.2.1 d_Law_law_989 rfl ?_
      exact kont _ _ _ _ hJ2 hsc hfr2 hL (gl_forget (gl_forget hl 5) 6)
    · refine lv_aload_n X.1.1 X.1.2.1 d_Law_law_977 rfl (gl_at hl rfl) ?_
      refine lv_iconst (v := nI 0) X.1.1 X.1.2.1 d_Law_law_978 (by decide) ?_
      refine g_lald X 2 ho1 rfl 0 (by decide) (by decide) d_Law_law_979 ?_
      refine lv_iload X.1.1 X.1.2.1 d_Law_law_980 (gl_at hl rfl) ?_
      refine lv_i2l X.1.1 X.1.2.1 d_Law_law_982 rfl ?_
      rw [hz (by omega)]
      refine g_lcmp0 X.1.1 X.1.2.1 d_Law_law_983 ?_
      refine gn_eq0 X.1.1 X.1.2.1 0 (by omega) d_Law_law_984 rfl (fun hc984 => ?_) (fun hc984 => ?_)
      · refine lv_goto X.1.1 X.1.2.1 d_Law_law_989 rfl ?_
        exact kont _ _ _ _ hJ2 hsc hfr2 hL (gl_forget (gl_forget hl 5) 6)
      · omega
  · omega

set_option maxHeartbeats 4000000 in
set_option maxRecDepth 100000 in
theorem lc_freeze (l : Launch) (D : va_G) (q : Nat → ClassId) (b z1 z2 : Nat) (F1 F2 : Nat → Int32) {p : Program} {e : Env} {s : State} {m : MethodId} {below : List Frame} {meth : Method} {c : Code} (sc L : Nat) (xs : Nat → Int32) (X : gX p m c code 7 s ([.ref sc] : List Value).toArray R_Law gWS D CL (gY q)) (htr : ∀ e, l.admits e → e.platform.stackTraces = false) (xq : Nat → ClassId) (hE : ∀ U : State, (∀ p : Nat, p < b → U.heap[p]? = s.heap[p]?) → s.WarmedH U.vm → lE b z1 z2 F1 F2 xq U) (hFn : ∀ j, j ≤ 4 → F1 j = nI (fanL j) ∧ F2 j = nI (fanM j)) (hX0 : va_X sc L xs s s.heap) (hLen : L ≤ 2048) (hscb : sc < b) (Q : State → Prop) (i T : Nat) (hi : i + 4 ≤ L) (hTb : T < 1048576) (x0 : Int32) (H : Heap) (hJ : lJ D q b z1 z2 F1 F2 T x0 H) (hsc : H[sc]? = s.heap[sc]?) (hfr : ∀ p : Nat, p < b → H[p]? = s.heap[p]?) (ls : Array Slot) (locs : List Loc) (cells slots : Nat) (hcs : cells + 5 ≤ 601024 ∧ slots + 22 ≤ 7293034) (hL : ∀ x ∈ locs, (fun p => b ≤ p) x.base) (hl : gl ls [some (.ref sc), some (.ref b), some (.ref (b + 559)), some (.ref (b + 588)), some (.int (nI i)), none, none]) (kont : ∀ (x1 : Int32) (H1 : Heap) (locs1 : List Loc) (ls1 : Array Slot), lJ D q b z1 z2 F1 F2 (T + 1) x1 H1 → H1[sc]? = s.heap[sc]? → (∀ p : Nat, p < b → H1[p]? = s.heap[p]?) → (∀ x ∈ locs1, (fun p => b ≤ p) x.base) → gl ls1 [some (.ref sc), some (.ref b), some (.ref (b + 559)), some (.ref (b + 588)), some (.int (nI i)), none, none] → W p l e room_1 s m ([.ref sc] : List Value).toArray below meth c H1 locs1 (cells + 5) (slots + 22) Q (F0 m 1297 ls1 [])) : W p l e room_1 s m ([.ref sc] : List Value).toArray below meth c H locs cells slots Q (F0 m 992 ls []) := by
  refine lv_aload_n X.1.1 X.1.2.1 d_Law_law_992 rfl (gl_at hl rfl) ?_
  refine lv_aload_n X.1.1 X.1.2.1 d_Law_law_993 rfl (gl_at hl rfl) ?_
  refine lv_iload X.1.1 X.1.2.1 d_Law_law_994 (gl_at hl rfl) ?_
  refine lv_iconst (v := nI 1) X.1.1 X.1.2.1 d_Law_law_996 (by decide) ?_
  refine lv_iadd X.1.1 X.1.2.1 d_Law_law_997 ?_
  refine g_top (nI (i + 1)) (nI_add _ _) ?_
  refine g_sld X hX0 hsc (i + 1) (by omega) (by omega) d_Law_law_998 ?_
  refine lv_aload_n X.1.1 X.1.2.1 d_Law_law_999 rfl (gl_at hl rfl) ?_
  refine g_csW (A := (fun p => b ≤ p)) X gWS_good mw_Law_128 (l_freeze l D q b z1 z2 F1 F2 T x0 H hJ htr xq (xs (i + 1))) (fun U h1 h2 => hE U (fun p hp => by rw [h1]; exact hfr p hp) h2) (lE.blind b z1 z2 F1 F2 xq) rfl rfl hl.1 (Nat.le_of_ble_eq_true rfl) rfl rfl ⟨by decide, by decide⟩ ⟨hcs.1, hcs.2⟩ d_Law_law_1000 (fun _ h => h) hL (fun v1 H1 locs hp1 hL => ?_)
  obtain ⟨k, G1, hk3, rfl, ho1, hz1, fb1, ⟨fd1, hd1⟩, hM1⟩ := hp1
  replace hsc := (fb1 _ hscb).trans hsc
  refine g_ist X.1.1 X.1.2.1 hl 5 d_Law_law_1003 (Nat.le_of_ble_eq_true rfl) rfl (fun ls hl => ?_)
  refine lv_aload_n X.1.1 X.1.2.1 d_Law_law_1005 rfl (gl_at hl rfl) ?_
  refine lv_aload_n X.1.1 X.1.2.1 d_Law_law_1006 rfl (gl_at hl rfl) ?_
  refine lv_iload X.1.1 X.1.2.1 d_Law_law_1007 (gl_at hl rfl) ?_
  refine lv_iconst (v := nI 1) X.1.1 X.1.2.1 d_Law_law_1009 (by decide) ?_
  refine lv_iadd X.1.1 X.1.2.1 d_Law_law_1010 ?_
  refine g_top (nI (i + 1)) (nI_add _ _) ?_
  refine g_sld X hX0 hsc (i + 1) (by omega) (by omega) d_Law_law_1011 ?_
  refine g_cv (A := (fun p => b ≤ p)) X gWS_good mw_Law_130 kc_Model hd1 hM1 (fun _ _ _ => trivial) gBlind.tt rfl rfl hl.1 (Nat.le_of_ble_eq_true rfl) rfl rfl ⟨by decide, by decide⟩ ⟨hcs.1, hcs.2⟩ d_Law_law_1012 (fun _ h => h) hL (fun v2 H2 locs hp2 hL => ?_)
  obtain ⟨z, rfl, hz, ho2, hJ2, hz2, fb2⟩ := hp2
  replace ho1 := va_at.kept ho1 ho2
  replace hsc := (fb2 _ hscb).trans hsc
  have hfr2 : ∀ p : Nat, p < b → H2[p]? = s.heap[p]? := fun p hp => (fb2 p hp).trans ((fb1 p hp).trans (hfr p hp))
  refine g_ist X.1.1 X.1.2.1 hl 6 d_Law_law_1015 (Nat.le_of_ble_eq_true rfl) rfl (fun ls hl => ?_)
  refine lv_aload_n X.1.1 X.1.2.1 d_Law_law_1017 rfl (gl_at hl rfl) ?_
  obtain ⟨⟨fd2, hd2⟩, hM2⟩ := hJ2.thrown l
  refine g_cv (A := (fun p => b ≤ p)) X gWS_good mw_Law_79 kc_Model hd2 hM2 (fun _ _ _ => trivial) gBlind.tt rfl rfl hl.1 (Nat.le_of_ble_eq_true rfl) rfl rfl ⟨by decide, by decide⟩ ⟨hcs.1, hcs.2⟩ d_Law_law_1018 (fun _ h => h.elim) hL (fun v3 H3 locs hp3 hL => ?_)
  obtain ⟨rfl, rfl⟩ := hp3
  refine lv_iload X.1.1 X.1.2.1 d_Law_law_1021 (gl_at hl rfl) ?_
  refine gn_eq X.1.1 X.1.2.1 k k (by omega) (by omega) d_Law_law_1023 rfl (fun hc1023 => ?_) (fun hc1023 => ?_)
  · refine lv_iload X.1.1 X.1.2.1 d_Law_law_1028 (gl_at hl rfl) ?_
    refine gn_ne0 X.1.1 X.1.2.1 k (by omega) d_Law_law_1030 rfl (fun hc1030 => ?_) (fun hc1030 => ?_)
    · refine lv_goto X.1.1 X.1.2.1 d_Law_law_1045 rfl ?_
      exact kont _ _ _ _ hJ2 hsc hfr2 hL (gl_forget (gl_forget hl 5) 6)
    · refine lv_aload_n X.1.1 X.1.2.1 d_Law_law_1033 rfl (gl_at hl rfl) ?_
      refine lv_iconst (v := nI 0) X.1.1 X.1.2.1 d_Law_law_1034 (by decide) ?_
      refine g_lald X 2 ho1 rfl 0 (by decide) (by decide) d_Law_law_1035 ?_
      refine lv_iload X.1.1 X.1.2.1 d_Law_law_1036 (gl_at hl rfl) ?_
      refine lv_i2l X.1.1 X.1.2.1 d_Law_law_1038 rfl ?_
      rw [hz (by omega)]
      refine g_lcmp0 X.1.1 X.1.2.1 d_Law_law_1039 ?_
      refine gn_eq0 X.1.1 X.1.2.1 0 (by omega) d_Law_law_1040 rfl (fun hc1040 => ?_) (fun hc1040 => ?_)
      · refine lv_goto X.1.1 X.1.2.1 d_Law_law_1045 rfl ?_
        exact kont _ _ _ _ hJ2 hsc hfr2 hL (gl_forget (gl_forget hl 5) 6)
      · omega
  · omega

set_option maxHeartbeats 4000000 in
set_option maxRecDepth 100000 in
theorem lc_automaton (l : Launch) (D : va_G) (q : Nat → ClassId) (b z1 z2 : Nat) (F1 F2 : Nat → Int32) {p : Program} {e : Env} {s : State} {m : MethodId} {below : List Frame} {meth : Method} {c : Code} (sc L : Nat) (xs : Nat → Int32) (X : gX p m c code 7 s ([.ref sc] : List Value).toArray R_Law gWS D CL (gY q)) (htr : ∀ e, l.admits e → e.platform.stackTraces = false) (xq : Nat → ClassId) (hE : ∀ U : State, (∀ p : Nat, p < b → U.heap[p]? = s.heap[p]?) → s.WarmedH U.vm → lE b z1 z2 F1 F2 xq U) (hFn : ∀ j, j ≤ 4 → F1 j = nI (fanL j) ∧ F2 j = nI (fanM j)) (hX0 : va_X sc L xs s s.heap) (hLen : L ≤ 2048) (hscb : sc < b) (Q : State → Prop) (i T : Nat) (hi : i + 4 ≤ L) (hTb : T < 1048576) (x0 : Int32) (H : Heap) (hJ : lJ D q b z1 z2 F1 F2 T x0 H) (hsc : H[sc]? = s.heap[sc]?) (hfr : ∀ p : Nat, p < b → H[p]? = s.heap[p]?) (ls : Array Slot) (locs : List Loc) (cells slots : Nat) (hcs : cells + 5 ≤ 601024 ∧ slots + 22 ≤ 7293034) (hL : ∀ x ∈ locs, (fun p => b ≤ p) x.base) (hl : gl ls [some (.ref sc), some (.ref b), some (.ref (b + 559)), some (.ref (b + 588)), some (.int (nI i)), none, none]) (kont : ∀ (x1 : Int32) (H1 : Heap) (locs1 : List Loc) (ls1 : Array Slot), lJ D q b z1 z2 F1 F2 (T + 1) x1 H1 → H1[sc]? = s.heap[sc]? → (∀ p : Nat, p < b → H1[p]? = s.heap[p]?) → (∀ x ∈ locs1, (fun p => b ≤ p) x.base) → gl ls1 [some (.ref sc), some (.ref b), some (.ref (b + 559)), some (.ref (b + 588)), some (.int (nI i)), none, none] → W p l e room_1 s m ([.ref sc] : List Value).toArray below meth c H1 locs1 (cells + 5) (slots + 22) Q (F0 m 1297 ls1 [])) : W p l e room_1 s m ([.ref sc] : List Value).toArray below meth c H locs cells slots Q (F0 m 1048 ls []) := by
  refine lv_aload_n X.1.1 X.1.2.1 d_Law_law_1048 rfl (gl_at hl rfl) ?_
  refine lv_aload_n X.1.1 X.1.2.1 d_Law_law_1049 rfl (gl_at hl rfl) ?_
  refine lv_iload X.1.1 X.1.2.1 d_Law_law_1050 (gl_at hl rfl) ?_
  refine lv_iconst (v := nI 1) X.1.1 X.1.2.1 d_Law_law_1052 (by decide) ?_
  refine lv_iadd X.1.1 X.1.2.1 d_Law_law_1053 ?_
  refine g_top (nI (i + 1)) (nI_add _ _) ?_
  refine g_sld X hX0 hsc (i + 1) (by omega) (by omega) d_Law_law_1054 ?_
  obtain ⟨fs0, hb0⟩ := hJ.hall
  refine g_cv (A := (fun p => b ≤ p)) X gWS_good mw_Law_131 kc_Hall hb0 (l_automaton l D q b z1 z2 F1 F2 T x0 H hJ (xs (i + 1))) (fun _ _ _ => trivial) gBlind.tt rfl rfl hl.1 (Nat.le_of_ble_eq_true rfl) rfl rfl ⟨by decide, by decide⟩ ⟨hcs.1, hcs.2⟩ d_Law_law_1055 (fun _ h => h) hL (fun v1 H1 locs hp1 hL => ?_)
  obtain ⟨z, rfl, hz1, fb1, ⟨fd1, hd1⟩, hM1⟩ := hp1
  replace hsc := (fb1 _ hscb).trans hsc
  refine lv_aload_n X.1.1 X.1.2.1 d_Law_law_1058 rfl (gl_at hl rfl) ?_
  refine lv_aload_n X.1.1 X.1.2.1 d_Law_law_1059 rfl (gl_at hl rfl) ?_
  refine lv_iload X.1.1 X.1.2.1 d_Law_law_1060 (gl_at hl rfl) ?_
  refine lv_iconst (v := nI 1) X.1.1 X.1.2.1 d_Law_law_1062 (by decide) ?_
  refine lv_iadd X.1.1 X.1.2.1 d_Law_law_1063 ?_
  refine g_top (nI (i + 1)) (nI_add _ _) ?_
  refine g_sld X hX0 hsc (i + 1) (by omega) (by omega) d_Law_law_1064 ?_
  refine g_cv (A := (fun p => b ≤ p)) X gWS_good mw_Law_134 kc_Model hd1 hM1 (fun _ _ _ => trivial) gBlind.tt rfl rfl hl.1 (Nat.le_of_ble_eq_true rfl) rfl rfl ⟨by decide, by decide⟩ ⟨hcs.1, hcs.2⟩ d_Law_law_1065 (fun _ h => h) hL (fun v2 H2 locs hp2 hL => ?_)
  obtain ⟨rfl, ⟨x1, hJ2⟩, hz2, fb2⟩ := hp2
  replace hsc := (fb2 _ hscb).trans hsc
  have hfr2 : ∀ p : Nat, p < b → H2[p]? = s.heap[p]? := fun p hp => (fb2 p hp).trans ((fb1 p hp).trans (hfr p hp))
  refine lv_icmp_eq X.1.1 X.1.2.1 d_Law_law_1068 rfl (fun hc1068 => ?_) (fun hc1068 => ?_)
  · exact kont _ _ _ _ hJ2 hsc hfr2 hL hl
  · exact absurd rfl hc1068

set_option maxHeartbeats 4000000 in
set_option maxRecDepth 100000 in
theorem lc_insert (l : Launch) (D : va_G) (q : Nat → ClassId) (b z1 z2 : Nat) (F1 F2 : Nat → Int32) {p : Program} {e : Env} {s : State} {m : MethodId} {below : List Frame} {meth : Method} {c : Code} (sc L : Nat) (xs : Nat → Int32) (X : gX p m c code 7 s ([.ref sc] : List Value).toArray R_Law gWS D CL (gY q)) (htr : ∀ e, l.admits e → e.platform.stackTraces = false) (xq : Nat → ClassId) (hE : ∀ U : State, (∀ p : Nat, p < b → U.heap[p]? = s.heap[p]?) → s.WarmedH U.vm → lE b z1 z2 F1 F2 xq U) (hFn : ∀ j, j ≤ 4 → F1 j = nI (fanL j) ∧ F2 j = nI (fanM j)) (hX0 : va_X sc L xs s s.heap) (hLen : L ≤ 2048) (hscb : sc < b) (Q : State → Prop) (i T : Nat) (hi : i + 4 ≤ L) (hTb : T < 1048576) (x0 : Int32) (H : Heap) (hJ : lJ D q b z1 z2 F1 F2 T x0 H) (hsc : H[sc]? = s.heap[sc]?) (hfr : ∀ p : Nat, p < b → H[p]? = s.heap[p]?) (ls : Array Slot) (locs : List Loc) (cells slots : Nat) (hcs : cells + 5 ≤ 601024 ∧ slots + 22 ≤ 7293034) (hL : ∀ x ∈ locs, (fun p => b ≤ p) x.base) (hl : gl ls [some (.ref sc), some (.ref b), some (.ref (b + 559)), some (.ref (b + 588)), some (.int (nI i)), none, none]) (kont : ∀ (x1 : Int32) (H1 : Heap) (locs1 : List Loc) (ls1 : Array Slot), lJ D q b z1 z2 F1 F2 (T + 1) x1 H1 → H1[sc]? = s.heap[sc]? → (∀ p : Nat, p < b → H1[p]? = s.heap[p]?) → (∀ x ∈ locs1, (fun p => b ≤ p) x.base) → gl ls1 [some (.ref sc), some (.ref b), some (.ref (b + 559)), some (.ref (b + 588)), some (.int (nI i)), none, none] → W p l e room_1 s m ([.ref sc] : List Value).toArray below meth c H1 locs1 (cells + 5) (slots + 22) Q (F0 m 1297 ls1 [])) : W p l e room_1 s m ([.ref sc] : List Value).toArray below meth c H locs cells slots Q (F0 m 1073 ls []) := by
  refine lv_aload_n X.1.1 X.1.2.1 d_Law_law_1073 rfl (gl_at hl rfl) ?_
  refine lv_aload_n X.1.1 X.1.2.1 d_Law_law_1074 rfl (gl_at hl rfl) ?_
  refine lv_iload X.1.1 X.1.2.1 d_Law_law_1075 (gl_at hl rfl) ?_
  refine lv_iconst (v := nI 1) X.1.1 X.1.2.1 d_Law_law_1077 (by decide) ?_
  refine lv_iadd X.1.1 X.1.2.1 d_Law_law_1078 ?_
  refine g_top (nI (i + 1)) (nI_add _ _) ?_
  refine g_sld X hX0 hsc (i + 1) (by omega) (by omega) d_Law_law_1079 ?_
  refine lv_aload_n X.1.1 X.1.2.1 d_Law_law_1080 rfl (gl_at hl rfl) ?_
  refine g_csW (A := (fun p => b ≤ p)) X gWS_good mw_Law_135 (l_insert l D q b z1 z2 F1 F2 T x0 H hJ htr xq (xs (i + 1)) hTb) (fun U h1 h2 => hE U (fun p hp => by rw [h1]; exact hfr p hp) h2) (lE.blind b z1 z2 F1 F2 xq) rfl rfl hl.1 (Nat.le_of_ble_eq_true rfl) rfl rfl ⟨by decide, by decide⟩ ⟨hcs.1, hcs.2⟩ d_Law_law_1081 (fun _ h => h) hL (fun v1 H1 locs hp1 hL => ?_)
  obtain ⟨k, G1, hk3, rfl, ho1, hz1, fb1, ⟨fd1, hd1⟩, hM1⟩ := hp1
  replace hsc := (fb1 _ hscb).trans hsc
  refine g_ist X.1.1 X.1.2.1 hl 5 d_Law_law_1084 (Nat.le_of_ble_eq_true rfl) rfl (fun ls hl => ?_)
  refine lv_aload_n X.1.1 X.1.2.1 d_Law_law_1086 rfl (gl_at hl rfl) ?_
  refine lv_aload_n X.1.1 X.1.2.1 d_Law_law_1087 rfl (gl_at hl rfl) ?_
  refine lv_iload X.1.1 X.1.2.1 d_Law_law_1088 (gl_at hl rfl) ?_
  refine lv_iconst (v := nI 1) X.1.1 X.1.2.1 d_Law_law_1090 (by decide) ?_
  refine lv_iadd X.1.1 X.1.2.1 d_Law_law_1091 ?_
  refine g_top (nI (i + 1)) (nI_add _ _) ?_
  refine g_sld X hX0 hsc (i + 1) (by omega) (by omega) d_Law_law_1092 ?_
  refine g_cv (A := (fun p => b ≤ p)) X gWS_good mw_Law_137 kc_Model hd1 hM1 (fun _ _ _ => trivial) gBlind.tt rfl rfl hl.1 (Nat.le_of_ble_eq_true rfl) rfl rfl ⟨by decide, by decide⟩ ⟨hcs.1, hcs.2⟩ d_Law_law_1093 (fun _ h => h) hL (fun v2 H2 locs hp2 hL => ?_)
  obtain ⟨z, rfl, hz, ho2, hJ2, hz2, fb2⟩ := hp2
  replace ho1 := va_at.kept ho1 ho2
  replace hsc := (fb2 _ hscb).trans hsc
  have hfr2 : ∀ p : Nat, p < b → H2[p]? = s.heap[p]? := fun p hp => (fb2 p hp).trans ((fb1 p hp).trans (hfr p hp))
  refine g_ist X.1.1 X.1.2.1 hl 6 d_Law_law_1096 (Nat.le_of_ble_eq_true rfl) rfl (fun ls hl => ?_)
  refine lv_aload_n X.1.1 X.1.2.1 d_Law_law_1098 rfl (gl_at hl rfl) ?_
  obtain ⟨⟨fd2, hd2⟩, hM2⟩ := hJ2.thrown l
  refine g_cv (A := (fun p => b ≤ p)) X gWS_good mw_Law_79 kc_Model hd2 hM2 (fun _ _ _ => trivial) gBlind.tt rfl rfl hl.1 (Nat.le_of_ble_eq_true rfl) rfl rfl ⟨by decide, by decide⟩ ⟨hcs.1, hcs.2⟩ d_Law_law_1099 (fun _ h => h.elim) hL (fun v3 H3 locs hp3 hL => ?_)
  obtain ⟨rfl, rfl⟩ := hp3
  refine lv_iload X.1.1 X.1.2.1 d_Law_law_1102 (gl_at hl rfl) ?_
  refine gn_eq X.1.1 X.1.2.1 k k (by omega) (by omega) d_Law_law_1104 rfl (fun hc1104 => ?_) (fun hc1104 => ?_)
  · refine lv_iload X.1.1 X.1.2.1 d_Law_law_1109 (gl_at hl rfl) ?_
    refine gn_ne0 X.1.1 X.1.2.1 k (by omega) d_Law_law_1111 rfl (fun hc1111 => ?_) (fun hc1111 => ?_)
    · refine lv_goto X.1.1 X.1.2.1 d_Law_law_1126 rfl ?_
      exact kont _ _ _ _ hJ2 hsc hfr2 hL (gl_forget (gl_forget hl 5) 6)
    · refine lv_aload_n X.1.1 X.1.2.1 d_Law_law_1114 rfl (gl_at hl rfl) ?_
      refine lv_iconst (v := nI 0) X.1.1 X.1.2.1 d_Law_law_1115 (by decide) ?_
      refine g_lald X 2 ho1 rfl 0 (by decide) (by decide) d_Law_law_1116 ?_
      refine lv_iload X.1.1 X.1.2.1 d_Law_law_1117 (gl_at hl rfl) ?_
      refine lv_i2l X.1.1 X.1.2.1 d_Law_law_1119 rfl ?_
      rw [hz (by omega)]
      refine g_lcmp0 X.1.1 X.1.2.1 d_Law_law_1120 ?_
      refine gn_eq0 X.1.1 X.1.2.1 0 (by omega) d_Law_law_1121 rfl (fun hc1121 => ?_) (fun hc1121 => ?_)
      · refine lv_goto X.1.1 X.1.2.1 d_Law_law_1126 rfl ?_
        exact kont _ _ _ _ hJ2 hsc hfr2 hL (gl_forget (gl_forget hl 5) 6)
      · omega
  · omega

set_option maxHeartbeats 4000000 in
set_option maxRecDepth 100000 in
theorem lc_delete (l : Launch) (D : va_G) (q : Nat → ClassId) (b z1 z2 : Nat) (F1 F2 : Nat → Int32) {p : Program} {e : Env} {s : State} {m : MethodId} {below : List Frame} {meth : Method} {c : Code} (sc L : Nat) (xs : Nat → Int32) (X : gX p m c code 7 s ([.ref sc] : List Value).toArray R_Law gWS D CL (gY q)) (htr : ∀ e, l.admits e → e.platform.stackTraces = false) (xq : Nat → ClassId) (hE : ∀ U : State, (∀ p : Nat, p < b → U.heap[p]? = s.heap[p]?) → s.WarmedH U.vm → lE b z1 z2 F1 F2 xq U) (hFn : ∀ j, j ≤ 4 → F1 j = nI (fanL j) ∧ F2 j = nI (fanM j)) (hX0 : va_X sc L xs s s.heap) (hLen : L ≤ 2048) (hscb : sc < b) (Q : State → Prop) (i T : Nat) (hi : i + 4 ≤ L) (hTb : T < 1048576) (x0 : Int32) (H : Heap) (hJ : lJ D q b z1 z2 F1 F2 T x0 H) (hsc : H[sc]? = s.heap[sc]?) (hfr : ∀ p : Nat, p < b → H[p]? = s.heap[p]?) (ls : Array Slot) (locs : List Loc) (cells slots : Nat) (hcs : cells + 5 ≤ 601024 ∧ slots + 22 ≤ 7293034) (hL : ∀ x ∈ locs, (fun p => b ≤ p) x.base) (hl : gl ls [some (.ref sc), some (.ref b), some (.ref (b + 559)), some (.ref (b + 588)), some (.int (nI i)), none, none]) (kont : ∀ (x1 : Int32) (H1 : Heap) (locs1 : List Loc) (ls1 : Array Slot), lJ D q b z1 z2 F1 F2 (T + 1) x1 H1 → H1[sc]? = s.heap[sc]? → (∀ p : Nat, p < b → H1[p]? = s.heap[p]?) → (∀ x ∈ locs1, (fun p => b ≤ p) x.base) → gl ls1 [some (.ref sc), some (.ref b), some (.ref (b + 559)), some (.ref (b + 588)), some (.int (nI i)), none, none] → W p l e room_1 s m ([.ref sc] : List Value).toArray below meth c H1 locs1 (cells + 5) (slots + 22) Q (F0 m 1297 ls1 [])) : W p l e room_1 s m ([.ref sc] : List Value).toArray below meth c H locs cells slots Q (F0 m 1129 ls []) := by
  refine lv_aload_n X.1.1 X.1.2.1 d_Law_law_1129 rfl (gl_at hl rfl) ?_
  refine lv_aload_n X.1.1 X.1.2.1 d_Law_law_1130 rfl (gl_at hl rfl) ?_
  refine lv_iload X.1.1 X.1.2.1 d_Law_law_1131 (gl_at hl rfl) ?_
  refine lv_iconst (v := nI 1) X.1.1 X.1.2.1 d_Law_law_1133 (by decide) ?_
  refine lv_iadd X.1.1 X.1.2.1 d_Law_law_1134 ?_
  refine g_top (nI (i + 1)) (nI_add _ _) ?_
  refine g_sld X hX0 hsc (i + 1) (by omega) (by omega) d_Law_law_1135 ?_
  refine lv_aload_n X.1.1 X.1.2.1 d_Law_law_1136 rfl (gl_at hl rfl) ?_
  refine lv_iload X.1.1 X.1.2.1 d_Law_law_1137 (gl_at hl rfl) ?_
  refine lv_iconst (v := nI 2) X.1.1 X.1.2.1 d_Law_law_1139 (by decide) ?_
  refine lv_iadd X.1.1 X.1.2.1 d_Law_law_1140 ?_
  refine g_top (nI (i + 2)) (nI_add _ _) ?_
  refine g_sld X hX0 hsc (i + 2) (by omega) (by omega) d_Law_law_1141 ?_
  refine lv_aload_n X.1.1 X.1.2.1 d_Law_law_1142 rfl (gl_at hl rfl) ?_
  refine g_csW (A := (fun p => b ≤ p)) X gWS_good mw_Law_138 (l_delete l D q b z1 z2 F1 F2 T x0 H hJ htr xq (xs (i + 1)) (xs (i + 2)) hTb) (fun U h1 h2 => hE U (fun p hp => by rw [h1]; exact hfr p hp) h2) (lE.blind b z1 z2 F1 F2 xq) rfl rfl hl.1 (Nat.le_of_ble_eq_true rfl) rfl rfl ⟨by decide, by decide⟩ ⟨hcs.1, hcs.2⟩ d_Law_law_1143 (fun _ h => h) hL (fun v1 H1 locs hp1 hL => ?_)
  obtain ⟨k, G1, hk3, rfl, ho1, hz1, fb1, ⟨fd1, hd1⟩, hM1⟩ := hp1
  replace hsc := (fb1 _ hscb).trans hsc
  refine g_ist X.1.1 X.1.2.1 hl 5 d_Law_law_1146 (Nat.le_of_ble_eq_true rfl) rfl (fun ls hl => ?_)
  refine lv_aload_n X.1.1 X.1.2.1 d_Law_law_1148 rfl (gl_at hl rfl) ?_
  refine lv_aload_n X.1.1 X.1.2.1 d_Law_law_1149 rfl (gl_at hl rfl) ?_
  refine lv_iload X.1.1 X.1.2.1 d_Law_law_1150 (gl_at hl rfl) ?_
  refine lv_iconst (v := nI 1) X.1.1 X.1.2.1 d_Law_law_1152 (by decide) ?_
  refine lv_iadd X.1.1 X.1.2.1 d_Law_law_1153 ?_
  refine g_top (nI (i + 1)) (nI_add _ _) ?_
  refine g_sld X hX0 hsc (i + 1) (by omega) (by omega) d_Law_law_1154 ?_
  refine lv_aload_n X.1.1 X.1.2.1 d_Law_law_1155 rfl (gl_at hl rfl) ?_
  refine lv_iload X.1.1 X.1.2.1 d_Law_law_1156 (gl_at hl rfl) ?_
  refine lv_iconst (v := nI 2) X.1.1 X.1.2.1 d_Law_law_1158 (by decide) ?_
  refine lv_iadd X.1.1 X.1.2.1 d_Law_law_1159 ?_
  refine g_top (nI (i + 2)) (nI_add _ _) ?_
  refine g_sld X hX0 hsc (i + 2) (by omega) (by omega) d_Law_law_1160 ?_
  refine g_cv (A := (fun p => b ≤ p)) X gWS_good mw_Law_140 kc_Model hd1 hM1 (fun _ _ _ => trivial) gBlind.tt rfl rfl hl.1 (Nat.le_of_ble_eq_true rfl) rfl rfl ⟨by decide, by decide⟩ ⟨hcs.1, hcs.2⟩ d_Law_law_1161 (fun _ h => h) hL (fun v2 H2 locs hp2 hL => ?_)
  obtain ⟨z, rfl, hz, ho2, hJ2, hz2, fb2⟩ := hp2
  replace ho1 := va_at.kept ho1 ho2
  replace hsc := (fb2 _ hscb).trans hsc
  have hfr2 : ∀ p : Nat, p < b → H2[p]? = s.heap[p]? := fun p hp => (fb2 p hp).trans ((fb1 p hp).trans (hfr p hp))
  refine g_ist X.1.1 X.1.2.1 hl 6 d_Law_law_1164 (Nat.le_of_ble_eq_true rfl) rfl (fun ls hl => ?_)
  refine lv_aload_n X.1.1 X.1.2.1 d_Law_law_1166 rfl (gl_at hl rfl) ?_
  obtain ⟨⟨fd2, hd2⟩, hM2⟩ := hJ2.thrown l
  refine g_cv (A := (fun p => b ≤ p)) X gWS_good mw_Law_79 kc_Model hd2 hM2 (fun _ _ _ => trivial) gBlind.tt rfl rfl hl.1 (Nat.le_of_ble_eq_true rfl) rfl rfl ⟨by decide, by decide⟩ ⟨hcs.1, hcs.2⟩ d_Law_law_1167 (fun _ h => h.elim) hL (fun v3 H3 locs hp3 hL => ?_)
  obtain ⟨rfl, rfl⟩ := hp3
  refine lv_iload X.1.1 X.1.2.1 d_Law_law_1170 (gl_at hl rfl) ?_
  refine gn_eq X.1.1 X.1.2.1 k k (by omega) (by omega) d_Law_law_1172 rfl (fun hc1172 => ?_) (fun hc1172 => ?_)
  · refine lv_iload X.1.1 X.1.2.1 d_Law_law_1177 (gl_at hl rfl) ?_
    refine gn_ne0 X.1.1 X.1.2.1 k (by omega) d_Law_law_1179 rfl (fun hc1179 => ?_) (fun hc1179 => ?_)
    · refine lv_goto X.1.1 X.1.2.1 d_Law_law_1194 rfl ?_
      exact kont _ _ _ _ hJ2 hsc hfr2 hL (gl_forget (gl_forget hl 5) 6)
    · refine lv_aload_n X.1.1 X.1.2.1 d_Law_law_1182 rfl (gl_at hl rfl) ?_
      refine lv_iconst (v := nI 0) X.1.1 X.1.2.1 d_Law_law_1183 (by decide) ?_
      refine g_lald X 2 ho1 rfl 0 (by decide) (by decide) d_Law_law_1184 ?_
      refine lv_iload X.1.1 X.1.2.1 d_Law_law_1185 (gl_at hl rfl) ?_
      refine lv_i2l X.1.1 X.1.2.1 d_Law_law_1187 rfl ?_
      rw [hz (by omega)]
      refine g_lcmp0 X.1.1 X.1.2.1 d_Law_law_1188 ?_
      refine gn_eq0 X.1.1 X.1.2.1 0 (by omega) d_Law_law_1189 rfl (fun hc1189 => ?_) (fun hc1189 => ?_)
      · refine lv_goto X.1.1 X.1.2.1 d_Law_law_1194 rfl ?_
        exact kont _ _ _ _ hJ2 hsc hfr2 hL (gl_forget (gl_forget hl 5) 6)
      · omega
  · omega

set_option maxHeartbeats 4000000 in
set_option maxRecDepth 100000 in
theorem lc_undo (l : Launch) (D : va_G) (q : Nat → ClassId) (b z1 z2 : Nat) (F1 F2 : Nat → Int32) {p : Program} {e : Env} {s : State} {m : MethodId} {below : List Frame} {meth : Method} {c : Code} (sc L : Nat) (xs : Nat → Int32) (X : gX p m c code 7 s ([.ref sc] : List Value).toArray R_Law gWS D CL (gY q)) (htr : ∀ e, l.admits e → e.platform.stackTraces = false) (xq : Nat → ClassId) (hE : ∀ U : State, (∀ p : Nat, p < b → U.heap[p]? = s.heap[p]?) → s.WarmedH U.vm → lE b z1 z2 F1 F2 xq U) (hFn : ∀ j, j ≤ 4 → F1 j = nI (fanL j) ∧ F2 j = nI (fanM j)) (hX0 : va_X sc L xs s s.heap) (hLen : L ≤ 2048) (hscb : sc < b) (Q : State → Prop) (i T : Nat) (hi : i + 4 ≤ L) (hTb : T < 1048576) (x0 : Int32) (H : Heap) (hJ : lJ D q b z1 z2 F1 F2 T x0 H) (hsc : H[sc]? = s.heap[sc]?) (hfr : ∀ p : Nat, p < b → H[p]? = s.heap[p]?) (ls : Array Slot) (locs : List Loc) (cells slots : Nat) (hcs : cells + 5 ≤ 601024 ∧ slots + 22 ≤ 7293034) (hL : ∀ x ∈ locs, (fun p => b ≤ p) x.base) (hl : gl ls [some (.ref sc), some (.ref b), some (.ref (b + 559)), some (.ref (b + 588)), some (.int (nI i)), none, none]) (kont : ∀ (x1 : Int32) (H1 : Heap) (locs1 : List Loc) (ls1 : Array Slot), lJ D q b z1 z2 F1 F2 (T + 1) x1 H1 → H1[sc]? = s.heap[sc]? → (∀ p : Nat, p < b → H1[p]? = s.heap[p]?) → (∀ x ∈ locs1, (fun p => b ≤ p) x.base) → gl ls1 [some (.ref sc), some (.ref b), some (.ref (b + 559)), some (.ref (b + 588)), some (.int (nI i)), none, none] → W p l e room_1 s m ([.ref sc] : List Value).toArray below meth c H1 locs1 (cells + 5) (slots + 22) Q (F0 m 1297 ls1 [])) : W p l e room_1 s m ([.ref sc] : List Value).toArray below meth c H locs cells slots Q (F0 m 1197 ls []) := by
  refine lv_aload_n X.1.1 X.1.2.1 d_Law_law_1197 rfl (gl_at hl rfl) ?_
  obtain ⟨fs0, hb0⟩ := hJ.hall
  refine g_cv (A := (fun p => b ≤ p)) X gWS_good mw_Law_141 kc_Hall hb0 (l_undo l D q b z1 z2 F1 F2 T x0 H hJ ) (fun _ _ _ => trivial) gBlind.tt rfl rfl hl.1 (Nat.le_of_ble_eq_true rfl) rfl rfl ⟨by decide, by decide⟩ ⟨hcs.1, hcs.2⟩ d_Law_law_1198 (fun _ h => h) hL (fun v1 H1 locs hp1 hL => ?_)
  obtain ⟨z, rfl, hz1, fb1, ⟨fd1, hd1⟩, hM1⟩ := hp1
  replace hsc := (fb1 _ hscb).trans hsc
  refine lv_aload_n X.1.1 X.1.2.1 d_Law_law_1201 rfl (gl_at hl rfl) ?_
  refine g_cv (A := (fun p => b ≤ p)) X gWS_good mw_Law_144 kc_Model hd1 hM1 (fun _ _ _ => trivial) gBlind.tt rfl rfl hl.1 (Nat.le_of_ble_eq_true rfl) rfl rfl ⟨by decide, by decide⟩ ⟨hcs.1, hcs.2⟩ d_Law_law_1202 (fun _ h => h) hL (fun v2 H2 locs hp2 hL => ?_)
  obtain ⟨rfl, ⟨x1, hJ2⟩, hz2, fb2⟩ := hp2
  replace hsc := (fb2 _ hscb).trans hsc
  have hfr2 : ∀ p : Nat, p < b → H2[p]? = s.heap[p]? := fun p hp => (fb2 p hp).trans ((fb1 p hp).trans (hfr p hp))
  refine lv_icmp_eq X.1.1 X.1.2.1 d_Law_law_1205 rfl (fun hc1205 => ?_) (fun hc1205 => ?_)
  · exact kont _ _ _ _ hJ2 hsc hfr2 hL hl
  · exact absurd rfl hc1205

set_option maxHeartbeats 4000000 in
set_option maxRecDepth 100000 in
theorem lc_letter (l : Launch) (D : va_G) (q : Nat → ClassId) (b z1 z2 : Nat) (F1 F2 : Nat → Int32) {p : Program} {e : Env} {s : State} {m : MethodId} {below : List Frame} {meth : Method} {c : Code} (sc L : Nat) (xs : Nat → Int32) (X : gX p m c code 7 s ([.ref sc] : List Value).toArray R_Law gWS D CL (gY q)) (htr : ∀ e, l.admits e → e.platform.stackTraces = false) (xq : Nat → ClassId) (hE : ∀ U : State, (∀ p : Nat, p < b → U.heap[p]? = s.heap[p]?) → s.WarmedH U.vm → lE b z1 z2 F1 F2 xq U) (hFn : ∀ j, j ≤ 4 → F1 j = nI (fanL j) ∧ F2 j = nI (fanM j)) (hX0 : va_X sc L xs s s.heap) (hLen : L ≤ 2048) (hscb : sc < b) (Q : State → Prop) (i T : Nat) (hi : i + 4 ≤ L) (hTb : T < 1048576) (x0 : Int32) (H : Heap) (hJ : lJ D q b z1 z2 F1 F2 T x0 H) (hsc : H[sc]? = s.heap[sc]?) (hfr : ∀ p : Nat, p < b → H[p]? = s.heap[p]?) (ls : Array Slot) (locs : List Loc) (cells slots : Nat) (hcs : cells + 5 ≤ 601024 ∧ slots + 22 ≤ 7293034) (hL : ∀ x ∈ locs, (fun p => b ≤ p) x.base) (hl : gl ls [some (.ref sc), some (.ref b), some (.ref (b + 559)), some (.ref (b + 588)), some (.int (nI i)), none, none]) (kont : ∀ (x1 : Int32) (H1 : Heap) (locs1 : List Loc) (ls1 : Array Slot), lJ D q b z1 z2 F1 F2 (T + 1) x1 H1 → H1[sc]? = s.heap[sc]? → (∀ p : Nat, p < b → H1[p]? = s.heap[p]?) → (∀ x ∈ locs1, (fun p => b ≤ p) x.base) → gl ls1 [some (.ref sc), some (.ref b), some (.ref (b + 559)), some (.ref (b + 588)), some (.int (nI i)), none, none] → W p l e room_1 s m ([.ref sc] : List Value).toArray below meth c H1 locs1 (cells + 5) (slots + 22) Q (F0 m 1297 ls1 [])) : W p l e room_1 s m ([.ref sc] : List Value).toArray below meth c H locs cells slots Q (F0 m 1210 ls []) := by
  refine lv_aload_n X.1.1 X.1.2.1 d_Law_law_1210 rfl (gl_at hl rfl) ?_
  refine lv_aload_n X.1.1 X.1.2.1 d_Law_law_1211 rfl (gl_at hl rfl) ?_
  refine lv_iload X.1.1 X.1.2.1 d_Law_law_1212 (gl_at hl rfl) ?_
  refine lv_iconst (v := nI 1) X.1.1 X.1.2.1 d_Law_law_1214 (by decide) ?_
  refine lv_iadd X.1.1 X.1.2.1 d_Law_law_1215 ?_
  refine g_top (nI (i + 1)) (nI_add _ _) ?_
  refine g_sld X hX0 hsc (i + 1) (by omega) (by omega) d_Law_law_1216 ?_
  obtain ⟨fs0, hb0⟩ := hJ.hall
  refine g_cv (A := (fun p => b ≤ p)) X gWS_good mw_Law_145 kc_Hall hb0 (l_letter l D q b z1 z2 F1 F2 T x0 H hJ (xs (i + 1))) (fun _ _ _ => trivial) gBlind.tt rfl rfl hl.1 (Nat.le_of_ble_eq_true rfl) rfl rfl ⟨by decide, by decide⟩ ⟨hcs.1, hcs.2⟩ d_Law_law_1217 (fun _ h => h) hL (fun v1 H1 locs hp1 hL => ?_)
  obtain ⟨z, rfl, hz1, fb1, ⟨fd1, hd1⟩, hM1⟩ := hp1
  replace hsc := (fb1 _ hscb).trans hsc
  refine lv_aload_n X.1.1 X.1.2.1 d_Law_law_1220 rfl (gl_at hl rfl) ?_
  refine lv_aload_n X.1.1 X.1.2.1 d_Law_law_1221 rfl (gl_at hl rfl) ?_
  refine lv_iload X.1.1 X.1.2.1 d_Law_law_1222 (gl_at hl rfl) ?_
  refine lv_iconst (v := nI 1) X.1.1 X.1.2.1 d_Law_law_1224 (by decide) ?_
  refine lv_iadd X.1.1 X.1.2.1 d_Law_law_1225 ?_
  refine g_top (nI (i + 1)) (nI_add _ _) ?_
  refine g_sld X hX0 hsc (i + 1) (by omega) (by omega) d_Law_law_1226 ?_
  refine g_cv (A := (fun p => b ≤ p)) X gWS_good mw_Law_148 kc_Model hd1 hM1 (fun _ _ _ => trivial) gBlind.tt rfl rfl hl.1 (Nat.le_of_ble_eq_true rfl) rfl rfl ⟨by decide, by decide⟩ ⟨hcs.1, hcs.2⟩ d_Law_law_1227 (fun _ h => h) hL (fun v2 H2 locs hp2 hL => ?_)
  obtain ⟨rfl, ⟨x1, hJ2⟩, hz2, fb2⟩ := hp2
  replace hsc := (fb2 _ hscb).trans hsc
  have hfr2 : ∀ p : Nat, p < b → H2[p]? = s.heap[p]? := fun p hp => (fb2 p hp).trans ((fb1 p hp).trans (hfr p hp))
  refine lv_icmp_eq X.1.1 X.1.2.1 d_Law_law_1230 rfl (fun hc1230 => ?_) (fun hc1230 => ?_)
  · exact kont _ _ _ _ hJ2 hsc hfr2 hL hl
  · exact absurd rfl hc1230

set_option maxHeartbeats 4000000 in
set_option maxRecDepth 100000 in
theorem lc_suffix (l : Launch) (D : va_G) (q : Nat → ClassId) (b z1 z2 : Nat) (F1 F2 : Nat → Int32) {p : Program} {e : Env} {s : State} {m : MethodId} {below : List Frame} {meth : Method} {c : Code} (sc L : Nat) (xs : Nat → Int32) (X : gX p m c code 7 s ([.ref sc] : List Value).toArray R_Law gWS D CL (gY q)) (htr : ∀ e, l.admits e → e.platform.stackTraces = false) (xq : Nat → ClassId) (hE : ∀ U : State, (∀ p : Nat, p < b → U.heap[p]? = s.heap[p]?) → s.WarmedH U.vm → lE b z1 z2 F1 F2 xq U) (hFn : ∀ j, j ≤ 4 → F1 j = nI (fanL j) ∧ F2 j = nI (fanM j)) (hX0 : va_X sc L xs s s.heap) (hLen : L ≤ 2048) (hscb : sc < b) (Q : State → Prop) (i T : Nat) (hi : i + 4 ≤ L) (hTb : T < 1048576) (x0 : Int32) (H : Heap) (hJ : lJ D q b z1 z2 F1 F2 T x0 H) (hsc : H[sc]? = s.heap[sc]?) (hfr : ∀ p : Nat, p < b → H[p]? = s.heap[p]?) (ls : Array Slot) (locs : List Loc) (cells slots : Nat) (hcs : cells + 5 ≤ 601024 ∧ slots + 22 ≤ 7293034) (hL : ∀ x ∈ locs, (fun p => b ≤ p) x.base) (hl : gl ls [some (.ref sc), some (.ref b), some (.ref (b + 559)), some (.ref (b + 588)), some (.int (nI i)), none, none]) (kont : ∀ (x1 : Int32) (H1 : Heap) (locs1 : List Loc) (ls1 : Array Slot), lJ D q b z1 z2 F1 F2 (T + 1) x1 H1 → H1[sc]? = s.heap[sc]? → (∀ p : Nat, p < b → H1[p]? = s.heap[p]?) → (∀ x ∈ locs1, (fun p => b ≤ p) x.base) → gl ls1 [some (.ref sc), some (.ref b), some (.ref (b + 559)), some (.ref (b + 588)), some (.int (nI i)), none, none] → W p l e room_1 s m ([.ref sc] : List Value).toArray below meth c H1 locs1 (cells + 5) (slots + 22) Q (F0 m 1297 ls1 [])) : W p l e room_1 s m ([.ref sc] : List Value).toArray below meth c H locs cells slots Q (F0 m 1235 ls []) := by
  refine lv_aload_n X.1.1 X.1.2.1 d_Law_law_1235 rfl (gl_at hl rfl) ?_
  refine lv_aload_n X.1.1 X.1.2.1 d_Law_law_1236 rfl (gl_at hl rfl) ?_
  refine lv_iload X.1.1 X.1.2.1 d_Law_law_1237 (gl_at hl rfl) ?_
  refine lv_iconst (v := nI 1) X.1.1 X.1.2.1 d_Law_law_1239 (by decide) ?_
  refine lv_iadd X.1.1 X.1.2.1 d_Law_law_1240 ?_
  refine g_top (nI (i + 1)) (nI_add _ _) ?_
  refine g_sld X hX0 hsc (i + 1) (by omega) (by omega) d_Law_law_1241 ?_
  refine lv_aload_n X.1.1 X.1.2.1 d_Law_law_1242 rfl (gl_at hl rfl) ?_
  refine lv_iload X.1.1 X.1.2.1 d_Law_law_1243 (gl_at hl rfl) ?_
  refine lv_iconst (v := nI 2) X.1.1 X.1.2.1 d_Law_law_1245 (by decide) ?_
  refine lv_iadd X.1.1 X.1.2.1 d_Law_law_1246 ?_
  refine g_top (nI (i + 2)) (nI_add _ _) ?_
  refine g_sld X hX0 hsc (i + 2) (by omega) (by omega) d_Law_law_1247 ?_
  obtain ⟨fs0, hb0⟩ := hJ.hall
  refine g_cv (A := (fun p => b ≤ p)) X gWS_good mw_Law_149 kc_Hall hb0 (l_suffix l D q b z1 z2 F1 F2 T x0 H hJ (xs (i + 1)) (xs (i + 2))) (fun _ _ _ => trivial) gBlind.tt rfl rfl hl.1 (Nat.le_of_ble_eq_true rfl) rfl rfl ⟨by decide, by decide⟩ ⟨hcs.1, hcs.2⟩ d_Law_law_1248 (fun _ h => h) hL (fun v1 H1 locs hp1 hL => ?_)
  obtain ⟨z, rfl, hz1, fb1, ⟨fd1, hd1⟩, hM1⟩ := hp1
  replace hsc := (fb1 _ hscb).trans hsc
  refine lv_aload_n X.1.1 X.1.2.1 d_Law_law_1251 rfl (gl_at hl rfl) ?_
  refine lv_aload_n X.1.1 X.1.2.1 d_Law_law_1252 rfl (gl_at hl rfl) ?_
  refine lv_iload X.1.1 X.1.2.1 d_Law_law_1253 (gl_at hl rfl) ?_
  refine lv_iconst (v := nI 1) X.1.1 X.1.2.1 d_Law_law_1255 (by decide) ?_
  refine lv_iadd X.1.1 X.1.2.1 d_Law_law_1256 ?_
  refine g_top (nI (i + 1)) (nI_add _ _) ?_
  refine g_sld X hX0 hsc (i + 1) (by omega) (by omega) d_Law_law_1257 ?_
  refine lv_aload_n X.1.1 X.1.2.1 d_Law_law_1258 rfl (gl_at hl rfl) ?_
  refine lv_iload X.1.1 X.1.2.1 d_Law_law_1259 (gl_at hl rfl) ?_
  refine lv_iconst (v := nI 2) X.1.1 X.1.2.1 d_Law_law_1261 (by decide) ?_
  refine lv_iadd X.1.1 X.1.2.1 d_Law_law_1262 ?_
  refine g_top (nI (i + 2)) (nI_add _ _) ?_
  refine g_sld X hX0 hsc (i + 2) (by omega) (by omega) d_Law_law_1263 ?_
  refine g_cv (A := (fun p => b ≤ p)) X gWS_good mw_Law_152 kc_Model hd1 hM1 (fun _ _ _ => trivial) gBlind.tt rfl rfl hl.1 (Nat.le_of_ble_eq_true rfl) rfl rfl ⟨by decide, by decide⟩ ⟨hcs.1, hcs.2⟩ d_Law_law_1264 (fun _ h => h) hL (fun v2 H2 locs hp2 hL => ?_)
  obtain ⟨rfl, ⟨x1, hJ2⟩, hz2, fb2⟩ := hp2
  replace hsc := (fb2 _ hscb).trans hsc
  have hfr2 : ∀ p : Nat, p < b → H2[p]? = s.heap[p]? := fun p hp => (fb2 p hp).trans ((fb1 p hp).trans (hfr p hp))
  refine lv_icmp_eq X.1.1 X.1.2.1 d_Law_law_1267 rfl (fun hc1267 => ?_) (fun hc1267 => ?_)
  · exact kont _ _ _ _ hJ2 hsc hfr2 hL hl
  · exact absurd rfl hc1267

set_option maxHeartbeats 4000000 in
set_option maxRecDepth 100000 in
theorem lc_locate (l : Launch) (D : va_G) (q : Nat → ClassId) (b z1 z2 : Nat) (F1 F2 : Nat → Int32) {p : Program} {e : Env} {s : State} {m : MethodId} {below : List Frame} {meth : Method} {c : Code} (sc L : Nat) (xs : Nat → Int32) (X : gX p m c code 7 s ([.ref sc] : List Value).toArray R_Law gWS D CL (gY q)) (htr : ∀ e, l.admits e → e.platform.stackTraces = false) (xq : Nat → ClassId) (hE : ∀ U : State, (∀ p : Nat, p < b → U.heap[p]? = s.heap[p]?) → s.WarmedH U.vm → lE b z1 z2 F1 F2 xq U) (hFn : ∀ j, j ≤ 4 → F1 j = nI (fanL j) ∧ F2 j = nI (fanM j)) (hX0 : va_X sc L xs s s.heap) (hLen : L ≤ 2048) (hscb : sc < b) (Q : State → Prop) (i T : Nat) (hi : i + 4 ≤ L) (hTb : T < 1048576) (x0 : Int32) (H : Heap) (hJ : lJ D q b z1 z2 F1 F2 T x0 H) (hsc : H[sc]? = s.heap[sc]?) (hfr : ∀ p : Nat, p < b → H[p]? = s.heap[p]?) (ls : Array Slot) (locs : List Loc) (cells slots : Nat) (hcs : cells + 5 ≤ 601024 ∧ slots + 22 ≤ 7293034) (hL : ∀ x ∈ locs, (fun p => b ≤ p) x.base) (hl : gl ls [some (.ref sc), some (.ref b), some (.ref (b + 559)), some (.ref (b + 588)), some (.int (nI i)), none, none]) (kont : ∀ (x1 : Int32) (H1 : Heap) (locs1 : List Loc) (ls1 : Array Slot), lJ D q b z1 z2 F1 F2 (T + 1) x1 H1 → H1[sc]? = s.heap[sc]? → (∀ p : Nat, p < b → H1[p]? = s.heap[p]?) → (∀ x ∈ locs1, (fun p => b ≤ p) x.base) → gl ls1 [some (.ref sc), some (.ref b), some (.ref (b + 559)), some (.ref (b + 588)), some (.int (nI i)), none, none] → W p l e room_1 s m ([.ref sc] : List Value).toArray below meth c H1 locs1 (cells + 5) (slots + 22) Q (F0 m 1297 ls1 [])) : W p l e room_1 s m ([.ref sc] : List Value).toArray below meth c H locs cells slots Q (F0 m 1272 ls []) := by
  refine lv_aload_n X.1.1 X.1.2.1 d_Law_law_1272 rfl (gl_at hl rfl) ?_
  refine lv_aload_n X.1.1 X.1.2.1 d_Law_law_1273 rfl (gl_at hl rfl) ?_
  refine lv_iload X.1.1 X.1.2.1 d_Law_law_1274 (gl_at hl rfl) ?_
  refine lv_iconst (v := nI 1) X.1.1 X.1.2.1 d_Law_law_1276 (by decide) ?_
  refine lv_iadd X.1.1 X.1.2.1 d_Law_law_1277 ?_
  refine g_top (nI (i + 1)) (nI_add _ _) ?_
  refine g_sld X hX0 hsc (i + 1) (by omega) (by omega) d_Law_law_1278 ?_
  obtain ⟨fs0, hb0⟩ := hJ.hall
  refine g_cv (A := (fun p => b ≤ p)) X gWS_good mw_Law_153 kc_Hall hb0 (l_locate l D q b z1 z2 F1 F2 T x0 H hJ (xs (i + 1))) (fun _ _ _ => trivial) gBlind.tt rfl rfl hl.1 (Nat.le_of_ble_eq_true rfl) rfl rfl ⟨by decide, by decide⟩ ⟨hcs.1, hcs.2⟩ d_Law_law_1279 (fun _ h => h) hL (fun v1 H1 locs hp1 hL => ?_)
  obtain ⟨z, rfl, hz1, fb1, ⟨fd1, hd1⟩, hM1⟩ := hp1
  replace hsc := (fb1 _ hscb).trans hsc
  refine lv_aload_n X.1.1 X.1.2.1 d_Law_law_1282 rfl (gl_at hl rfl) ?_
  refine lv_aload_n X.1.1 X.1.2.1 d_Law_law_1283 rfl (gl_at hl rfl) ?_
  refine lv_iload X.1.1 X.1.2.1 d_Law_law_1284 (gl_at hl rfl) ?_
  refine lv_iconst (v := nI 1) X.1.1 X.1.2.1 d_Law_law_1286 (by decide) ?_
  refine lv_iadd X.1.1 X.1.2.1 d_Law_law_1287 ?_
  refine g_top (nI (i + 1)) (nI_add _ _) ?_
  refine g_sld X hX0 hsc (i + 1) (by omega) (by omega) d_Law_law_1288 ?_
  refine g_cv (A := (fun p => b ≤ p)) X gWS_good mw_Law_156 kc_Model hd1 hM1 (fun _ _ _ => trivial) gBlind.tt rfl rfl hl.1 (Nat.le_of_ble_eq_true rfl) rfl rfl ⟨by decide, by decide⟩ ⟨hcs.1, hcs.2⟩ d_Law_law_1289 (fun _ h => h) hL (fun v2 H2 locs hp2 hL => ?_)
  obtain ⟨rfl, ⟨x1, hJ2⟩, hz2, fb2⟩ := hp2
  replace hsc := (fb2 _ hscb).trans hsc
  have hfr2 : ∀ p : Nat, p < b → H2[p]? = s.heap[p]? := fun p hp => (fb2 p hp).trans ((fb1 p hp).trans (hfr p hp))
  refine lv_icmp_eq X.1.1 X.1.2.1 d_Law_law_1292 rfl (fun hc1292 => ?_) (fun hc1292 => ?_)
  · exact kont _ _ _ _ hJ2 hsc hfr2 hL hl
  · exact absurd rfl hc1292
