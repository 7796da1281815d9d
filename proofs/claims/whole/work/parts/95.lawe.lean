/-! the law's loop: printed by wip/specs/lawe.py -/
theorem g_end {p : Program} {l : Launch} {e : Env} {R : Room} {s : State} {m : MethodId} {args : Array Value} {below : List Frame} {meth : Method} {c : Code} {H : Heap} {locs : List Loc} {cells slots cells1 slots1 : Nat} {Q : State → Prop} {f : JFrame} (hL : ∀ x ∈ locs, s.heap.size ≤ x.base) (hc : cells ≤ cells1) (hs : slots ≤ slots1) (k : W p l e R s m args below meth c H [] cells1 slots1 Q f) : W p l e R s m args below meth c H locs cells slots Q f := by
  intro T hT X
  refine k T hT ⟨X.admits, X.cas, X.clock, X.frames, X.room, X.hears, X.method, X.code, X.here, X.tail, X.warmed, X.limits, X.bytes, ?_⟩
  obtain ⟨a1, a2, a3, a4, a5, a6⟩ := X.same
  refine ⟨a1, a2, by omega, a4, by omega, fun a c0 h0 => ?_⟩
  obtain ⟨c1, b1, b2, b3, b4⟩ := a6 a c0 h0
  refine ⟨c1, b1, b2, b3, fun i _ => b4 i (fun h9 => ?_)⟩
  have h8 := hL _ h9
  have h7 := (Array.getElem?_eq_some_iff.mp h0).1
  exact absurd h7 (Nat.not_lt.mpr h8)
theorem lJ.mono {D : va_G} {q : Nat → ClassId} {b z1 z2 : Nat} {F1 F2 : Nat → Int32} {T : Nat} {x : Int32} {H : Heap} (h : lJ D q b z1 z2 F1 F2 T x H) : lJ D q b z1 z2 F1 F2 (T + 1) x H := by
  obtain ⟨c0, ad, org, srt, bt, tn, mp, wk, n, ks, vs, chg, tp, ud, tl, an, aks, aus, xs, us, so, w, ar, G, hQ, hx, ⟨⟨kk, hG⟩, ht, hV, hf, ⟨ed, hp, he⟩, hA, hW⟩⟩ := h
  exact ⟨c0, ad, org, srt, bt, tn, mp, wk, n, ks, vs, chg, tp, ud, tl, an, aks, aus, xs, us, so, w, ar, G, hQ, hx, ⟨kk, hG.eq (by omega) rfl rfl rfl rfl rfl⟩, ht, hV, hf, ⟨ed, hp, by omega⟩, hA, hW⟩
theorem lp_le {i L : Nat} (hL : L ≤ 2048) (hi : i ≤ 2048) (h : ¬ nI L - nI 4 < nI i) : i + 4 ≤ L := by
  have a := Int32.le_iff_toInt_le.mp (gi_nltn h)
  rw [Int32.toInt_sub, nI_toInt (by omega), nI_toInt (by omega), nI_toInt (by omega)] at a
  rw [Int.bmod_eq_of_le (by omega) (by omega)] at a
  omega
theorem x22 (x : Int32) : (∃ j, j ≤ 22 ∧ x = nI j) ∨ (x.toInt < 0 ∨ 22 < x.toInt) := by
  by_cases h : 0 ≤ x.toInt ∧ x.toInt ≤ 22
  · exact Or.inl ⟨x.toInt.toNat, by omega, Int32.toInt_inj.mp (by rw [nI_toInt (by omega)]; omega)⟩
  · exact Or.inr (by omega)

set_option maxHeartbeats 4000000 in
set_option maxRecDepth 100000 in
theorem law_loop (l : Launch) (D : va_G) (q : Nat → ClassId) (b z1 z2 : Nat) (F1 F2 : Nat → Int32) {p : Program} {e : Env} {s : State} {m : MethodId} {below : List Frame} {meth : Method} {c : Code} (sc L : Nat) (xs : Nat → Int32) (X : gX p m c code 7 s ([.ref sc] : List Value).toArray R_Law gWS D CL (gY q)) (htr : ∀ e, l.admits e → e.platform.stackTraces = false) (xq : Nat → ClassId) (hE : ∀ U : State, (∀ p : Nat, p < b → U.heap[p]? = s.heap[p]?) → s.WarmedH U.vm → lE b z1 z2 F1 F2 xq U) (hFn : ∀ j, j ≤ 4 → F1 j = nI (fanL j) ∧ F2 j = nI (fanM j)) (hX0 : va_X sc L xs s s.heap) (hLen : L ≤ 2048) (hscb : sc < b) (hbs : b = s.heap.size) (Q : State → Prop) (hq : ∀ (H : Heap) (ls : Array Slot), W p l e room_1 s m ([.ref sc] : List Value).toArray below meth c H [] 601024 7293034 Q (F0 m 1304 ls [.int 1])) : ∀ (fu T i : Nat) (x0 : Int32) (H : Heap) (ls : Array Slot) (locs : List Loc) (cells slots : Nat), 513 - T < fu → T ≤ 512 → i = 4 * T → lJ D q b z1 z2 F1 F2 T x0 H → H[sc]? = s.heap[sc]? → (∀ p : Nat, p < b → H[p]? = s.heap[p]?) → cells ≤ 1000 + 5 * T → slots ≤ 20000 + 22 * T → (∀ x ∈ locs, (fun p => b ≤ p) x.base) → gl ls [some (.ref sc), some (.ref b), some (.ref (b + 559)), some (.ref (b + 588)), some (.int (nI i)), none, none] → W p l e room_1 s m ([.ref sc] : List Value).toArray below meth c H locs cells slots Q (F0 m 23 ls []) := by
  intro fu
  induction fu with
  | zero => intro T i x0 H ls locs cells slots hmu; omega
  | succ fu ih =>
    intro T i x0 H ls locs cells slots hmu hT hiT hJ hsc hfr hce hsl hL hl
    refine lv_iload X.1.1 X.1.2.1 d_Law_law_23 (gl_at hl rfl) ?_
    refine lv_aload_n X.1.1 X.1.2.1 d_Law_law_25 rfl (gl_at hl rfl) ?_
    refine g_slen X hX0 hsc d_Law_law_26 ?_
    refine lv_iconst (v := nI 4) X.1.1 X.1.2.1 d_Law_law_27 (by decide) ?_
    refine lv_isub X.1.1 X.1.2.1 d_Law_law_28 ?_
    refine lv_icmp_gt X.1.1 X.1.2.1 d_Law_law_29 rfl (fun _ => ?_) (fun hc => ?_)
    · refine lv_iconst (v := 1) X.1.1 X.1.2.1 d_Law_law_1303 (by decide) ?_
      exact g_end (fun x hx => by rw [← hbs]; exact hL x hx) (by omega) (by omega) (hq _ _)
    have hi : i + 4 ≤ L := lp_le hLen (by omega) hc
    refine lv_aload_n X.1.1 X.1.2.1 d_Law_law_32 rfl (gl_at hl rfl) ?_
    refine lv_iload X.1.1 X.1.2.1 d_Law_law_33 (gl_at hl rfl) ?_
    refine g_sld X hX0 hsc i (by omega) (by omega) d_Law_law_35 ?_
    refine lv_bipush (v := nI 31) X.1.1 X.1.2.1 d_Law_law_36 (by decide) ?_
    refine lv_iand X.1.1 X.1.2.1 d_Law_law_38 ?_
    have kont : ∀ (x1 : Int32) (H1 : Heap) (locs1 : List Loc) (ls1 : Array Slot) (cells1 slots1 : Nat), lJ D q b z1 z2 F1 F2 (T + 1) x1 H1 → H1[sc]? = s.heap[sc]? → (∀ p : Nat, p < b → H1[p]? = s.heap[p]?) → cells1 ≤ 1000 + 5 * (T + 1) → slots1 ≤ 20000 + 22 * (T + 1) → (∀ x ∈ locs1, (fun p => b ≤ p) x.base) → gl ls1 [some (.ref sc), some (.ref b), some (.ref (b + 559)), some (.ref (b + 588)), some (.int (nI i)), none, none] → W p l e room_1 s m ([.ref sc] : List Value).toArray below meth c H1 locs1 cells1 slots1 Q (F0 m 1297 ls1 []) := by
      intro x1 H1 locs1 ls1 cells1 slots1 k1 k2 k3 k4 k5 k6 k7
      refine g_iinc X.1.1 X.1.2.1 (nI (i + 4)) k7 4 d_Law_law_1297 rfl (nI_add _ 4) rfl (fun ls2 k8 => ?_)
      refine lv_goto X.1.1 X.1.2.1 d_Law_law_1300 rfl ?_
      exact ih (T + 1) (i + 4) x1 H1 ls2 locs1 cells1 slots1 (by omega) (by omega) (by omega) k1 k2 k3 k4 k5 k6 k8
    have kon2 : ∀ (x1 : Int32) (H1 : Heap) (locs1 : List Loc) (ls1 : Array Slot), lJ D q b z1 z2 F1 F2 (T + 1) x1 H1 → H1[sc]? = s.heap[sc]? → (∀ p : Nat, p < b → H1[p]? = s.heap[p]?) → (∀ x ∈ locs1, (fun p => b ≤ p) x.base) → gl ls1 [some (.ref sc), some (.ref b), some (.ref (b + 559)), some (.ref (b + 588)), some (.int (nI i)), none, none] → W p l e room_1 s m ([.ref sc] : List Value).toArray below meth c H1 locs1 (cells + 5) (slots + 22) Q (F0 m 1297 ls1 []) := fun x1 H1 locs1 ls1 h1 h2 h3 h4 h5 => kont x1 H1 locs1 ls1 _ _ h1 h2 h3 (by omega) (by omega) h4 h5
    have hcs : cells + 5 ≤ 601024 ∧ slots + 22 ≤ 7293034 := ⟨by omega, by omega⟩
    rcases x22 (xs i &&& nI 31) with ⟨j, hj, e9⟩ | hout
    · rw [e9]
      rcases (show j = 0 ∨ j = 1 ∨ j = 2 ∨ j = 3 ∨ j = 4 ∨ j = 5 ∨ j = 6 ∨ j = 7 ∨ j = 8 ∨ j = 9 ∨ j = 10 ∨ j = 11 ∨ j = 12 ∨ j = 13 ∨ j = 14 ∨ j = 15 ∨ j = 16 ∨ j = 17 ∨ j = 18 ∨ j = 19 ∨ j = 20 ∨ j = 21 ∨ j = 22 by omega) with rfl | rfl | rfl | rfl | rfl | rfl | rfl | rfl | rfl | rfl | rfl | rfl | rfl | rfl | rfl | rfl | rfl | rfl | rfl | rfl | rfl | rfl | rfl
      · exact lv_tableIn X.1.1 X.1.2.1 d_Law_law_39 (x := nI 0) (by decide) (by decide) rfl rfl (lc_type l D q b z1 z2 F1 F2 sc L xs X htr xq hE hFn hX0 hLen hscb _ i T hi (by omega) x0 H hJ hsc hfr ls locs cells slots hcs hL hl kon2)
      · exact lv_tableIn X.1.1 X.1.2.1 d_Law_law_39 (x := nI 1) (by decide) (by decide) rfl rfl (lc_view l D q b z1 z2 F1 F2 sc L xs X htr xq hE hFn hX0 hLen hscb _ i T hi (by omega) x0 H hJ hsc hfr ls locs cells slots hcs hL hl kon2)
      · exact lv_tableIn X.1.1 X.1.2.1 d_Law_law_39 (x := nI 2) (by decide) (by decide) rfl rfl (lc_put l D q b z1 z2 F1 F2 sc L xs X htr xq hE hFn hX0 hLen hscb _ i T hi (by omega) x0 H hJ hsc hfr ls locs cells slots hcs hL hl kon2)
      · exact lv_tableIn X.1.1 X.1.2.1 d_Law_law_39 (x := nI 3) (by decide) (by decide) rfl rfl (lc_get l D q b z1 z2 F1 F2 sc L xs X htr xq hE hFn hX0 hLen hscb _ i T hi (by omega) x0 H hJ hsc hfr ls locs cells slots hcs hL hl kon2)
      · exact lv_tableIn X.1.1 X.1.2.1 d_Law_law_39 (x := nI 4) (by decide) (by decide) rfl rfl (lc_remove l D q b z1 z2 F1 F2 sc L xs X htr xq hE hFn hX0 hLen hscb _ i T hi (by omega) x0 H hJ hsc hfr ls locs cells slots hcs hL hl kon2)
      · exact lv_tableIn X.1.1 X.1.2.1 d_Law_law_39 (x := nI 5) (by decide) (by decide) rfl rfl (lc_size l D q b z1 z2 F1 F2 sc L xs X htr xq hE hFn hX0 hLen hscb _ i T hi (by omega) x0 H hJ hsc hfr ls locs cells slots hcs hL hl kon2)
      · exact lv_tableIn X.1.1 X.1.2.1 d_Law_law_39 (x := nI 6) (by decide) (by decide) rfl rfl (lc_find l D q b z1 z2 F1 F2 sc L xs X htr xq hE hFn hX0 hLen hscb _ i T hi (by omega) x0 H hJ hsc hfr ls locs cells slots hcs hL hl kon2)
      · exact lv_tableIn X.1.1 X.1.2.1 d_Law_law_39 (x := nI 7) (by decide) (by decide) rfl rfl (lc_at l D q b z1 z2 F1 F2 sc L xs X htr xq hE hFn hX0 hLen hscb _ i T hi (by omega) x0 H hJ hsc hfr ls locs cells slots hcs hL hl kon2)
      · exact lv_tableIn X.1.1 X.1.2.1 d_Law_law_39 (x := nI 8) (by decide) (by decide) rfl rfl (lc_poll l D q b z1 z2 F1 F2 sc L xs X htr xq hE hFn hX0 hLen hscb _ i T hi (by omega) x0 H hJ hsc hfr ls locs cells slots hcs hL hl kon2)
      · exact lv_tableIn X.1.1 X.1.2.1 d_Law_law_39 (x := nI 9) (by decide) (by decide) rfl rfl (lc_found l D q b z1 z2 F1 F2 sc L xs X htr xq hE hFn hX0 hLen hscb _ i T hi (by omega) x0 H hJ hsc hfr ls locs cells slots hcs hL hl kon2)
      · exact lv_tableIn X.1.1 X.1.2.1 d_Law_law_39 (x := nI 10) (by decide) (by decide) rfl rfl (lc_iterate l D q b z1 z2 F1 F2 sc L xs X htr xq hE hFn hX0 hLen hscb _ i T hi (by omega) x0 H hJ hsc hfr ls locs cells slots hcs hL hl kon2)
      · exact lv_tableIn X.1.1 X.1.2.1 d_Law_law_39 (x := nI 11) (by decide) (by decide) rfl rfl (lc_next l D q b z1 z2 F1 F2 sc L xs X htr xq hE hFn hX0 hLen hscb _ i T hi (by omega) x0 H hJ hsc hfr ls locs cells slots hcs hL hl kon2)
      · exact lv_tableIn X.1.1 X.1.2.1 d_Law_law_39 (x := nI 12) (by decide) (by decide) rfl rfl (lc_drop l D q b z1 z2 F1 F2 sc L xs X htr xq hE hFn hX0 hLen hscb _ i T hi (by omega) x0 H hJ hsc hfr ls locs cells slots hcs hL hl kon2)
      · exact lv_tableIn X.1.1 X.1.2.1 d_Law_law_39 (x := nI 13) (by decide) (by decide) rfl rfl (lc_match l D q b z1 z2 F1 F2 sc L xs X htr xq hE hFn hX0 hLen hscb _ i T hi (by omega) x0 H hJ hsc hfr ls locs cells slots hcs hL hl kon2)
      · exact lv_tableIn X.1.1 X.1.2.1 d_Law_law_39 (x := nI 14) (by decide) (by decide) rfl rfl (lc_edges l D q b z1 z2 F1 F2 sc L xs X htr xq hE hFn hX0 hLen hscb _ i T hi (by omega) x0 H hJ hsc hfr ls locs cells slots hcs hL hl kon2)
      · exact lv_tableIn X.1.1 X.1.2.1 d_Law_law_39 (x := nI 15) (by decide) (by decide) rfl rfl (lc_freeze l D q b z1 z2 F1 F2 sc L xs X htr xq hE hFn hX0 hLen hscb _ i T hi (by omega) x0 H hJ hsc hfr ls locs cells slots hcs hL hl kon2)
      · exact lv_tableIn X.1.1 X.1.2.1 d_Law_law_39 (x := nI 16) (by decide) (by decide) rfl rfl (lc_automaton l D q b z1 z2 F1 F2 sc L xs X htr xq hE hFn hX0 hLen hscb _ i T hi (by omega) x0 H hJ hsc hfr ls locs cells slots hcs hL hl kon2)
      · exact lv_tableIn X.1.1 X.1.2.1 d_Law_law_39 (x := nI 17) (by decide) (by decide) rfl rfl (lc_insert l D q b z1 z2 F1 F2 sc L xs X htr xq hE hFn hX0 hLen hscb _ i T hi (by omega) x0 H hJ hsc hfr ls locs cells slots hcs hL hl kon2)
      · exact lv_tableIn X.1.1 X.1.2.1 d_Law_law_39 (x := nI 18) (by decide) (by decide) rfl rfl (lc_delete l D q b z1 z2 F1 F2 sc L xs X htr xq hE hFn hX0 hLen hscb _ i T hi (by omega) x0 H hJ hsc hfr ls locs cells slots hcs hL hl kon2)
      · exact lv_tableIn X.1.1 X.1.2.1 d_Law_law_39 (x := nI 19) (by decide) (by decide) rfl rfl (lc_undo l D q b z1 z2 F1 F2 sc L xs X htr xq hE hFn hX0 hLen hscb _ i T hi (by omega) x0 H hJ hsc hfr ls locs cells slots hcs hL hl kon2)
      · exact lv_tableIn X.1.1 X.1.2.1 d_Law_law_39 (x := nI 20) (by decide) (by decide) rfl rfl (lc_letter l D q b z1 z2 F1 F2 sc L xs X htr xq hE hFn hX0 hLen hscb _ i T hi (by omega) x0 H hJ hsc hfr ls locs cells slots hcs hL hl kon2)
      · exact lv_tableIn X.1.1 X.1.2.1 d_Law_law_39 (x := nI 21) (by decide) (by decide) rfl rfl (lc_suffix l D q b z1 z2 F1 F2 sc L xs X htr xq hE hFn hX0 hLen hscb _ i T hi (by omega) x0 H hJ hsc hfr ls locs cells slots hcs hL hl kon2)
      · exact lv_tableIn X.1.1 X.1.2.1 d_Law_law_39 (x := nI 22) (by decide) (by decide) rfl rfl (lc_locate l D q b z1 z2 F1 F2 sc L xs X htr xq hE hFn hX0 hLen hscb _ i T hi (by omega) x0 H hJ hsc hfr ls locs cells slots hcs hL hl kon2)
    · exact lv_tableOut X.1.1 X.1.2.1 d_Law_law_39 hout rfl (kont x0 H locs ls cells slots hJ.mono hsc hfr (by omega) (by omega) hL hl)
