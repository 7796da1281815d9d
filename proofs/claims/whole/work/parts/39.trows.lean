/-! own rows, 5: calls that throw; what is caught -/
section GTC
variable {p : Program} {l : Launch} {e : Env} {R : Room} {s : State} {m : MethodId} {args : Array Value} {below : List Frame} {meth : Method} {c : Code} {H : Heap} {locs : List Loc} {cells slots : Nat} {Q : State → Prop}
variable {cc : ByteArray} {nL pc : Nat} {ls : Array Slot} {rest : List Value} {D : va_G} {cl : List vw_C} {A A1 : Nat → Prop} {a : Nat} {tys : List (ClassId × FieldType)} {own C : String} {T : u_T} {N ci index : Nat} {Ts : List Cond} {ty : Nat → FieldType} {Post Post' : Nat → Heap → Prop} {mc ms mc' ms' : Nat} {name : String} {E : State → Prop}
variable {y : MethodName} {bytes : ByteArray} {maxL n : Nat} {ret : Option FieldType} {rm : Room} {b : Nat} {fs As st : List Value}
/-- a call has thrown x: the note lies over the caller's frame -/
def gThr (p : Program) (l : Launch) (e : Env) (R : Room) (s : State) (m : MethodId) (args : Array Value) (below : List Frame) (meth : Method) (c : Code) (H : Heap) (locs : List Loc) (cells slots mc ms : Nat) (g g' : JFrame) (Post' : Nat → Heap → Prop) (A1 : Nat → Prop) : Prop :=
  ∀ T : State, T.heap = H → Stand p l e R s m args below meth c T locs cells slots → ∃ (x : Nat) (T' : State) (L : List Loc), Stand p l e R s m args below meth c T' (locs ++ L) (cells + mc) (slots + ms) ∧ Post' x T'.heap ∧ (∀ q ∈ L, A1 q.base) ∧
    ∀ target, Steps p.tables e below ((T'.setTop g').pushFrame (.throwing x)) target → Steps p.tables e below (T.setTop g) target
theorem g_thr0 {U : State} (X₁ : Stand p l e R s m args below meth c U locs cells slots) (hU : U.heap = H) (hG : ∀ w ∈ (Cond.code y bytes maxL ret :: Ts), ∀ (a' : Array Value) (V : State), s.WarmedH V.vm → w.before a' V = true) (hini : (Cond.initialized y.cls).before args s = true)
    {vs : List Value} (hM : gT l y (Cond.code y bytes maxL ret :: Ts) rm D cl tys E vs H Post' mc ms A1) (hK : va_K D cl tys s) (hE : ∀ V : State, V.heap = H → s.WarmedH V.vm → E V) (hEb : gBlind E)
    {g : JFrame} (hg : g.method = m) (hsize : g.locals.size = c.maxLocals) {mk : MethodId} (hn : U.methodNamed? y = some mk) {ig : Instr} (hdg : decode c.code g.pc = .ok (ig, 3)) (hW : 2 * g.monitorRoom + (g.stack.map fun v => v.category).sum ≤ 8)
    (hrc : rm.cells = mc) (hrs : rm.slots = ms) (hR : rm.frames + 1 ≤ R.frames ∧ 8 + (maxL + 11) + rm.locals ≤ R.locals) (hf : cells + mc ≤ R.cells ∧ slots + ms ≤ R.slots) :
    ∃ (x : Nat) (T' : State) (L : List Loc), Stand p l e R s m args below meth c T' (locs ++ L) (cells + mc) (slots + ms) ∧ Post' x T'.heap ∧ (∀ q ∈ L, A1 q.base) ∧ Steps p.tables e below (doInvoke e (U.setTop g) [] mk vs.toArray).1 ((T'.setTop g).pushFrame (.throwing x)) := by
  have hall : ∀ w ∈ (Cond.code y bytes maxL ret :: Ts), w.before vs.toArray U = true := fun w hw => hG w hw _ _ X₁.warmed
  obtain ⟨methY, cY, hmY, hcY, -, hlY, -, -, -, -⟩ := Cond.code_spec hn (hall _ List.mem_cons_self)
  obtain ⟨kY, hkY, -⟩ := className_of_methodNamed hn
  have hini' : (Cond.initialized y.cls).before args U = true := word_at X₁.warmed (Or.inl (by first | rfl | simp [Cond.onTables, Cond.keeps, Cond.steady])) hini
  have hinitY : kY.init = .initialized := Cond.initialized_spec (findClass_of_methodNamed hn) hkY hini'
  have h : At U g.method c below := by rw [hg]; exact X₁.here
  have happ : (headSpec (Cond.code y bytes maxL ret :: Ts) rm).appliesLoose y e.platform (U.calling g mk vs.toArray) = true :=
    Spec.appliesLoose_calling (g := g) h hdg hn hkY hinitY
      (X₁.room_calling (g := g) (R' := rm) hsize hmY hcY hR.1 (by rw [hlY]; have := hR.2; omega) (by rw [hrc]; exact hf.1) (by rw [hrs]; exact hf.2)) (atoms_intro hall)
  obtain ⟨mid, hmid⟩ := h.above
  have hfr : (U.setTop g).frames = (.java g :: mid) ++ below := by rw [State.frames_setTop' g h.top, hmid]; rfl
  have hPc : va_Pc vs (fun V => V.heap = H ∧ va_K D cl tys V ∧ E V) vs.toArray (U.calling g mk vs.toArray) :=
    ⟨rfl, hU, va_K.moved (u := U) (U := U.calling g mk vs.toArray) (Vm.Alike.refl U.vm) (va_K.moved X₁.warmed.alike hK), hEb _ _ _ _ (hE U hU X₁.warmed)⟩
  obtain ⟨o, s₂, hsteps, -, hend, hq⟩ := Steps.callFree hM p X₁.admits X₁.cas X₁.clock (acts := []) hfr happ hPc trivial
  obtain ⟨x, rfl, hpost, L, hW₂, hsame, hL'⟩ := hq
  rw [State.frames_setTop' g h.top, X₁.tail] at hend
  obtain ⟨T', X', -, -, ht⟩ := X₁.outOfThrown (g := g) hg (mk := mk) (a := vs.toArray) hend hW₂ hsame
  refine ⟨x, T', L, X', ?_, hL', ?_⟩
  · have e1 : s₂.heap = T'.heap := by rw [ht]; exact Stand.throwing_heap T' g x
    rw [← e1]
    exact hpost
  · rw [← ht]
    exact hsteps
theorem g_tv (X : gX p m c cc nL s args own Ts D cl tys) (hG : gGood Ts) (w : gwV Ts own index y bytes maxL ret n) (K : gk Ts cl ci y.cls T N ty) (hrec : va_at D cl (b, .inr (ci, fs)) H)
    (hM : gT l y (Cond.code y bytes maxL ret :: Ts) rm D cl tys E (.ref b :: As) H Post' mc ms A1) (hE : ∀ U : State, U.heap = H → s.WarmedH U.vm → E U) (hEb : gBlind E)
    (hn : As.length = n) (hst : st = As.reverse ++ .ref b :: rest) (hls : ls.size = nL) (hW : (rest.map fun v => v.category).sum ≤ 8) (hrc : rm.cells = mc) (hrs : rm.slots = ms) (hR : rm.frames + 1 ≤ R.frames ∧ 8 + (maxL + 11) + rm.locals ≤ R.locals) (hf : cells + mc ≤ R.cells ∧ slots + ms ≤ R.slots)
    (hdg : decode cc pc = .ok (.invokevirtual index, 3)) : gThr p l e R s m args below meth c H locs cells slots mc ms (F0 m pc ls st) (F0 m pc ls rest) Post' A1 := by
  obtain ⟨⟨hexec, hb, hml, hown, hts⟩, hK⟩ := X
  have win : ∀ w' ∈ wsV own index y.cls y [Cond.code y bytes maxL ret], w'.before args s = true := fun w' h => hts _ (w.1 w' h)
  have hinst : (Cond.instanceMethod y).before args s = true := win _ (by simp [wsV])
  have hlink : (Cond.methodLink own index y).before args s = true := win _ (by simp [wsV])
  have hsel : (Cond.selects y.cls y y).before args s = true := win _ (by simp [wsV])
  have hini : (Cond.initialized y.cls).before args s = true := win _ (by simp [wsV])
  have hcode : (Cond.code y bytes maxL ret).before args s = true := win _ (by simp [wsV])
  have hcin : Cond.code y bytes maxL ret ∈ Ts := w.1 _ (by simp [wsV])
  have hgood : ∀ w' ∈ (Cond.code y bytes maxL ret :: Ts), ∀ (a' : Array Value) (V : State), s.WarmedH V.vm → w'.before a' V = true := by
    intro w' hw' a' V hV
    have hin : w' ∈ Ts := by
      rcases List.mem_cons.mp hw' with h | h
      · rw [h]; exact hcin
      · exact h
    exact word_at hV (hG w' hin) (hts w' hin)
  have hlen : ∀ sig, parseMethodDescriptor y.desc = some sig → As.length = sig.parameters.length := by
    intro sig h
    have h2 := w.2.2.2
    rw [h] at h2
    rw [hn]
    exact (Option.some.inj h2).symm
  obtain ⟨cellB, hcB, hoB, hclB⟩ := va_recv hK (g_P1 hrec) K.2.2.2 (q0 := 0) rfl
  intro T hT XS
  obtain ⟨mk, methM, hnamed, hmethM, hstM, habM⟩ := Cond.instanceMethod_spec hinst
  obtain ⟨methM', cM, hmethM', -, -, -, -, -, -, hsigM⟩ := Cond.code_spec hnamed hcode
  cases hmethM.symm.trans hmethM'
  obtain ⟨c2, r2, m2, q1, q2, q3, q4, kP, hkP, hkPi⟩ := Cond.selects_spec hsel
  cases hclB.symm.trans q1
  cases (State.methodFound?_of_named hnamed ⟨w.2.1, w.2.2.1⟩).symm.trans q2
  cases hnamed.symm.trans q3
  have hselP : selectMethod e.platform s.vm cellB.cls mk = .method mk := by rw [Launch.admits_selectMethod XS.admits]; exact q4
  obtain ⟨vm₁, X₁, hstep₁⟩ := XS.invokevirtual hexec hown hlink hnamed hmethM hstM hkP hkPi ⟨w.2.1, w.2.2.1⟩ (a := b) (cell := cellB) (by rw [hT]; exact hcB)
    (fun z h => by rw [h] at hoB; cases hoB) hselP hmethM habM hkP hkPi (g := F0 m pc ls st) rfl (argsL := As) (rest := rest) (hlen _ hsigM) hst (by rw [hb]; exact hdg)
  obtain ⟨x, T', L, X', hp, hL', hs⟩ := g_thr0 X₁ (H := H) hT hgood hini hM hK hE hEb (g := F0 m pc ls rest) rfl (hls.trans hml.symm) (X₁.named hnamed) (by rw [hb]; exact hdg) (lv_room hW) hrc hrs hR hf
  exact ⟨x, T', L, X', hp, hL', fun target h => hstep₁ _ fun acts => by rw [doInvoke_state]; exact hs.trans h⟩
/-- what a callee throws leaves the method that has no table -/
theorem g_leave (B : gB meth ret name) (hne : c.exceptionTable.isEmpty = true) {g : JFrame} (hth : gThr p l e R s m args below meth c H locs cells slots mc ms g (F0 m pc ls rest) Post' A1) (hP : ∀ x H1, Post' x H1 → Post x H1) (hA : ∀ q, A1 q → A q) (hL : ∀ x ∈ locs, A x.base) (hc : cells + mc ≤ mc') (hs : slots + ms ≤ ms') : W p l e R s m args below meth c H locs cells slots (gTQ below s Post mc' ms' A) g := by
  intro T hT X
  obtain ⟨x, T', L, X', hp, hL', st⟩ := hth T hT X
  have X2 := stand_widen X' hc hs
  have h0 : c.exceptionTable.toList = [] := List.eq_nil_of_length_eq_zero (by simpa [Array.isEmpty] using hne)
  obtain ⟨hwalk, hrun, hended, hW, hsame⟩ := X2.leaveThrown x (g := F0 m pc ls rest) rfl rfl rfl (fun z hz => by rw [h0] at hz; cases hz) B.2.1
  refine ⟨_, st _ hwalk, x, hrun, hended, hP x _ hp, locs ++ L, hW, hsame, fun q hq => ?_⟩
  rcases List.mem_append.mp hq with h | h
  · exact hL q h
  · exact hA _ (hL' q h)
/-- the constructor of an exception, in a walk -/
theorem g_exinit (X : gX p m c cc nL s args own Ts D cl tys) (htr : ∀ e', l.admits e' → e'.platform.stackTraces = false) {cls : String} {names : List String} {ic : Nat} (hcls : Jvm.Bundle.fit cls = true) (hnames : ∀ n ∈ names, Jvm.Bundle.fit n = true)
    (h : ∀ a ∈ Jvm.Bundle.ownAtoms0 own ic cls names, a.before args s = true) {b0 : Nat} (hlocs : ∀ x ∈ locs, b0 ≤ x.base) (hst : ∀ (c0 : ClassId) (k0 : Class) (z : Nat), s.vm.findClass Jvm.Bundle.tN = some c0 → s.vm.classes[c0]? = some k0 → k0.statics = some z → z < b0)
    {cX : ClassId} {kX : Class} (hfoundX : s.vm.findClass cls = some cX) (hkX : s.vm.classes[cX]? = some kX) (hcell : H[a]? = some (freshCell cX kX)) (hnew : s.heap.size ≤ a) (hls : ls.size = nL)
    (hdg : decode cc pc = .ok (.invokespecial ic, 3)) (hRf : names.length + 3 < R.frames) (hRl : ((Value.ref a :: rest).map fun v => v.category).sum + (13 * (names.length + 1) + 41) ≤ R.locals)
    (kk : ∀ (H1 : Heap) (ce : Cell), H1[a]? = some ce → ce.cls = cX → ce.vm = .none → H1.size = H.size → (∀ q : Nat, q ≠ a → H1[q]? = H[q]?) → W p l e R s m args below meth c H1 locs cells slots Q (F0 m (pc + 3) ls (.ref a :: rest))) : W p l e R s m args below meth c H locs cells slots Q (F0 m pc ls (.ref a :: .ref a :: rest)) := by
  obtain ⟨⟨hexec, hb, hml, hown, hts⟩, hK⟩ := X
  intro T hT XS
  obtain ⟨vm', ce, L, hL, h1, h2, X', st⟩ := g_exinit0 (W := T) XS hexec (htr e XS.admits) hown hcls hnames h hlocs hst hfoundX hkX (by rw [hT]; exact hcell) hnew (g := F0 m pc ls (.ref a :: .ref a :: rest)) rfl (hls.trans hml.symm) (rest := rest) rfl (by rw [hb]; exact hdg) hRf (by show 2 * 0 + _ + _ ≤ _; omega)
  have hlt : a < T.heap.size := by rw [hT]; exact (Array.getElem?_eq_some_iff.mp hcell).1
  have X2 := Stand.forget (extra := L) X' (fun q hq => by rw [hL q hq]; exact hnew)
  have e1 : ((T.setVm vm').setCell a ce).heap[a]? = some ce := heapAt_setCell_self (s := T.setVm vm') _ hlt
  obtain ⟨t, a1, b1⟩ := kk ((T.setVm vm').setCell a ce).heap ce e1 h1 h2 (by rw [size_setCell]; exact congrArg Array.size hT) (fun q hq => by rw [heapAt_setCell_ne _ (Ne.symm hq)]; exact congrArg (fun z : Heap => z[q]?) hT) _ rfl X2
  exact ⟨t, st t a1, b1⟩
end GTC
