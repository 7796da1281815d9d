/-! own rows, 3: contracts over a given heap, and calls -/
def gC (l : Launch) (y : MethodName) (ws : List Cond) (rm : Room) (D : va_G) (cl : List vw_C) (tys : List (ClassId × FieldType)) (E : State → Prop) (vs : List Value) (H0 : Heap) (Post : Option Value → Heap → Prop) (mc ms : Nat) (A : Nat → Prop) : Prop :=
  Met l y ws rm (va_Pc vs (fun U => U.heap = H0 ∧ va_K D cl tys U ∧ E U)) (fun _ _ oc t => ∃ v, oc = .returned v ∧ Post v t.heap) mc ms A
def gQ (below : List Frame) (args : Array Value) (s : State) (Post : Option Value → Heap → Prop) (mc ms : Nat) (A : Nat → Prop) : State → Prop :=
  MQ below (fun _ _ oc t => ∃ v, oc = .returned v ∧ Post v t.heap) args s mc ms A
/-- what a walk leans on beside its cells -/
def gB (meth : Method) (ret : Option FieldType) (name : String) : Prop := meth.sig.returnType = ret ∧ meth.locks = false ∧ meth.name = name
/-- facts that don't look at the frames -/
def gBlind (E : State → Prop) : Prop := ∀ (U : State) (g : JFrame) (mk : MethodId) (a : Array Value), E U → E (U.calling g mk a)
theorem gBlind.tt : gBlind (fun _ => True) := fun _ _ _ _ h => h
theorem gC.ofW {l : Launch} {y : MethodName} {Ts : List Cond} {rm : Room} {D : va_G} {cl : List vw_C} {tys : List (ClassId × FieldType)} {E : State → Prop} {vs : List Value} {H0 : Heap} {Post : Option Value → Heap → Prop} {mc ms : Nat} {A : Nat → Prop} {cc : ByteArray} {maxL : Nat} {ret : Option FieldType} (own name : String)
    (hy : plainName y.cls = true) (hyo : y.cls = own) (hyn : y.name = name)
    (body : ∀ p e s m below meth c, l.admits e → gX p m c cc maxL s vs.toArray own Ts D cl tys → E s → s.heap = H0 → gB meth ret name → c.exceptionTable.isEmpty = true →
      W p l e rm s m vs.toArray below meth c H0 [] 0 0 (gQ below vs.toArray s Post mc ms A) (entryFrame m vs.toArray maxL)) : gC l y (Cond.code y cc maxL ret :: Ts) rm D cl tys E vs H0 Post mc ms A := by
  refine Met.ofW (cc := cc) (maxL := maxL) (ret := ret) hy rfl ?_
  intro p e s m args below meth c s₁ B hml hv
  obtain ⟨rfl, hH, hK, hE⟩ := hv
  have hts := atoms_spec (ws := Cond.code y cc maxL ret :: Ts) B.pre
  have hown : s.vm.findClass y.cls = some m.cls := findClass_of_methodNamed B.named
  have hnm := (name_of_methodNamed B.named B.method).1
  have h := body p e s m below meth c B.admits ⟨⟨B.exec, B.bytes, hml, by rw [← hyo]; exact hown, fun w hw => hts w (List.mem_cons_of_mem _ hw)⟩, hK⟩ hE hH ⟨B.returns, B.notSynchronized, hnm.trans hyn⟩ (B.noHandlers (hts _ List.mem_cons_self))
  rw [← hH] at h
  exact h
section GCR
variable {p : Program} {l : Launch} {e : Env} {R : Room} {s : State} {m : MethodId} {args : Array Value} {below : List Frame} {meth : Method} {c : Code} {H : Heap} {locs : List Loc} {cells slots : Nat} {Q : State → Prop}
variable {cc : ByteArray} {nL pc : Nat} {ls : Array Slot} {rest : List Value} {D : va_G} {cl : List vw_C} {A A1 : Nat → Prop} {a : Nat} {tys : List (ClassId × FieldType)} {own C : String} {T : u_T} {N ci index : Nat} {Ts : List Cond} {ty : Nat → FieldType} {Post Post' : Option Value → Heap → Prop} {mc ms : Nat} {name : String} {E : State → Prop}
theorem g_iret (X : gX p m c cc nL s args own Ts D cl tys) (B : gB meth (some .int) name) {v : Int32} (hP : Post (some (.int v)) H) (hL : ∀ x ∈ locs, A x.base) (hdg : decode cc pc = .ok (.ireturn, 1)) (hc : cells ≤ mc) (hs : slots ≤ ms) : W p l e R s m args below meth c H locs cells slots (gQ below args s Post mc ms A) (F0 m pc ls [.int v]) :=
  W.widen hc hs (W.iret X.1.1 X.1.2.1 B.1 (fun t ht _ => ⟨_, rfl, by rw [ht]; exact hP⟩) hL hdg B.2.1)
theorem g_zret (X : gX p m c cc nL s args own Ts D cl tys) (B : gB meth (some .boolean) name) {v : Int32} (hv : narrow .boolean (.int v) = .int v) (hP : Post (some (.int v)) H) (hL : ∀ x ∈ locs, A x.base) (hdg : decode cc pc = .ok (.ireturn, 1)) (hc : cells ≤ mc) (hs : slots ≤ ms) : W p l e R s m args below meth c H locs cells slots (gQ below args s Post mc ms A) (F0 m pc ls [.int v]) :=
  W.widen hc hs (W.zret X.1.1 X.1.2.1 B.1 hv (fun t ht _ => ⟨_, rfl, by rw [ht]; exact hP⟩) hL hdg B.2.1)
theorem g_vret (X : gX p m c cc nL s args own Ts D cl tys) (B : gB meth none name) (hP : Post none H) (hL : ∀ x ∈ locs, A x.base) (hdg : decode cc pc = .ok (.return_, 1)) (hc : cells ≤ mc) (hs : slots ≤ ms) : W p l e R s m args below meth c H locs cells slots (gQ below args s Post mc ms A) (F0 m pc ls []) :=
  W.widen hc hs (W.vret X.1.1 X.1.2.1 B.1 (fun t ht _ => ⟨_, rfl, by rw [ht]; exact hP⟩) hL hdg B.2.1)
theorem g_aret (X : gX p m c cc nL s args own Ts D cl tys) {rt : String} (B : gB meth (some (.object rt)) name) {v : Nat} (hP : Post (some (.ref v)) H) (hL : ∀ x ∈ locs, A x.base) (hdg : decode cc pc = .ok (.areturn, 1)) (hc : cells ≤ mc) (hs : slots ≤ ms) : W p l e R s m args below meth c H locs cells slots (gQ below args s Post mc ms A) (F0 m pc ls [.ref v]) :=
  W.widen hc hs (W.aret X.1.1 X.1.2.1 B.1 (Or.inl ⟨_, rfl⟩) (Or.inr ⟨_, rfl⟩) (fun t ht _ => ⟨_, rfl, by rw [ht]; exact hP⟩) hL hdg B.2.1)
theorem g_run {st : List Value} (hr : va_Run p l e R s m args below meth c H locs cells slots mc ms (F0 m pc ls st) rest (fun _ oc t => ∃ v, oc = .returned v ∧ Post' v t.heap) A1) (hA : ∀ q, A1 q → A q) (hL : ∀ x ∈ locs, A x.base)
    (kk : ∀ (v : Option Value) (H1 : Heap) (locs1 : List Loc), Post' v H1 → (∀ x ∈ locs1, A x.base) → W p l e R s m args below meth c H1 locs1 (cells + mc) (slots + ms) Q (F0 m (pc + 3) ls (v.toList ++ rest))) : W p l e R s m args below meth c H locs cells slots Q (F0 m pc ls st) := by
  intro T hT X
  obtain ⟨v, st₀, t, T', L, h0, X', hL', e1, e2, ⟨v', hv, hp⟩, st'⟩ := hr T hT X
  cases hv
  obtain ⟨t2, a1, b1⟩ := kk v T'.heap (locs ++ L) (by rw [e1]; exact hp) (fun x hx => by
    rcases List.mem_append.mp hx with h | h
    · exact hL x h
    · exact hA _ (hL' x h)) T' rfl X'
  exact ⟨t2, st' t2 a1, b1⟩
theorem g_pre {As : List Value} (hK : va_K D cl tys s) (hE : ∀ U : State, U.heap = H → s.WarmedH U.vm → E U) (hEb : gBlind E) : PreS s H (va_Pc As (fun U => U.heap = H ∧ va_K D cl tys U ∧ E U)) As :=
  ⟨fun a U g mk q => ⟨q.1, q.2.1, va_K.moved (u := U) (U := U.calling g mk a) (Vm.Alike.refl U.vm) q.2.2.1, hEb _ _ _ _ q.2.2.2⟩, fun U hU hW => ⟨rfl, hU, va_K.moved hW.alike hK, hE U hU hW⟩⟩
def gGood (Ts : List Cond) : Prop := ∀ w ∈ Ts, ((w.onTables && w.keeps) = true ∨ ∃ ty, w = .arrayClass ty)
def gGoodB (w : Cond) : Bool := (w.onTables && w.keeps) || (match w with | .arrayClass _ => true | _ => false)
theorem gGood_one {w : Cond} (h1 : gGoodB w = true) : (w.onTables && w.keeps) = true ∨ ∃ ty, w = .arrayClass ty := by
  unfold gGoodB at h1
  rcases Bool.or_eq_true_iff.mp h1 with h2 | h2
  · exact Or.inl h2
  · refine Or.inr ?_
    cases w <;> first | exact ⟨_, rfl⟩ | cases h2
theorem gGood.in {Ts ws : List Cond} (h : gGood Ts) (hw : ∀ w ∈ ws, w ∈ Ts) : GoodIn Ts ws := fun w h1 => ⟨hw w h1, h w (hw w h1)⟩
/-- the words of a call of an instance method, of a constructor, of a static method -/
def gwV (Ts : List Cond) (own : String) (index : Nat) (y : MethodName) (bytes : ByteArray) (maxL : Nat) (ret : Option FieldType) (n : Nat) : Prop :=
  (∀ w ∈ wsV own index y.cls y [Cond.code y bytes maxL ret], w ∈ Ts) ∧ (y.cls ≠ "java/lang/invoke/MethodHandle" ∧ y.cls ≠ "java/lang/invoke/VarHandle" ∧ (parseMethodDescriptor y.desc).map (fun d => d.parameters.length) = some n)
def gwI (Ts : List Cond) (own : String) (index : Nat) (y : MethodName) (bytes : ByteArray) (maxL : Nat) (n : Nat) : Prop :=
  (∀ w ∈ ([.methodLink own index y, .instanceMethod y, .initialized y.cls, .code y bytes maxL none] : List Cond), w ∈ Ts) ∧ y.name = "<init>" ∧ (y.cls ≠ "java/lang/invoke/MethodHandle" ∧ y.cls ≠ "java/lang/invoke/VarHandle" ∧ (parseMethodDescriptor y.desc).map (fun d => d.parameters.length) = some n)
def gwS (Ts : List Cond) (own : String) (index : Nat) (y : MethodName) (bytes : ByteArray) (maxL : Nat) (ret : Option FieldType) (n : Nat) : Prop :=
  (∀ w ∈ wsS own index y [Cond.code y bytes maxL ret], w ∈ Ts) ∧ (y.cls = own ∧ y.cls ≠ "java/lang/invoke/MethodHandle" ∧ y.cls ≠ "java/lang/invoke/VarHandle" ∧ (parseMethodDescriptor y.desc).map (fun d => d.parameters.length) = some n)
variable {y : MethodName} {bytes : ByteArray} {maxL n : Nat} {ret : Option FieldType} {rm : Room} {b : Nat} {fs As st : List Value}
theorem g_cv (X : gX p m c cc nL s args own Ts D cl tys) (hG : gGood Ts) (w : gwV Ts own index y bytes maxL ret n) (K : gk Ts cl ci y.cls T N ty) (hrec : va_at D cl (b, .inr (ci, fs)) H)
    (hM : gC l y (Cond.code y bytes maxL ret :: Ts) rm D cl tys E (.ref b :: As) H Post' mc ms A1) (hE : ∀ U : State, U.heap = H → s.WarmedH U.vm → E U) (hEb : gBlind E)
    (hn : As.length = n) (hst : st = As.reverse ++ .ref b :: rest) (hls : ls.size = nL) (hW : (rest.map fun v => v.category).sum ≤ 8) (hrc : rm.cells = mc) (hrs : rm.slots = ms) (hR : rm.frames + 1 ≤ R.frames ∧ 8 + (maxL + 11) + rm.locals ≤ R.locals) (hf : cells + mc ≤ R.cells ∧ slots + ms ≤ R.slots)
    (hdg : decode cc pc = .ok (.invokevirtual index, 3)) (hA : ∀ q, A1 q → A q) (hL : ∀ x ∈ locs, A x.base)
    (kk : ∀ (v : Option Value) (H1 : Heap) (locs1 : List Loc), Post' v H1 → (∀ x ∈ locs1, A x.base) → W p l e R s m args below meth c H1 locs1 (cells + mc) (slots + ms) Q (F0 m (pc + 3) ls (v.toList ++ rest))) : W p l e R s m args below meth c H locs cells slots Q (F0 m pc ls st) := by
  have hin : ∀ w' ∈ wsV own index y.cls y (Cond.code y bytes maxL ret :: Ts), w' ∈ Ts := by
    intro w' hw'
    unfold wsV at hw'
    rcases List.mem_append.mp hw' with h | h
    · exact w.1 w' (by unfold wsV; exact List.mem_append_left _ h)
    · rcases List.mem_cons.mp h with h | h
      · exact w.1 w' (by unfold wsV; rw [h]; exact List.mem_append_right _ (List.mem_singleton.mpr rfl))
      · exact h
  have cw := cwV (R := R) (C := y.cls) (rm := rm) (mc := mc) (ms := ms) n X.1.2.2.2.2 (hG.in hin) rfl hrc hrs ⟨rfl, w.2⟩ hR
  have hp := g_pre (As := .ref b :: As) X.2 hE hEb
  refine g_run (va_runV (As := As) (b := b) (rest := rest) X.1 hM cw ⟨hp.1, va_recv X.2 (g_P1 hrec) K.2.2.2 (q0 := 0) rfl, hp.2⟩ rfl hn hls hst (lv_room hW) hdg hf) hA hL kk
theorem g_ci (X : gX p m c cc nL s args own Ts D cl tys) (hG : gGood Ts) (w : gwI Ts own index y bytes maxL n)
    (hM : gC l y (Cond.code y bytes maxL none :: Ts) rm D cl tys E (.ref b :: As) H Post' mc ms A1) (hE : ∀ U : State, U.heap = H → s.WarmedH U.vm → E U) (hEb : gBlind E)
    (hn : As.length = n) (hst : st = As.reverse ++ .ref b :: rest) (hls : ls.size = nL) (hW : (rest.map fun v => v.category).sum ≤ 8) (hrc : rm.cells = mc) (hrs : rm.slots = ms) (hR : rm.frames + 1 ≤ R.frames ∧ 8 + (maxL + 11) + rm.locals ≤ R.locals) (hf : cells + mc ≤ R.cells ∧ slots + ms ≤ R.slots)
    (hdg : decode cc pc = .ok (.invokespecial index, 3)) (hA : ∀ q, A1 q → A q) (hL : ∀ x ∈ locs, A x.base)
    (kk : ∀ (v : Option Value) (H1 : Heap) (locs1 : List Loc), Post' v H1 → (∀ x ∈ locs1, A x.base) → W p l e R s m args below meth c H1 locs1 (cells + mc) (slots + ms) Q (F0 m (pc + 3) ls (v.toList ++ rest))) : W p l e R s m args below meth c H locs cells slots Q (F0 m pc ls st) := by
  have hin : ∀ w' ∈ (Cond.code y bytes maxL none :: Ts), w' ∈ Ts := by
    intro w' hw'
    rcases List.mem_cons.mp hw' with h | h
    · rw [h]; exact w.1 _ (by simp)
    · exact h
  have cw := cwI (R := R) (rm := rm) (mc := mc) (ms := ms) n X.1.2.2.2.2 (hG.in hin) rfl hrc hrs (X.1.2.2.2.2 _ (w.1 _ (by simp))) (X.1.2.2.2.2 _ (w.1 (.methodLink own index y) (by simp))) (X.1.2.2.2.2 _ (w.1 _ (by simp))) w.2.1 w.2.2 hR
  exact g_run (va_runI (As := As) (b := b) (rest := rest) X.1 hM cw (g_pre (As := .ref b :: As) X.2 hE hEb) rfl hn hls hst (lv_room hW) hdg hf) hA hL kk
theorem g_cs (X : gX p m c cc nL s args own Ts D cl tys) (hG : gGood Ts) (w : gwS Ts own index y bytes maxL ret n)
    (hM : gC l y (Cond.code y bytes maxL ret :: Ts) rm D cl tys E As H Post' mc ms A1) (hE : ∀ U : State, U.heap = H → s.WarmedH U.vm → E U) (hEb : gBlind E)
    (hn : As.length = n) (hst : st = As.reverse ++ rest) (hls : ls.size = nL) (hW : (rest.map fun v => v.category).sum ≤ 8) (hrc : rm.cells = mc) (hrs : rm.slots = ms) (hR : rm.frames + 1 ≤ R.frames ∧ 8 + (maxL + 11) + rm.locals ≤ R.locals) (hf : cells + mc ≤ R.cells ∧ slots + ms ≤ R.slots)
    (hdg : decode cc pc = .ok (.invokestatic index, 3)) (hA : ∀ q, A1 q → A q) (hL : ∀ x ∈ locs, A x.base)
    (kk : ∀ (v : Option Value) (H1 : Heap) (locs1 : List Loc), Post' v H1 → (∀ x ∈ locs1, A x.base) → W p l e R s m args below meth c H1 locs1 (cells + mc) (slots + ms) Q (F0 m (pc + 3) ls (v.toList ++ rest))) : W p l e R s m args below meth c H locs cells slots Q (F0 m pc ls st) := by
  have hin : ∀ w' ∈ wsS own index y (Cond.code y bytes maxL ret :: Ts), w' ∈ Ts := by
    intro w' hw'
    unfold wsS at hw'
    rcases List.mem_append.mp hw' with h | h
    · exact w.1 w' (by unfold wsS; exact List.mem_append_left _ h)
    · rcases List.mem_cons.mp h with h | h
      · exact w.1 w' (by unfold wsS; rw [h]; exact List.mem_append_right _ (List.mem_singleton.mpr rfl))
      · exact h
  have cw := cwS (R := R) (rm := rm) (mc := mc) (ms := ms) n X.1.2.2.2.2 (hG.in hin) rfl hrc hrs w.2 hR
  exact g_run (va_runS (As := As) (rest := rest) X.1 hM cw (g_pre (As := As) X.2 hE hEb) rfl hn hls hst (lv_room hW) hdg hf) hA hL kk
end GCR
theorem gwV_of {Ts : List Cond} {own : String} {index : Nat} {y : MethodName} {bytes : ByteArray} {maxL : Nat} {ret : Option FieldType} {n : Nat} (h1 : Cond.methodLink own index y ∈ Ts) (h2 : Cond.instanceMethod y ∈ Ts) (h3 : Cond.selects y.cls y y ∈ Ts) (h4 : Cond.initialized y.cls ∈ Ts) (h5 : Cond.code y bytes maxL ret ∈ Ts)
    (hd : y.cls ≠ "java/lang/invoke/MethodHandle" ∧ y.cls ≠ "java/lang/invoke/VarHandle" ∧ (parseMethodDescriptor y.desc).map (fun d => d.parameters.length) = some n) : gwV Ts own index y bytes maxL ret n := by
  refine ⟨fun w hw => ?_, hd⟩
  simp only [wsV, List.mem_append, List.mem_cons, List.not_mem_nil, or_false] at hw
  rcases hw with (rfl | rfl | rfl | rfl) | rfl
  · exact h1
  · exact h2
  · exact h3
  · exact h4
  · exact h5
theorem gwI_of {Ts : List Cond} {own : String} {index : Nat} {y : MethodName} {bytes : ByteArray} {maxL : Nat} {n : Nat} (h1 : Cond.methodLink own index y ∈ Ts) (h2 : Cond.instanceMethod y ∈ Ts) (h4 : Cond.initialized y.cls ∈ Ts) (h5 : Cond.code y bytes maxL none ∈ Ts) (hn : y.name = "<init>")
    (hd : y.cls ≠ "java/lang/invoke/MethodHandle" ∧ y.cls ≠ "java/lang/invoke/VarHandle" ∧ (parseMethodDescriptor y.desc).map (fun d => d.parameters.length) = some n) : gwI Ts own index y bytes maxL n := by
  refine ⟨fun w hw => ?_, hn, hd⟩
  simp only [List.mem_cons, List.not_mem_nil, or_false] at hw
  rcases hw with rfl | rfl | rfl | rfl
  · exact h1
  · exact h2
  · exact h4
  · exact h5
theorem gwS_of {Ts : List Cond} {own : String} {index : Nat} {y : MethodName} {bytes : ByteArray} {maxL : Nat} {ret : Option FieldType} {n : Nat} (h1 : Cond.methodLink own index y ∈ Ts) (h2 : Cond.static y ∈ Ts) (h4 : Cond.initialized own ∈ Ts) (h5 : Cond.code y bytes maxL ret ∈ Ts)
    (hd : y.cls = own ∧ y.cls ≠ "java/lang/invoke/MethodHandle" ∧ y.cls ≠ "java/lang/invoke/VarHandle" ∧ (parseMethodDescriptor y.desc).map (fun d => d.parameters.length) = some n) : gwS Ts own index y bytes maxL ret n := by
  refine ⟨fun w hw => ?_, hd⟩
  simp only [wsS, List.mem_append, List.mem_cons, List.not_mem_nil, or_false] at hw
  rcases hw with (rfl | rfl | rfl) | rfl
  · exact h1
  · exact h2
  · exact h4
  · exact h5
def gR (f k mc ms : Nat) : Room := { frames := f, cells := mc, slots := ms, locals := k }
theorem gn_dec {x : Nat} (k : Nat) (h : k ≤ x) (hk : Int32.ofInt (-(k : Int)) = - nI k := by decide) : nI x + Int32.ofInt (-(k : Int)) = nI (x - k) := by
  rw [hk, ← pk_sub h, Int32.sub_eq_add_neg]
