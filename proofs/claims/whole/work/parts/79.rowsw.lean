/-! own rows, 7: long arrays; methods with a table of handlers -/
section GLO
variable {p : Program} {l : Launch} {e : Env} {R : Room} {s : State} {m : MethodId} {args : Array Value} {below : List Frame} {meth : Method} {c : Code} {H : Heap} {locs : List Loc} {cells slots : Nat} {Q : State → Prop}
variable {cc : ByteArray} {nL pc : Nat} {ls : Array Slot} {rest : List Value} {D : va_G} {cl : List vw_C} {A A1 : Nat → Prop} {a : Nat} {tys : List (ClassId × FieldType)} {own : String} {Ts : List Cond}
theorem g_lald (X : gX p m c cc nL s args own Ts D cl tys) (t0 : Nat) {cA : ClassId} {n : Nat} {f : Nat → Int64} (h : va_at D cl (a, .inl (cA, n, .inr (.inl f))) H) (ht : tys[t0]? = some (cA, .long)) (i : Nat) (hi : i < n) (hi2 : n < 2 ^ 31) (hdg : decode cc pc = .ok (.laload, 1))
    (kk : W p l e R s m args below meth c H locs cells slots Q (F0 m (pc + 1) ls (.long (f i) :: rest))) : W p l e R s m args below meth c H locs cells slots Q (F0 m pc ls (.int (nI i) :: .ref a :: rest)) :=
  va_lald X.1.1 X.1.2.1 X.2 (g_P1 h) 0 t0 rfl ht (vp_in_nI hi hi2) hdg (by rw [nI_clamp (show i < 2 ^ 31 by omega)]; exact kk)
theorem g_last (X : gX p m c cc nL s args own Ts D cl tys) (t0 : Nat) {cA : ClassId} {n : Nat} {f : Nat → Int64} (h : va_at D cl (a, .inl (cA, n, .inr (.inl f))) H) (ht : tys[t0]? = some (cA, .long)) (i : Nat) (hi : i < n) (hi2 : n < 2 ^ 31) {x : Int64} (hdg : decode cc pc = .ok (.lastore, 1)) (hA : A a) (hL : ∀ x ∈ locs, A x.base)
    (kk : ∀ (H1 : Heap) (locs1 : List Loc), va_at D cl (a, .inl (cA, n, .inr (.inl (vp_updL f i x)))) H1 → H1.size = H.size → (∀ q : Nat, q ≠ a → H1[q]? = H[q]?) → (∀ x ∈ locs1, A x.base) → W p l e R s m args below meth c H1 locs1 cells slots Q (F0 m (pc + 1) ls rest)) : W p l e R s m args below meth c H locs cells slots Q (F0 m pc ls (.long x :: .int (nI i) :: .ref a :: rest)) := by
  have hcl : (nI i).toNatClampNeg = i := nI_clamp (show i < 2 ^ 31 by omega)
  refine W.last X.1.1 X.1.2.1 h ((X.2.2 t0 _ ht).1 n (fun j => .long (f j))) (fun q => by cases q) (by show ¬ (nI i < 0 ∨ (arrV _ _ _).slots.size ≤ _); rw [arrV_size]; exact vp_in_nI hi hi2) rfl rfl hdg fun H1 e1 z oq => ?_
  refine kk H1 _ ?_ z oq (t_lc hL hA)
  show H1[a]? = some (vp_cell _ _)
  rw [e1, hcl]
  rw [vp_cell_l, vp_cell_l, arrV_store]
  congr 2
  funext q
  by_cases hq : q = i
  · subst hq
    simp [updV, vp_updL]
  · simp [updV, vp_updL, hq]
theorem g_newj (X : gX p m c cc nL s args own Ts D cl tys) (t0 : Nat) {cA : ClassId} (ht : tys[t0]? = some (cA, .long)) (harr : Cond.arrayClass .long ∈ Ts) (n : Nat) (hn : n < 65536) (hcells : cells + 1 ≤ R.cells) (hslots : slots + n ≤ R.slots) (hdg : decode cc pc = .ok (.newarray .long, 2))
    (kk : ∀ (H1 : Heap), va_at D cl (H.size, .inl (cA, n, .inr (.inl (fun _ => 0)))) H1 → H1.size = H.size + 1 → (∀ q : Nat, q < H.size → H1[q]? = H[q]?) → W p l e R s m args below meth c H1 locs (cells + 1) (slots + n) Q (F0 m (pc + 2) ls (.ref H.size :: rest))) : W p l e R s m args below meth c H locs cells slots Q (F0 m pc ls (.int (nI n) :: rest)) := by
  refine va_newaK (atype := .long) X.1.1 X.1.2.1 (X.1.2.2.2.2 _ harr) rfl hdg rfl (nI_pos (by omega)) (nI_clamp (show n < 2 ^ 31 by omega)) (show n * 8 ≤ 536870912 by omega) hcells hslots rfl fun H1 cA' e1 z1 o1 hAr hNm => ?_
  have e2 : cA' = cA := Option.some.inj (hNm.symm.trans (X.2.2 t0 _ ht).2)
  subst e2
  exact kk H1 e1 z1 o1
end GLO
/-- a contract of a method with a table of handlers -/
theorem gC.ofWW {l : Launch} {y : MethodName} {Ts : List Cond} {rm : Room} {D : va_G} {cl : List vw_C} {tys : List (ClassId × FieldType)} {E : State → Prop} {vs : List Value} {H0 : Heap} {Post : Option Value → Heap → Prop} {mc ms : Nat} {A : Nat → Prop} {cc : ByteArray} {maxL : Nat} {ret : Option FieldType} {hh : List (Nat × Nat × Nat × Nat)} (own name : String)
    (hy : plainName y.cls = true) (hyo : y.cls = own) (hyn : y.name = name)
    (body : ∀ p e s m below meth c, l.admits e → gX p m c cc maxL s vs.toArray own Ts D cl tys → E s → s.heap = H0 → gB meth ret name → gTab c hh →
      W p l e rm s m vs.toArray below meth c H0 [] 0 0 (gQ below vs.toArray s Post mc ms A) (entryFrame m vs.toArray maxL)) : gC l y (Cond.codeWith y cc maxL ret hh :: Ts) rm D cl tys E vs H0 Post mc ms A := by
  refine va_MetW (cc := cc) (maxL := maxL) (ret := ret) (hh := hh) hy rfl ?_
  intro p e s m args below meth c s₁ B hml hv
  obtain ⟨rfl, hH, hK, hE⟩ := hv
  have hts := atoms_spec (ws := Cond.codeWith y cc maxL ret hh :: Ts) B.pre
  have hown : s.vm.findClass y.cls = some m.cls := findClass_of_methodNamed B.named
  have hnm := (name_of_methodNamed B.named B.method).1
  obtain ⟨m9, meth9, c9, hn9, hm9, hc9, -, -, htab, -⟩ := Cond.codeWith_spec (hts _ List.mem_cons_self)
  cases B.named.symm.trans hn9
  cases B.method.symm.trans hm9
  cases (Stand.of_body B).code.symm.trans hc9
  have h := body p e s m below meth c B.admits ⟨⟨B.exec, B.bytes, hml, by rw [← hyo]; exact hown, fun w hw => hts w (List.mem_cons_of_mem _ hw)⟩, hK⟩ hE hH ⟨B.returns, B.notSynchronized, hnm.trans hyn⟩ (gTab_of htab)
  rw [← hH] at h
  exact h
section GCW
variable {p : Program} {l : Launch} {e : Env} {R : Room} {s : State} {m : MethodId} {args : Array Value} {below : List Frame} {meth : Method} {c : Code} {H : Heap} {locs : List Loc} {cells slots : Nat} {Q : State → Prop}
variable {cc : ByteArray} {nL pc : Nat} {ls : Array Slot} {rest : List Value} {D : va_G} {cl : List vw_C} {A A1 : Nat → Prop} {tys : List (ClassId × FieldType)} {own : String} {index : Nat} {Ts : List Cond} {Post' : Option Value → Heap → Prop} {mc ms : Nat} {E : State → Prop}
variable {y : MethodName} {bytes : ByteArray} {maxL n : Nat} {ret : Option FieldType} {rm : Room} {As st : List Value} {hh : List (Nat × Nat × Nat × Nat)}
theorem g_callSW {T : State} (X : Stand p l e R s m args below meth c T locs cells slots) (hexec : p.tables.exec = Jvm.exec)
    (hown : s.vm.findClass own = some m.cls) (hlink : (Cond.methodLink own index y).before args s = true) (hstat : (Cond.static y).before args s = true) (hinit : (Cond.initialized y.cls).before args s = true)
    (hcode : (Cond.codeWith y bytes maxL ret hh).before args s = true) (hy : y.cls ≠ "java/lang/invoke/MethodHandle" ∧ y.cls ≠ "java/lang/invoke/VarHandle")
    {W : Nat} {Pre : Pt → Array Value → Prop} {Post : Pt → Array Value → Option Value → Pt → Prop} (hK : Back l R p e below s args y 3 W Pre Post)
    {g : JFrame} (hg : g.method = m) (hsize : g.locals.size = c.maxLocals) {argsL rest : List Value} (hlen : ∀ sig, parseMethodDescriptor y.desc = some sig → argsL.length = sig.parameters.length)
    (hstack : g.stack = argsL.reverse ++ rest) (hW : 2 * g.monitorRoom + (rest.map fun v => v.category).sum ≤ W) (hdg : decode c.code g.pc = .ok (.invokestatic index, 3))
    (hpre : ∀ vm₁, s.WarmedH vm₁ → Pre ⟨T.setVm vm₁, locs, cells, slots⟩ argsL.toArray) :
    ∃ (v : Option Value) (vm₁ : Vm) (B : Pt), s.WarmedH vm₁ ∧ Stand p l e R s m args below meth c B.U B.locs B.cells B.slots ∧ Post ⟨T.setVm vm₁, locs, cells, slots⟩ argsL.toArray v B ∧
      ∀ target, Steps p.tables e below (B.U.setTop { g with pc := g.pc + 3, stack := v.toList ++ rest }) target → Steps p.tables e below (T.setTop g) target := by
  obtain ⟨mk, methM, cM, hnamed, hmethM, -, -, -, -, -, -, hsigM⟩ := Cond.codeWith_spec hcode
  have hstatic : methM.isStatic = true := Cond.static_spec hnamed hmethM hstat
  obtain ⟨kP, hkP, -⟩ := className_of_methodNamed hnamed
  have hinitP : kP.init = .initialized := Cond.initialized_spec (findClass_of_methodNamed hnamed) hkP hinit
  obtain ⟨vm₁, X₁, hstep₁⟩ := X.invokestatic hexec hown hlink hnamed hmethM hstatic hkP hinitP hy (g := g) hg (argsL := argsL) (rest := rest) (hlen _ hsigM) hstack hdg
  obtain ⟨v, B, X', hpost, hsteps⟩ := hK m meth c ⟨T.setVm vm₁, locs, cells, slots⟩ { g with stack := rest } (.invokestatic index) mk argsL.toArray X₁ hg hsize hdg hW (X₁.named hnamed) (hpre vm₁ X₁.warmed)
  exact ⟨v, vm₁, B, X₁.warmed, X', hpost, fun target h => hstep₁ _ fun acts => by rw [doInvoke_state]; exact hsteps.trans h⟩
/-- the words that a call of a static method with a table asks -/
def gwW (Ts : List Cond) (own : String) (index : Nat) (y : MethodName) (bytes : ByteArray) (maxL : Nat) (ret : Option FieldType) (hh : List (Nat × Nat × Nat × Nat)) (n : Nat) : Prop :=
  Cond.methodLink own index y ∈ Ts ∧ Cond.static y ∈ Ts ∧ Cond.initialized y.cls ∈ Ts ∧ Cond.codeWith y bytes maxL ret hh ∈ Ts ∧ y.cls ≠ "java/lang/invoke/MethodHandle" ∧ y.cls ≠ "java/lang/invoke/VarHandle" ∧ (parseMethodDescriptor y.desc).map (fun d => d.parameters.length) = some n
theorem g_csW (X : gX p m c cc nL s args own Ts D cl tys) (hG : gGood Ts) (w : gwW Ts own index y bytes maxL ret hh n)
    (hM : gC l y (Cond.codeWith y bytes maxL ret hh :: Ts) rm D cl tys E As H Post' mc ms A1) (hE : ∀ U : State, U.heap = H → s.WarmedH U.vm → E U) (hEb : gBlind E)
    (hn : As.length = n) (hst : st = As.reverse ++ rest) (hls : ls.size = nL) (hW : (rest.map fun v => v.category).sum ≤ 8) (hrc : rm.cells = mc) (hrs : rm.slots = ms) (hR : rm.frames + 1 ≤ R.frames ∧ 8 + (maxL + 11) + rm.locals ≤ R.locals) (hf : cells + mc ≤ R.cells ∧ slots + ms ≤ R.slots)
    (hdg : decode cc pc = .ok (.invokestatic index, 3)) (hA : ∀ q, A1 q → A q) (hL : ∀ x ∈ locs, A x.base)
    (kk : ∀ (v : Option Value) (H1 : Heap) (locs1 : List Loc), Post' v H1 → (∀ x ∈ locs1, A x.base) → W p l e R s m args below meth c H1 locs1 (cells + mc) (slots + ms) Q (F0 m (pc + 3) ls (v.toList ++ rest))) : W p l e R s m args below meth c H locs cells slots Q (F0 m pc ls st) := by
  have hin : ∀ w' ∈ (Cond.codeWith y bytes maxL ret hh :: Ts), w' ∈ Ts := by
    intro w' hw'
    rcases List.mem_cons.mp hw' with h | h
    · rw [h]; exact w.2.2.2.1
    · exact h
  have hws : ∀ w' ∈ (Cond.codeWith y bytes maxL ret hh :: Ts), ∀ (a' : Array Value) (U : State), s.WarmedH U.vm → w'.before a' U = true := fun w' hw' a' U hU => word_at hU (hG w' (hin w' hw')) (X.1.2.2.2.2 w' (hin w' hw'))
  have hp := g_pre (As := As) (tys := tys) (D := D) (cl := cl) (H := H) X.2 hE hEb
  have hB : Back l R p e below s args y 3 8 (PreOf R mc ms (va_Pc As (fun U => U.heap = H ∧ va_K D cl tys U ∧ E U))) (PostOf (fun _ _ oc t => ∃ v, oc = .returned v ∧ Post' v t.heap) mc ms A1) :=
    va_backW (bytes := bytes) (maxL := maxL) (ret := ret) (hh := hh) hM hp.1 hrc hrs hR.1 hR.2 hws List.mem_cons_self (fun a' U hU => word_at hU (hG _ w.2.2.1) (X.1.2.2.2.2 _ w.2.2.1))
  refine g_run (?_ : va_Run p l e R s m args below meth c H locs cells slots mc ms (F0 m pc ls st) rest (fun _ oc t => ∃ v, oc = .returned v ∧ Post' v t.heap) A1) hA hL kk
  obtain ⟨hx, hb, hml, ho, hts⟩ := X.1
  intro T hT XS
  obtain ⟨v, vm₁, ⟨U', l2, c2, s2⟩, hW₁, X', ⟨g', mk, t, L, e1, e2, hq, h1, hL1, h2, h3⟩, stp⟩ := g_callSW XS hx (bytes := bytes) (maxL := maxL) (ret := ret) (hh := hh) ho (hts _ w.1) (hts _ w.2.1) (hts _ w.2.2.1) (hts _ w.2.2.2.1) ⟨w.2.2.2.2.1, w.2.2.2.2.2.1⟩ hB (g := F0 m pc ls st) rfl (hls.trans hml.symm) (argsL := As) (rest := rest) (fun sig h => by
      have h9 := w.2.2.2.2.2.2
      rw [h] at h9
      rw [hn]
      exact (Option.some.inj h9).symm) hst (lv_room hW) (by rw [hb]; exact hdg)
    (fun vm₁ hW₁ => ⟨hf.1, hf.2, hp.2 (T.setVm vm₁) hT hW₁⟩)
  dsimp only [Pt.U, Pt.locs, Pt.cells, Pt.slots] at X' e1 e2 h1 h2 h3 stp
  subst h1; subst h2; subst h3
  exact ⟨v, (T.setVm vm₁).calling g' mk As.toArray, t, U', L, hT, X', hL1, e1, e2, hq, stp⟩
end GCW
