/-! own rows, 6: what is caught -/
theorem g_go_cold {e : Env} {s : State} {f : JFrame} {a : Addr} {Q : Handler → Pre} {E : CtlPost} {d : Bool} {acts : List Action} {x : ExceptionTableEntry} {t : List ExceptionTableEntry} {c : ClassId} {cell : Cell} {vm' : Vm} (hx : covers x f.pc = true) (h0 : x.catchType ≠ 0)
    (hg : (Jvm.resolveClass f.method.cls x.catchType).Gives e.toSetting s.vm (.ok c) vm') (hsz : vm'.classes.size ≤ s.vm.classes.size) (hcell : s.heap[a]? = some cell) (hobj : ∀ k, cell.vm ≠ .statics k)
    (hk : ∃ k, vm'.classes[cell.cls]? = some k) (hc : ∃ k, vm'.classes[c]? = some k) :
    wp (findHandler.go f a (x :: t)) Q E e d acts s ↔ if vm'.assignable cell.cls c = true then Q (.found x.handlerPc) d acts (s.setVm vm') else wp (findHandler.go f a t) Q E e d acts (s.setVm vm') := by
  simp only [covers] at hx
  obtain ⟨h1, h2⟩ := hg.op (op := VmOp.resolveClass f.method.cls x.catchType) rfl
  cases hfit : vm'.assignable cell.cls c <;>
    simp [findHandler.go, hx, h0, h1, VmOp.lands_eq h2 hsz, hcell, hobj, hk, hc, hfit, VmOp.dirties, VmOp.acts]
/-- a search that ends in a handler, the tables warmer -/
def gFinds (e : Env) (s : State) (f : JFrame) (a : Addr) (pc : Nat) (vm' : Vm) : Prop := ∀ (Q : Handler → Pre) (E : CtlPost) (d : Bool) (acts : List Action), wp (findHandler f a) Q E e d acts s ↔ Q (.found pc) d acts (s.setVm vm')
theorem g_step_catch {e : Env} {s : State} {a : Addr} {f : JFrame} {r : List Frame} {pc : Nat} {vm' : Vm} (hfind : gFinds e s f a pc vm') :
    (stepThrowing e s a (.java f :: r)).Is ((s.setVm vm').setFrames (.java { f with pc := pc, stack := [.ref a] } :: r)) [] := by
  simp only [stepThrowing, searchFrame, vmDo]
  generalize hr : Sem.go _ e false [] s = res
  obtain ⟨as, rfl, ha⟩ := Sem.eq_ok_of hr (a := Handler.found pc) (s' := s.setVm vm') (acts' := []) (by simp [hfind _ _ _ _])
  exact ⟨rfl, ha⟩
theorem g_caught {tb : Tables} {e : Env} {s target : State} {g : JFrame} {c : Code} {below : List Frame} {a : Addr} (h : At s g.method c below) {pc : Nat} {vm' : Vm} (hfind : gFinds e ((s.setTop g).pushFrame (.throwing a)) g a pc vm')
    (hrest : Steps tb e below ((s.setVm vm').setTop { g with pc := pc, stack := [.ref a] }) target) :
    Steps tb e below ((s.setTop g).pushFrame (.throwing a)) target := by
  obtain ⟨hgo, hw⟩ := h.throwing a
  refine Steps.head hgo hw ?_
  rw [stepThread_throwing (frames_entered h.top _), (g_step_catch (s := (s.setTop g).pushFrame (.throwing a)) hfind).1]
  obtain ⟨g₀, hg⟩ := Option.isSome_iff_exists.mp h.top
  obtain ⟨r, hr⟩ := State.topJava?_eq_some.mp hg
  have hr' : (s.setVm vm').frames = .java g₀ :: r := hr
  rw [State.setTop_of_frames _ hr'] at hrest
  rw [State.pushFrame, State.setTop_of_frames _ hr, State.setFrames_setFrames]
  have hcm : ∀ A B : List Frame, ((s.setFrames A).setVm vm').setFrames B = (s.setVm vm').setFrames B := fun A B => by
    rw [show (s.setFrames A).setVm vm' = (s.setVm vm').setFrames A from rfl, State.setFrames_setFrames]
  rw [hr, hcm]
  exact hrest
section GCA
variable {p : Program} {l : Launch} {e : Env} {R : Room} {s : State} {m : MethodId} {args : Array Value} {below : List Frame} {meth : Method} {c : Code} {H : Heap} {locs : List Loc} {cells slots : Nat} {Q : State → Prop}
variable {cc : ByteArray} {nL pc : Nat} {ls : Array Slot} {rest : List Value} {D : va_G} {cl : List vw_C} {A A1 : Nat → Prop} {tys : List (ClassId × FieldType)} {own : String} {Ts : List Cond} {Post' : Nat → Heap → Prop} {mc ms : Nat}
/-- the rows of a method's table, as the words say them -/
def gTab (c : Code) (hh : List (Nat × Nat × Nat × Nat)) : Prop := c.exceptionTable.toList = hh.map (fun z => { startPc := z.1, endPc := z.2.1, handlerPc := z.2.2.1, catchType := z.2.2.2 })
theorem gTab_of {c : Code} {hh : List (Nat × Nat × Nat × Nat)} (h : c.exceptionTable.toList.map (fun h => (h.startPc, h.endPc, h.handlerPc, h.catchType)) = hh) : gTab c hh := by
  unfold gTab
  rw [← h, List.map_map]
  exact (List.map_id _).symm
/-- what the search needs of the class that a row names -/
theorem g_row (X : gX p m c cc nL s args own Ts D cl tys) (hpl : e.platform.magicAccessors = ({} : Platform).magicAccessors) {vm0 : Vm} (hW : s.WarmedH vm0) {index : Nat} {C : String} (hlink : Cond.classLink own index C ∈ Ts) : ∃ cT vm', s.vm.findClass C = some cT ∧ s.WarmedH vm' ∧ (Jvm.resolveClass m.cls index).Gives e.toSetting vm0 (.ok cT) vm' ∧ vm'.classes.size ≤ vm0.classes.size ∧ ∃ k, vm'.classes[cT]? = some k := by
  obtain ⟨cT, hcT, hcl⟩ := Cond.classLink_spec X.1.2.2.2.1 (X.1.2.2.2.2 _ hlink) e.platform hpl
  obtain ⟨dk, _, _, kt, hd, _, _, _, _, hkt, _, hopen⟩ := hcl.here
  have hcl₀ := hW.classLinks hcl
  have hW' : s.WarmedH (vm0.noted m.cls index (.cls cT)) := hW.noted hd hopen (State.rightAt_cls hcl)
  obtain ⟨kt', hkt', -⟩ := hW'.alike.2.2 _ _ hkt
  exact ⟨cT, _, hcT, hW', resolveClass_links e.toSetting hcl₀, by rw [Vm.size_noted]; exact Nat.le_refl _, kt', hkt'⟩
/-- the search through these rows ends at pc1, the tables warmer -/
def gF (e : Env) (s S : State) (f : JFrame) (a : Addr) (rows : List (Nat × Nat × Nat × Nat)) (pc1 : Nat) : Prop := ∃ vm', s.WarmedH vm' ∧ ∀ (Q : Handler → Pre) (E : CtlPost) (d : Bool) (acts : List Action), wp (findHandler.go f a (rows.map (fun z => { startPc := z.1, endPc := z.2.1, handlerPc := z.2.2.1, catchType := z.2.2.2 }))) Q E e d acts S ↔ Q (.found pc1) d acts (S.setVm vm')
theorem g_hit (X : gX p m c cc nL s args own Ts D cl tys) (hpl : e.platform.magicAccessors = ({} : Platform).magicAccessors) {S : State} {f : JFrame} {a : Addr} {cell : Cell} (hW : s.WarmedH S.vm) (hm : f.method = m) (hcell : S.heap[a]? = some cell) (hobj : ∀ k, cell.vm ≠ .statics k) {C : String} (hcls : s.vm.findClass C = some cell.cls) (hkn : ∃ k, s.vm.classes[cell.cls]? = some k)
    {z : Nat × Nat × Nat × Nat} {rows : List (Nat × Nat × Nat × Nat)} (h1 : z.1 ≤ f.pc ∧ f.pc < z.2.1) (h0 : z.2.2.2 ≠ 0) (hlink : Cond.classLink own z.2.2.2 C ∈ Ts) : gF e s S f a (z :: rows) z.2.2.1 := by
  obtain ⟨cT, vm', hc, hW', hg, hsz, hk⟩ := g_row X hpl hW hlink
  cases hcls.symm.trans hc
  refine ⟨vm', hW', fun Q E d acts => ?_⟩
  rw [List.map_cons, g_go_cold (by simp [covers, h1]) h0 (by rw [hm]; exact hg) hsz hcell hobj hk hk, if_pos (Vm.assignable_self vm' _)]
theorem g_pass (X : gX p m c cc nL s args own Ts D cl tys) (hpl : e.platform.magicAccessors = ({} : Platform).magicAccessors) {S : State} {f : JFrame} {a : Addr} {cell : Cell} (hW : s.WarmedH S.vm) (hm : f.method = m) (hcell : S.heap[a]? = some cell) (hobj : ∀ k, cell.vm ≠ .statics k) (hkn : ∃ k, s.vm.classes[cell.cls]? = some k) {C : String}
    {z : Nat × Nat × Nat × Nat} {rows : List (Nat × Nat × Nat × Nat)} {pc1 : Nat} (h1 : z.1 ≤ f.pc ∧ f.pc < z.2.1) (h0 : z.2.2.2 ≠ 0) (hlink : Cond.classLink own z.2.2.2 C ∈ Ts) (hno : ∀ cT, s.vm.findClass C = some cT → s.vm.assignable cell.cls cT = false) (rest : ∀ vm1, s.WarmedH vm1 → gF e s (S.setVm vm1) f a rows pc1) : gF e s S f a (z :: rows) pc1 := by
  obtain ⟨cT, vm1, hc, hW1, hg, hsz, hk⟩ := g_row X hpl hW hlink
  obtain ⟨vm', hW', hf⟩ := rest vm1 hW1
  obtain ⟨k0, hk0⟩ := hkn
  obtain ⟨k1, hk1, -⟩ := hW1.alike.2.2 _ _ hk0
  refine ⟨vm', hW', fun Q E d acts => ?_⟩
  rw [List.map_cons, g_go_cold (by simp [covers, h1]) h0 (by rw [hm]; exact hg) hsz hcell hobj ⟨k1, hk1⟩ hk, if_neg (by rw [hW1.alike.assignable, hno cT hc]; decide), hf]
  rfl
/-- a call has thrown, and a row of the own table takes it -/
theorem g_catch {g0 : JFrame} (hthr : gThr p l e R s m args below meth c H locs cells slots mc ms g0 (F0 m pc ls rest) Post' A1) {hh : List (Nat × Nat × Nat × Nat)} (htab : gTab c hh) (pc1 : Nat) (hfind : ∀ (x : Nat) (S : State), Post' x S.heap → s.WarmedH S.vm → gF e s S (F0 m pc ls rest) x hh pc1) (hA : ∀ q, A1 q → A q) (hL : ∀ x ∈ locs, A x.base)
    (kk : ∀ (x : Nat) (H1 : Heap) (locs1 : List Loc), Post' x H1 → (∀ x ∈ locs1, A x.base) → W p l e R s m args below meth c H1 locs1 (cells + mc) (slots + ms) Q (F0 m pc1 ls [.ref x])) : W p l e R s m args below meth c H locs cells slots Q g0 := by
  intro T hT XS
  obtain ⟨x, T', L, X', hp, hL', hs⟩ := hthr T hT XS
  obtain ⟨vm', hW', hf⟩ := hfind x (((T'.setTop (F0 m pc ls rest)).pushFrame (.throwing x))) (by rw [Stand.throwing_heap]; exact hp) (by rw [Stand.throwing_vm]; exact X'.warmed)
  obtain ⟨t, a1, a2⟩ := kk x T'.heap (locs ++ L) hp (fun q hq => by
    rcases List.mem_append.mp hq with h | h
    · exact hL q h
    · exact hA _ (hL' q h)) (T'.setVm vm') rfl (X'.noted hW')
  refine ⟨t, hs _ (g_caught (vm' := vm') (pc := pc1) X'.here (fun Q E d acts => ?_) a1), a2⟩
  rw [W.findHandler_eq (meth := meth) (code := c) (by rw [Stand.throwing_vm]; exact X'.method') X'.code, htab]
  exact hf Q E d acts
end GCA
