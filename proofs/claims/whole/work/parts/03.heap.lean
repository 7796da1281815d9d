/-! own rows, 2: cells one by one -/
def gX (p : Program) (m : MethodId) (c : Code) (cc : ByteArray) (nL : Nat) (s : State) (args : Array Value) (own : String) (Ts : List Cond) (D : va_G) (cl : List vw_C) (tys : List (ClassId × FieldType)) : Prop :=
  CallFix p m c cc nL s args Ts own ∧ va_K D cl tys s
def gk (Ts : List Cond) (cl : List vw_C) (ci : Nat) (C : String) (T : u_T) (N : Nat) (ty : Nat → FieldType) : Prop :=
  (∀ w ∈ u_ws C T N, w ∈ Ts) ∧ (∀ k, k < N → parseFieldDescriptor (T k).2.2.1 = some (ty k)) ∧ (∀ a, a < N → ∀ b, b < N → a ≠ b → (T a).2.1 ≠ (T b).2.1) ∧ cl[ci]? = some (C, T, N)
theorem g_P1 {D : va_G} {cl : List vw_C} {q : Nat × va_E} {H : Heap} (h : va_at D cl q H) : va_P D cl [q] H := by
  intro k x hx
  cases k with
  | zero => cases hx; exact h
  | succ k => simp at hx
section GH
variable {p : Program} {l : Launch} {e : Env} {R : Room} {s : State} {m : MethodId} {args : Array Value} {below : List Frame} {meth : Method} {c : Code} {H : Heap} {locs : List Loc} {cells slots : Nat} {Q : State → Prop}
variable {cc : ByteArray} {nL pc : Nat} {ls : Array Slot} {rest : List Value} {D : va_G} {cl : List vw_C} {A : Nat → Prop} {a : Nat} {tys : List (ClassId × FieldType)} {own C : String} {T : u_T} {N ci index : Nat} {Ts : List Cond} {ty : Nat → FieldType}
theorem g_get (X : gX p m c cc nL s args own Ts D cl tys) (K : gk Ts cl ci C T N ty) {fs : List Value} (h : va_at D cl (a, .inr (ci, fs)) H) (k : Nat) (hk : k < N) (hlink : Cond.fieldLink own index (T k).1 (T k).2.1 (T k).2.2.1 ∈ Ts) {v : Value} (hv : fs[k]? = some v) (hdg : decode cc pc = .ok (.getfield index, 3))
    (kk : W p l e R s m args below meth c H locs cells slots Q (F0 m (pc + 3) ls (v :: rest))) : W p l e R s m args below meth c H locs cells slots Q (F0 m pc ls (.ref a :: rest)) :=
  va_get X.1.1 X.1.2.1 X.1.2.2.2.2 K.1 X.1.2.2.2.1 X.2 (g_P1 h) 0 rfl K.2.2.2 k hk (X.1.2.2.2.2 _ hlink) (fun _ h9 => h9) hv hdg kk
theorem g_put (X : gX p m c cc nL s args own Ts D cl tys) (K : gk Ts cl ci C T N ty) {fs : List Value} (h : va_at D cl (a, .inr (ci, fs)) H) (k : Nat) (hk : k < N) (hlink : Cond.fieldLink own index (T k).1 (T k).2.1 (T k).2.2.1 ∈ Ts) (hfin : (T k).2.2.2 = false) {v : Value} (hn : narrow (ty k) v = v) (hfit : fits (ty k) v = true) (hl : k < fs.length) (hdg : decode cc pc = .ok (.putfield index, 3)) (hA : A a) (hL : ∀ x ∈ locs, A x.base)
    (kk : ∀ (H1 : Heap) (locs1 : List Loc), va_at D cl (a, .inr (ci, fs.set k v)) H1 → H1.size = H.size → (∀ q : Nat, q ≠ a → H1[q]? = H[q]?) → (∀ x ∈ locs1, A x.base) → W p l e R s m args below meth c H1 locs1 cells slots Q (F0 m (pc + 3) ls rest)) : W p l e R s m args below meth c H locs cells slots Q (F0 m pc ls (v :: .ref a :: rest)) := by
  obtain ⟨⟨hexec, hb, hml, hown, hts⟩, hK⟩ := X
  obtain ⟨hin, hty, hnm, hc⟩ := K
  have hap := va_apart (own := own) hts hin ty hty hnm hK hc
  obtain ⟨r, h1, cell, q1, q2, q3, q4⟩ := h
  have hr : r = (C, T, N) := Option.some.inj (h1.symm.trans hc)
  subst hr
  obtain ⟨hS, hfc, kC, hkC, hkind⟩ := hK.1 ci _ hc
  obtain ⟨cf, kf, fi, f, hi, hsl⟩ := hS k hk
  have hlay := hts _ (hin _ (u_in_lay hk))
  unfold u_lay at hlay
  rw [if_neg (by rw [hfin]; decide)] at hlay
  have hst := (u_facts hfc hkC (u_lays hts hin hk) hi).1
  have h6 := u_store hfc hkC hkind hlay hi (hty k hk) hn hfit
  refine W.putK hexec hb (f := f) ⟨hown, hts _ hlink, ⟨_, _, _, hi⟩, hst⟩ (by rw [q2]; exact h6) q1 q3 (by rw [hsl]; exact k2_hasslot (q4 k hk)) rfl rfl hdg fun H' e1 e2 e3 => ?_
  rw [hsl] at e1 ⊢
  exact kk H' _ ⟨_, hc, t_OB.to (V := updV (vp_V fs) k v) ⟨_, e1, q2, q3, t_set q4 hap hk v⟩ (fun j _ => vp_updV_set hl v j)⟩ e2 e3 (t_lc hL hA)
theorem g_putF (X : gX p m c cc nL s args own Ts D cl tys) (hname : meth.name = "<init>") (K : gk Ts cl ci C T N ty) {fs : List Value} (h : va_at D cl (a, .inr (ci, fs)) H) (k : Nat) (hk : k < N) (hlink : Cond.fieldLink own index (T k).1 (T k).2.1 (T k).2.2.1 ∈ Ts) (hfin : (T k).2.2.2 = true) (hdecl : (T k).1 = own) {v : Value} (hn : narrow (ty k) v = v) (hfit : fits (ty k) v = true) (hl : k < fs.length) (hdg : decode cc pc = .ok (.putfield index, 3)) (hA : A a) (hL : ∀ x ∈ locs, A x.base)
    (kk : ∀ (H1 : Heap) (locs1 : List Loc), va_at D cl (a, .inr (ci, fs.set k v)) H1 → H1.size = H.size → (∀ q : Nat, q ≠ a → H1[q]? = H[q]?) → (∀ x ∈ locs1, A x.base) → W p l e R s m args below meth c H1 locs1 cells slots Q (F0 m (pc + 3) ls rest)) : W p l e R s m args below meth c H locs cells slots Q (F0 m pc ls (v :: .ref a :: rest)) := by
  obtain ⟨⟨hexec, hb, hml, hown, hts⟩, hK⟩ := X
  obtain ⟨hin, hty, hnm, hc⟩ := K
  have hap := va_apart (own := own) hts hin ty hty hnm hK hc
  obtain ⟨r, h1, cell, q1, q2, q3, q4⟩ := h
  have hr : r = (C, T, N) := Option.some.inj (h1.symm.trans hc)
  subst hr
  obtain ⟨hS, hfc, kC, hkC, hkind⟩ := hK.1 ci _ hc
  obtain ⟨cf, kf, fi, f, hi, hsl⟩ := hS k hk
  have hlay := hts _ (hin _ (u_in_lay hk))
  unfold u_lay at hlay
  rw [if_pos hfin] at hlay
  have hst := (u_facts hfc hkC (u_lays hts hin hk) hi).1
  have hcf : m.cls = cf := by
    obtain ⟨_, _, c', _, _, _, -, -, hf', -, -, -, hown2, -⟩ := Cond.laysFinal_spec hlay
    have e1 : c' = cf := by have := hi.symm.trans hf'; simp at this; exact this.1.symm
    rw [hdecl] at hown2
    rw [← e1]; exact Option.some.inj (hown.symm.trans hown2)
  have h6 := u_fits hfc hkC hkind (Or.inr hlay) hi (hty k hk) hn hfit
  refine W.putFinK hexec hb hown (hts _ hlink) hi hst hcf hname (by rw [q2]; exact h6) q1 q3 (by rw [hsl]; exact k2_hasslot (q4 k hk)) rfl rfl hdg fun H' e1 e2 e3 => ?_
  rw [hsl] at e1 ⊢
  exact kk H' _ ⟨_, hc, t_OB.to (V := updV (vp_V fs) k v) ⟨_, e1, q2, q3, t_set q4 hap hk v⟩ (fun j _ => vp_updV_set hl v j)⟩ e2 e3 (t_lc hL hA)
theorem g_new (X : gX p m c cc nL s args own Ts D cl tys) (K : gk Ts cl ci C T N ty) (hcl : Cond.classLink own index C ∈ Ts) (hinst : Cond.instantiable C N ∈ Ts) (hini : Cond.initialized C ∈ Ts) {fs : List Value} (hfs : ∀ j, j < N → defaultValue (ty j) = vp_V fs j) (hcells : cells + 1 ≤ R.cells) (hslots : slots + N ≤ R.slots) (hdg : decode cc pc = .ok (.new index, 3))
    (kk : ∀ (H1 : Heap), va_at D cl (H.size, .inr (ci, fs)) H1 → H1.size = H.size + 1 → (∀ q : Nat, q < H.size → H1[q]? = H[q]?) → W p l e R s m args below meth c H1 locs (cells + 1) (slots + N) Q (F0 m (pc + 3) ls (.ref H.size :: rest))) : W p l e R s m args below meth c H locs cells slots Q (F0 m pc ls rest) := by
  obtain ⟨⟨hexec, hb, hml, hown, hts⟩, hK⟩ := X
  obtain ⟨hin, hty, hnm, hc⟩ := K
  have hKn := hK.1 ci _ hc
  refine W.newcK hexec hb hown (hts _ hcl) (hts _ hinst) (hts _ hini) rfl hdg hcells hslots hKn.2.1 rfl fun H1 kC hkC e1 z1 o1 => ?_
  exact kk H1 ⟨_, hc, (u_born ty hts hin hKn hkC e1 hty).to hfs⟩ z1 o1
/-! arrays -/
theorem g_iald (X : gX p m c cc nL s args own Ts D cl tys) (t0 : Nat) {cA : ClassId} {n : Nat} {f : Nat → Int32} (h : va_at D cl (a, .inl (cA, n, .inl f)) H) (ht : tys[t0]? = some (cA, .int)) (i : Nat) (hi : i < n) (hi2 : n < 2 ^ 31) (hdg : decode cc pc = .ok (.iaload, 1))
    (kk : W p l e R s m args below meth c H locs cells slots Q (F0 m (pc + 1) ls (.int (f i) :: rest))) : W p l e R s m args below meth c H locs cells slots Q (F0 m pc ls (.int (nI i) :: .ref a :: rest)) :=
  va_iald X.1.1 X.1.2.1 X.2 (g_P1 h) 0 t0 rfl ht (vp_in_nI hi hi2) hdg (by rw [nI_clamp (show i < 2 ^ 31 by omega)]; exact kk)
theorem g_zald (X : gX p m c cc nL s args own Ts D cl tys) (t0 : Nat) {cA : ClassId} {n : Nat} {f : Nat → Int32} (h : va_at D cl (a, .inl (cA, n, .inl f)) H) (ht : tys[t0]? = some (cA, .boolean)) (i : Nat) (hi : i < n) (hi2 : n < 2 ^ 31) (hdg : decode cc pc = .ok (.baload, 1))
    (kk : W p l e R s m args below meth c H locs cells slots Q (F0 m (pc + 1) ls (.int (f i) :: rest))) : W p l e R s m args below meth c H locs cells slots Q (F0 m pc ls (.int (nI i) :: .ref a :: rest)) :=
  va_zald X.1.1 X.1.2.1 X.2 (g_P1 h) 0 t0 rfl ht (vp_in_nI hi hi2) hdg (by rw [nI_clamp (show i < 2 ^ 31 by omega)]; exact kk)
theorem g_aald (X : gX p m c cc nL s args own Ts D cl tys) (t0 : Nat) {cA : ClassId} {Cq : String} {n : Nat} {f : Nat → Option Nat} (h : va_at D cl (a, .inl (cA, n, .inr (.inr (.inr (.inr f))))) H) (ht : tys[t0]? = some (cA, .object Cq)) (i : Nat) (hi : i < n) (hi2 : n < 2 ^ 31) {v : Value} (hv : va_rf (f i) = v) (hdg : decode cc pc = .ok (.aaload, 1))
    (kk : W p l e R s m args below meth c H locs cells slots Q (F0 m (pc + 1) ls (v :: rest))) : W p l e R s m args below meth c H locs cells slots Q (F0 m pc ls (.int (nI i) :: .ref a :: rest)) :=
  va_aldq X.1.1 X.1.2.1 X.2 (g_P1 h) 0 t0 rfl ht (vp_in_nI hi hi2) hdg (by rw [nI_clamp (show i < 2 ^ 31 by omega), hv]; exact kk)
theorem g_alen (X : gX p m c cc nL s args own Ts D cl tys) (t0 : Nat) {cA : ClassId} {x : vp_A} (h : va_at D cl (a, .inl (cA, x)) H) {tq : FieldType} (ht : tys[t0]? = some (cA, tq)) (hdg : decode cc pc = .ok (.arraylength, 1))
    (kk : W p l e R s m args below meth c H locs cells slots Q (F0 m (pc + 1) ls (.int (nI x.1) :: rest))) : W p l e R s m args below meth c H locs cells slots Q (F0 m pc ls (.ref a :: rest)) :=
  va_alen X.1.1 X.1.2.1 X.2 (g_P1 h) 0 t0 rfl ht rfl hdg kk
theorem g_iast (X : gX p m c cc nL s args own Ts D cl tys) (t0 : Nat) {cA : ClassId} {n : Nat} {f : Nat → Int32} (h : va_at D cl (a, .inl (cA, n, .inl f)) H) (ht : tys[t0]? = some (cA, .int)) (i : Nat) (hi : i < n) (hi2 : n < 2 ^ 31) {x : Int32} (hdg : decode cc pc = .ok (.iastore, 1)) (hA : A a) (hL : ∀ x ∈ locs, A x.base)
    (kk : ∀ (H1 : Heap) (locs1 : List Loc), va_at D cl (a, .inl (cA, n, .inl (upd f i x))) H1 → H1.size = H.size → (∀ q : Nat, q ≠ a → H1[q]? = H[q]?) → (∀ x ∈ locs1, A x.base) → W p l e R s m args below meth c H1 locs1 cells slots Q (F0 m (pc + 1) ls rest)) : W p l e R s m args below meth c H locs cells slots Q (F0 m pc ls (.int x :: .int (nI i) :: .ref a :: rest)) := by
  have hcl : (nI i).toNatClampNeg = i := nI_clamp (show i < 2 ^ 31 by omega)
  refine W.iast X.1.1 X.1.2.1 h ((X.2.2 t0 _ ht).1 n (fun j => .int (f j))) (fun q => by cases q) (by show ¬ (nI i < 0 ∨ (arrV _ _ _).slots.size ≤ _); rw [arrV_size]; exact vp_in_nI hi hi2) rfl rfl hdg fun H1 e1 z oq => ?_
  refine kk H1 _ ?_ z oq (t_lc hL hA)
  show H1[a]? = some (vp_cell _ _)
  rw [e1, hcl]
  rw [vp_cell_i, vp_cell_i, arrV_store]
  congr 2
  funext q
  by_cases hq : q = i
  · subst hq
    simp [updV, upd]
  · simp [updV, upd, hq]
theorem g_zast (X : gX p m c cc nL s args own Ts D cl tys) (t0 : Nat) {cA : ClassId} {n : Nat} {f : Nat → Int32} (h : va_at D cl (a, .inl (cA, n, .inl f)) H) (ht : tys[t0]? = some (cA, .boolean)) (i : Nat) (hi : i < n) (hi2 : n < 2 ^ 31) {x : Int32} (hx : narrow .boolean (.int x) = .int x) (hdg : decode cc pc = .ok (.bastore, 1)) (hA : A a) (hL : ∀ x ∈ locs, A x.base)
    (kk : ∀ (H1 : Heap) (locs1 : List Loc), va_at D cl (a, .inl (cA, n, .inl (upd f i x))) H1 → H1.size = H.size → (∀ q : Nat, q ≠ a → H1[q]? = H[q]?) → (∀ x ∈ locs1, A x.base) → W p l e R s m args below meth c H1 locs1 cells slots Q (F0 m (pc + 1) ls rest)) : W p l e R s m args below meth c H locs cells slots Q (F0 m pc ls (.int x :: .int (nI i) :: .ref a :: rest)) := by
  have hcl : (nI i).toNatClampNeg = i := nI_clamp (show i < 2 ^ 31 by omega)
  refine W.zast X.1.1 X.1.2.1 h ((X.2.2 t0 _ ht).1 n (fun j => .int (f j))) (fun q => by cases q) (by show ¬ (nI i < 0 ∨ (arrV _ _ _).slots.size ≤ _); rw [arrV_size]; exact vp_in_nI hi hi2) rfl rfl hdg fun H1 e1 z oq => ?_
  refine kk H1 _ ?_ z oq (t_lc hL hA)
  show H1[a]? = some (vp_cell _ _)
  rw [e1, hcl, hx]
  rw [vp_cell_i, vp_cell_i, arrV_store]
  congr 2
  funext q
  by_cases hq : q = i
  · subst hq
    simp [updV, upd]
  · simp [updV, upd, hq]
theorem g_aast (X : gX p m c cc nL s args own Ts D cl tys) (t0 : Nat) (K : gk Ts cl ci C T N ty) {cA : ClassId} {n v : Nat} {vs : List Value} {f : Nat → Option Nat} (h : va_at D cl (a, .inl (cA, n, .inr (.inr (.inr (.inr f))))) H) (ht : tys[t0]? = some (cA, .object C)) (hv : va_at D cl (v, .inr (ci, vs)) H) (i : Nat) (hi : i < n) (hi2 : n < 2 ^ 31) (hdg : decode cc pc = .ok (.aastore, 1)) (hA : A a) (hL : ∀ x ∈ locs, A x.base)
    (kk : ∀ (H1 : Heap) (locs1 : List Loc), va_at D cl (a, .inl (cA, n, .inr (.inr (.inr (.inr (va_up f i (some v))))))) H1 → H1.size = H.size → (∀ q : Nat, q ≠ a → H1[q]? = H[q]?) → (∀ x ∈ locs1, A x.base) → W p l e R s m args below meth c H1 locs1 cells slots Q (F0 m (pc + 1) ls rest)) : W p l e R s m args below meth c H locs cells slots Q (F0 m pc ls (.ref v :: .int (nI i) :: .ref a :: rest)) := by
  have hcl : (nI i).toNatClampNeg = i := nI_clamp (show i < 2 ^ 31 by omega)
  have hK := X.2
  obtain ⟨r', hr', cellV, g1, g2, g3, -⟩ := hv
  have hcls := (hK.1 ci _ K.2.2.2).2
  obtain ⟨kA, comp, k1, k2, k3, -⟩ := (hK.2 t0 _ ht).2
  have hcomp : comp = D.1 ci := Option.some.inj (k3.symm.trans hcls.1)
  subst hcomp
  obtain ⟨kC, hkC, -⟩ := hcls.2
  refine W.aast X.1.1 X.1.2.1 h (fun q h => by cases h) (fun h => by cases h) k1 k2 rfl hkC ⟨nI_pos (show i < 2 ^ 31 by omega), by show _ < (arrV _ _ _).slots.size; rw [arrV_size, hcl]; exact hi⟩ g1 (fun q h => by rw [g3] at h; cases h) (by rw [g2]; exact hkC) (by rw [g2]; exact va_assign hcls) rfl rfl hdg fun H1 e1 z oq => ?_
  refine kk H1 _ ?_ z oq (t_lc hL hA)
  show H1[a]? = some (vp_cell _ _)
  rw [e1, hcl]
  rw [vp_cell_q, vp_cell_q, arrV_store]
  congr 2
  funext q
  by_cases hq : q = i
  · subst hq
    simp [updV, va_up, va_rf]
  · simp [updV, va_up, hq]
theorem g_newi (X : gX p m c cc nL s args own Ts D cl tys) (t0 : Nat) {cA : ClassId} (ht : tys[t0]? = some (cA, .int)) (harr : Cond.arrayClass .int ∈ Ts) (n : Nat) (hn : n < 65536) (hcells : cells + 1 ≤ R.cells) (hslots : slots + n ≤ R.slots) (hdg : decode cc pc = .ok (.newarray .int, 2))
    (kk : ∀ (H1 : Heap), va_at D cl (H.size, .inl (cA, n, .inl (fun _ => 0))) H1 → H1.size = H.size + 1 → (∀ q : Nat, q < H.size → H1[q]? = H[q]?) → W p l e R s m args below meth c H1 locs (cells + 1) (slots + n) Q (F0 m (pc + 2) ls (.ref H.size :: rest))) : W p l e R s m args below meth c H locs cells slots Q (F0 m pc ls (.int (nI n) :: rest)) := by
  refine va_newaK (atype := .int) X.1.1 X.1.2.1 (X.1.2.2.2.2 _ harr) rfl hdg rfl (nI_pos (by omega)) (nI_clamp (show n < 2 ^ 31 by omega)) (show n * 4 ≤ 536870912 by omega) hcells hslots rfl fun H1 cA' e1 z1 o1 hAr hNm => ?_
  have e2 : cA' = cA := Option.some.inj (hNm.symm.trans (X.2.2 t0 _ ht).2)
  subst e2
  exact kk H1 e1 z1 o1
theorem g_newz (X : gX p m c cc nL s args own Ts D cl tys) (t0 : Nat) {cA : ClassId} (ht : tys[t0]? = some (cA, .boolean)) (harr : Cond.arrayClass .boolean ∈ Ts) (n : Nat) (hn : n < 65536) (hcells : cells + 1 ≤ R.cells) (hslots : slots + n ≤ R.slots) (hdg : decode cc pc = .ok (.newarray .boolean, 2))
    (kk : ∀ (H1 : Heap), va_at D cl (H.size, .inl (cA, n, .inl (fun _ => 0))) H1 → H1.size = H.size + 1 → (∀ q : Nat, q < H.size → H1[q]? = H[q]?) → W p l e R s m args below meth c H1 locs (cells + 1) (slots + n) Q (F0 m (pc + 2) ls (.ref H.size :: rest))) : W p l e R s m args below meth c H locs cells slots Q (F0 m pc ls (.int (nI n) :: rest)) := by
  refine va_newaK (atype := .boolean) X.1.1 X.1.2.1 (X.1.2.2.2.2 _ harr) rfl hdg rfl (nI_pos (by omega)) (nI_clamp (show n < 2 ^ 31 by omega)) (show n * 1 ≤ 536870912 by omega) hcells hslots rfl fun H1 cA' e1 z1 o1 hAr hNm => ?_
  have e2 : cA' = cA := Option.some.inj (hNm.symm.trans (X.2.2 t0 _ ht).2)
  subst e2
  exact kk H1 e1 z1 o1
theorem g_newq (X : gX p m c cc nL s args own Ts D cl tys) (t0 : Nat) {cA : ClassId} {Cq : String} (ht : tys[t0]? = some (cA, .object Cq)) (hcl : Cond.classLink own index Cq ∈ Ts) (hover : va_AO Cq s) (n : Nat) (hn : n < 65536) (hcells : cells + 1 ≤ R.cells) (hslots : slots + n ≤ R.slots) (hdg : decode cc pc = .ok (.anewarray index, 3))
    (kk : ∀ (H1 : Heap), va_at D cl (H.size, .inl (cA, n, .inr (.inr (.inr (.inr (fun _ => none)))))) H1 → H1.size = H.size + 1 → (∀ q : Nat, q < H.size → H1[q]? = H[q]?) → W p l e R s m args below meth c H1 locs (cells + 1) (slots + n) Q (F0 m (pc + 3) ls (.ref H.size :: rest))) : W p l e R s m args below meth c H locs cells slots Q (F0 m pc ls (.int (nI n) :: rest)) := by
  have hcn : (nI n).toNatClampNeg = n := nI_clamp (show n < 2 ^ 31 by omega)
  refine W.anew X.1.1 X.1.2.1 X.1.2.2.2.1 (X.1.2.2.2.2 _ hcl) (va_AO.use hover) rfl hdg rfl (nI_pos (by omega)) (by rw [hcn]; omega) hcells (by rw [hcn]; exact hslots) fun cA' kA comp f1 f2 f3 f4 => ?_
  obtain ⟨kA2, comp2, -, -, -, f5⟩ := (X.2.2 t0 _ ht).2
  have e2 : cA' = cA := Option.some.inj (f1.symm.trans f5)
  subst e2
  rw [hcn]
  refine kk _ ?_ (by rw [Array.size_push]) (fun q hq => by rw [Array.getElem?_push, if_neg (Nat.ne_of_lt hq)])
  show (H.push _)[H.size]? = some (vp_cell _ _)
  rw [Array.getElem?_push_size, vp_cell_q, ← arrV_new]
  rfl
theorem g_copyi (X : gX p m c cc nL s args own Ts D cl tys) (hls : ls.size = nL) (hlink : Cond.methodLink own index arraycopyName ∈ Ts) (hnat : Cond.native arraycopyName ∈ Ts) (hstat : Cond.static arraycopyName ∈ Ts) (hini : Cond.initialized "java/lang/System" ∈ Ts)
    (t0 : Nat) {a0 : Nat} {cA : ClassId} {n0 n1 : Nat} {f g : Nat → Int32} (h0 : va_at D cl (a0, .inl (cA, n0, .inl f)) H) (h1 : va_at D cl (a, .inl (cA, n1, .inl g)) H) (ht : tys[t0]? = some (cA, .int)) (sp dp n : Nat) (hs : sp + n ≤ n0) (hd : dp + n ≤ n1) (hn0 : n0 < 2 ^ 31) (hn1 : n1 < 2 ^ 31)
    (hframes : 1 ≤ R.frames) (hlocals : (rest.map fun v => v.category).sum + 18 ≤ R.locals) (hdg : decode cc pc = .ok (.invokestatic index, 3)) (hA : A a) (hL : ∀ x ∈ locs, A x.base)
    (kk : ∀ (H1 : Heap) (locs1 : List Loc), va_at D cl (a, .inl (cA, n1, .inl (va_cpy f g sp dp n))) H1 → H1.size = H.size → (∀ q : Nat, q ≠ a → H1[q]? = H[q]?) → (∀ x ∈ locs1, A x.base) → W p l e R s m args below meth c H1 locs1 cells slots Q (F0 m (pc + 3) ls rest)) : W p l e R s m args below meth c H locs cells slots Q (F0 m pc ls (.int (nI n) :: .int (nI dp) :: .ref a :: .int (nI sp) :: .ref a0 :: rest)) := by
  obtain ⟨⟨hexec, hb, hml, hown, hts⟩, hK⟩ := X
  intro T hT X
  have hc0 : H[a0]? = some (vp_cell cA (n0, .inl f)) := h0
  have hc1 : H[a]? = some (vp_cell cA (n1, .inl g)) := h1
  have es : (nI sp).toNatClampNeg = sp := nI_clamp (by omega)
  have ed : (nI dp).toNatClampNeg = dp := nI_clamp (by omega)
  have en : (nI n).toNatClampNeg = n := nI_clamp (by omega)
  have is : (nI sp).toInt = (sp : Int) := nI_toInt (by omega)
  have id : (nI dp).toInt = (dp : Int) := nI_toInt (by omega)
  have in' : (nI n).toInt = (n : Int) := nI_toInt (by omega)
  obtain ⟨-, k0, hk0, cm0, hkk0⟩ := (hK.2 t0 _ ht).1 n0 (fun j => .int (f j))
  obtain ⟨-, k1, hk1, cm1, hkk1⟩ := (hK.2 t0 _ ht).1 n1 (fun j => .int (g j))
  obtain ⟨vm', X', step⟩ := X.arraycopy hexec hown (hts _ hlink) (hts _ hnat) (hts _ hstat) (hts _ hini) (src := a0) (dst := a) (cs := vp_cell cA (n0, .inl f)) (cd := vp_cell cA (n1, .inl g)) (srcPos := nI sp) (destPos := nI dp) (n := nI n) (by rw [hT]; exact hc0) (by rw [hT]; exact hc1)
    (fun _ h => by cases h) (fun _ h => by cases h) (fun h => by cases h) (fun h => by cases h) hk0 hk1 hkk0 hkk1 (by simp [refKind]) (nI_pos (by omega)) (nI_pos (by omega)) (nI_pos (by omega))
    (by rw [is, in']; show ¬ _ > ((arrV cA n0 (fun j => .int (f j))).slots.size : Int); rw [arrV_size]; omega)
    (by rw [id, in']; show ¬ _ > ((arrV cA n1 (fun j => .int (g j))).slots.size : Int); rw [arrV_size]; omega)
    (fun vm₁ _ i hi => by
      rw [en] at hi
      have e : (vp_cell cA (n0, .inl f)).slots.getD ((nI sp).toNatClampNeg + i) .null = .int (f (sp + i)) := by
        rw [es]
        show (arrV cA n0 (fun j => .int (f j))).slots.getD _ _ = _
        rw [Array.getD_eq_getD_getElem?, arrV_read _ _ (by omega)]
        rfl
      refine ⟨?_, ?_⟩
      · rw [e]
        rfl
      · rw [e]
        exact trivial)
    (g := F0 m pc ls (.int (nI n) :: .int (nI dp) :: .ref a :: .int (nI sp) :: .ref a0 :: rest)) rfl (by rw [hml]; exact hls) (rest := rest) rfl (by rw [hb]; exact hdg) hframes (by show 2 * 0 + _ + 18 ≤ _; omega)
  have e1 : copied (vp_cell cA (n0, .inl f)) (vp_cell cA (n1, .inl g)) (nI sp) (nI dp) (nI n) = vp_cell cA (n1, .inl (va_cpy f g sp dp n)) := by
    have h : copied (vp_cell cA (n0, .inl f)) (vp_cell cA (n1, .inl g)) (nI sp) (nI dp) (nI n) = vp_cell cA (n1, .inl (va_cpy f g (nI sp).toNatClampNeg (nI dp).toNatClampNeg (nI n).toNatClampNeg)) :=
      va_copied (sp := (nI sp).toNatClampNeg) (dp := (nI dp).toNatClampNeg) (n := (nI n).toNatClampNeg) (n0 := n0) (n1 := n1) (fun z => Value.int z) cA cA f g (by rw [es, en]; exact hs)
    rw [es, ed, en] at h
    exact h
  rw [e1] at X' step
  have hl : a < H.size := (Array.getElem?_eq_some_iff.mp hc1).1
  have hheap : ((T.setVm vm').setCell a (vp_cell cA (n1, .inl (va_cpy f g sp dp n)))).heap = H.setIfInBounds a (vp_cell cA (n1, .inl (va_cpy f g sp dp n))) := by rw [← hT]; rfl
  obtain ⟨t, a1, b1⟩ := kk _ _ (show (H.setIfInBounds a _)[a]? = some _ by simp [Array.getElem?_setIfInBounds, hl]) (by simp) (fun q hq => by simp [Array.getElem?_setIfInBounds, Ne.symm hq]) (fun q hq => by
      rcases List.mem_append.mp hq with h | h
      · exact hL q h
      · obtain ⟨z, -, hz⟩ := List.mem_map.mp h
        rw [← hz]
        exact hA) _ hheap X'
  exact ⟨t, step t a1, b1⟩
end GH
