/-! own rows, 1: a frame's variables as a list; cells one by one, by the heap itself; contracts over a given heap -/
section GL
def gl_l : Nat → List (Option Value) → List (Nat × Value)
  | _, [] => []
  | i, none :: r => gl_l (i + 1) r
  | i, some v :: r => (i, v) :: gl_l (i + 1) r
theorem gl_mem : ∀ (L : List (Option Value)) (k i : Nat) (v : Value), (i, v) ∈ gl_l k L ↔ ∃ j, i = k + j ∧ L[j]? = some (some v)
  | [], k, i, v => by simp [gl_l]
  | none :: r, k, i, v => by
    rw [gl_l, gl_mem r (k + 1) i v]
    constructor
    · rintro ⟨j, h1, h2⟩
      exact ⟨j + 1, by omega, by simpa using h2⟩
    · rintro ⟨j, h1, h2⟩
      cases j with
      | zero => simp at h2
      | succ j => exact ⟨j, by omega, by simpa using h2⟩
  | some w :: r, k, i, v => by
    rw [gl_l, List.mem_cons, gl_mem r (k + 1) i v]
    constructor
    · rintro (h | ⟨j, h1, h2⟩)
      · cases h
        exact ⟨0, by omega, rfl⟩
      · exact ⟨j + 1, by omega, by simpa using h2⟩
    · rintro ⟨j, h1, h2⟩
      cases j with
      | zero =>
        simp at h2
        subst h2
        exact Or.inl (by rw [h1]; rfl)
      | succ j => exact Or.inr ⟨j, by omega, by simpa using h2⟩
def gl (ls : Array Slot) (L : List (Option Value)) : Prop := lv_has ls L.length (gl_l 0 L)
theorem gl_at {ls : Array Slot} {L : List (Option Value)} {i : Nat} {v : Value} (h : gl ls L) (hk : L[i]? = some (some v)) : ls[i]? = some (.val v) := h.2.2 (i, v) ((gl_mem L 0 i v).mpr ⟨i, by omega, hk⟩)
def gl_ok (L : List (Option Value)) : Nat → Bool
  | 0 => true
  | j + 1 => match L[j]? with
    | some (some w) => w.category == 1
    | _ => true
theorem gl_of {ls' : Array Slot} {L : List (Option Value)} {i : Nat} {v : Value} (ho : gl_ok L i = true) (hi : i < L.length) (h : lv_has ls' L.length ((i, v) :: (gl_l 0 L).filter (fun q => !(q.1 == i) && !(q.1 + 1 == i && q.2.category == 2)))) : gl ls' (L.set i (some v)) := by
  refine ⟨by rw [h.1]; simp, h.2.1, fun q hq => ?_⟩
  obtain ⟨j, w⟩ := q
  obtain ⟨j', hj, hw⟩ := (gl_mem _ 0 j w).mp hq
  have e : j = j' := by omega
  subst e
  by_cases hji : j = i
  · subst hji
    rw [List.getElem?_set_self hi] at hw
    cases hw
    exact h.2.2 (j, v) List.mem_cons_self
  · rw [List.getElem?_set_ne (Ne.symm hji)] at hw
    refine h.2.2 (j, w) (List.mem_cons_of_mem _ (List.mem_filter.mpr ⟨(gl_mem L 0 j w).mpr ⟨j, by omega, hw⟩, ?_⟩))
    by_cases h1 : j + 1 = i
    · subst h1
      simp only [gl_ok, hw] at ho
      have h2 : w.category = 1 := by simpa using ho
      simp [h2]
    · simp [hji, h1]
theorem gl_forget {ls : Array Slot} {L : List (Option Value)} (h : gl ls L) (i : Nat) : gl ls (L.set i none) := by
  refine ⟨by rw [h.1]; simp, h.2.1, fun q hq => ?_⟩
  obtain ⟨j, w⟩ := q
  obtain ⟨j', hj, hw⟩ := (gl_mem _ 0 j w).mp hq
  have e : j = j' := by omega
  subst e
  by_cases hji : j = i
  · subst hji
    by_cases hl : j < L.length
    · rw [List.getElem?_set_self hl] at hw
      cases hw
    · rw [List.getElem?_eq_none (by simp; omega)] at hw
      cases hw
  · rw [List.getElem?_set_ne (Ne.symm hji)] at hw
    exact h.2.2 (j, w) ((gl_mem L 0 j w).mpr ⟨j, by omega, hw⟩)
end GL
section GR
variable {p : Program} {l : Launch} {e : Env} {R : Room} {s : State} {m : MethodId} {args : Array Value} {below : List Frame} {meth : Method} {c : Code} {H : Heap} {locs : List Loc} {cells slots : Nat} {Q : State → Prop}
variable {cc : ByteArray} {pc : Nat} {ls : Array Slot} {rest : List Value} {L : List (Option Value)}
theorem g_entry {vs : List Value} {n : Nat} (L : List (Option Value)) (hL : gl_l 0 L = lv_args 0 vs) (hn : L.length = n) (hle : (lg_sl vs).length ≤ n)
    (k : ∀ ls : Array Slot, gl ls L → W p l e R s m args below meth c H locs cells slots Q (F0 m 0 ls [])) : W p l e R s m args below meth c H locs cells slots Q (entryFrame m vs.toArray n) := by
  rw [lg_entry_eq]
  refine k _ ?_
  unfold gl
  rw [hn, hL]
  exact lv_entry vs hle
theorem g_istn (hexec : p.tables.exec = Jvm.exec) (hb : c.code = cc) {k : Fin 4} {x : Int32} (h : gl ls L) (i : Nat) (hdg : decode cc pc = .ok (.istore_n k, 1)) (hi : (k : Nat) = i) (hn : i < L.length) (ho : gl_ok L i = true)
    (kk : ∀ ls' : Array Slot, gl ls' (L.set i (some (.int x))) → W p l e R s m args below meth c H locs cells slots Q (F0 m (pc + 1) ls' rest)) : W p l e R s m args below meth c H locs cells slots Q (F0 m pc ls (.int x :: rest)) :=
  lv_istore_n hexec hb hdg hi h hn rfl (fun ls' h' => kk ls' (gl_of ho hn h'))
theorem g_ist (hexec : p.tables.exec = Jvm.exec) (hb : c.code = cc) {x : Int32} (h : gl ls L) (i : Nat) (hdg : decode cc pc = .ok (.istore i, 2)) (hn : i < L.length) (ho : gl_ok L i = true)
    (kk : ∀ ls' : Array Slot, gl ls' (L.set i (some (.int x))) → W p l e R s m args below meth c H locs cells slots Q (F0 m (pc + 2) ls' rest)) : W p l e R s m args below meth c H locs cells slots Q (F0 m pc ls (.int x :: rest)) :=
  lv_istore hexec hb hdg h hn rfl (fun ls' h' => kk ls' (gl_of ho hn h'))
theorem g_astn (hexec : p.tables.exec = Jvm.exec) (hb : c.code = cc) {k : Fin 4} {x : Nat} (h : gl ls L) (i : Nat) (hdg : decode cc pc = .ok (.astore_n k, 1)) (hi : (k : Nat) = i) (hn : i < L.length) (ho : gl_ok L i = true)
    (kk : ∀ ls' : Array Slot, gl ls' (L.set i (some (.ref x))) → W p l e R s m args below meth c H locs cells slots Q (F0 m (pc + 1) ls' rest)) : W p l e R s m args below meth c H locs cells slots Q (F0 m pc ls (.ref x :: rest)) :=
  lv_astore_n hexec hb hdg hi h hn rfl (fun ls' h' => kk ls' (gl_of ho hn h'))
theorem g_ast (hexec : p.tables.exec = Jvm.exec) (hb : c.code = cc) {x : Nat} (h : gl ls L) (i : Nat) (hdg : decode cc pc = .ok (.astore i, 2)) (hn : i < L.length) (ho : gl_ok L i = true)
    (kk : ∀ ls' : Array Slot, gl ls' (L.set i (some (.ref x))) → W p l e R s m args below meth c H locs cells slots Q (F0 m (pc + 2) ls' rest)) : W p l e R s m args below meth c H locs cells slots Q (F0 m pc ls (.ref x :: rest)) :=
  lv_astore hexec hb hdg h hn rfl (fun ls' h' => kk ls' (gl_of ho hn h'))
theorem g_iinc (hexec : p.tables.exec = Jvm.exec) (hb : c.code = cc) {n : Int} {x : Int32} (v : Int32) (h : gl ls L) (i : Nat) (hdg : decode cc pc = .ok (.iinc i n, 3)) (hk : L[i]? = some (some (.int x))) (hv : x + Int32.ofInt n = v) (ho : gl_ok L i = true)
    (kk : ∀ ls' : Array Slot, gl ls' (L.set i (some (.int v))) → W p l e R s m args below meth c H locs cells slots Q (F0 m (pc + 3) ls' rest)) : W p l e R s m args below meth c H locs cells slots Q (F0 m pc ls rest) := by
  have hn : i < L.length := (List.getElem?_eq_some_iff.mp hk).1
  obtain ⟨k, hk'⟩ := List.getElem?_of_mem ((gl_mem L 0 i (.int x)).mpr ⟨i, by omega, hk⟩)
  exact lv_iinc hexec hb hdg h hk' hv hn rfl (fun ls' h' => kk ls' (gl_of ho hn h'))
theorem g_top {x : Int32} (y : Int32) (e1 : x = y) (k : W p l e R s m args below meth c H locs cells slots Q (F0 m pc ls (.int y :: rest))) : W p l e R s m args below meth c H locs cells slots Q (F0 m pc ls (.int x :: rest)) := e1 ▸ k
theorem g_topv {x : Value} (y : Value) (e1 : x = y) (k : W p l e R s m args below meth c H locs cells slots Q (F0 m pc ls (y :: rest))) : W p l e R s m args below meth c H locs cells slots Q (F0 m pc ls (x :: rest)) := e1 ▸ k
/-! branches over numbers -/
theorem gn_ge (hexec : p.tables.exec = Jvm.exec) (hb : c.code = cc) (a b : Nat) {off : Int} {tgt : Nat} (ha : a < 2 ^ 31) (h2 : b < 2 ^ 31) (hdg : decode cc pc = .ok (.if_icmp .ge off, 3)) (ht : (pc : Int) + off = (tgt : Int))
    (kt : b ≤ a → W p l e R s m args below meth c H locs cells slots Q (F0 m tgt ls rest)) (kf : a < b → W p l e R s m args below meth c H locs cells slots Q (F0 m (pc + 3) ls rest)) : W p l e R s m args below meth c H locs cells slots Q (F0 m pc ls (.int (nI b) :: .int (nI a) :: rest)) :=
  lv_icmp_ge hexec hb hdg ht (fun h => kt ((nI_leI h2 ha).mp h)) (fun h => kf (Nat.not_le.mp fun q => h ((nI_leI h2 ha).mpr q)))
theorem gn_lt (hexec : p.tables.exec = Jvm.exec) (hb : c.code = cc) (a b : Nat) {off : Int} {tgt : Nat} (ha : a < 2 ^ 31) (h2 : b < 2 ^ 31) (hdg : decode cc pc = .ok (.if_icmp .lt off, 3)) (ht : (pc : Int) + off = (tgt : Int))
    (kt : a < b → W p l e R s m args below meth c H locs cells slots Q (F0 m tgt ls rest)) (kf : b ≤ a → W p l e R s m args below meth c H locs cells slots Q (F0 m (pc + 3) ls rest)) : W p l e R s m args below meth c H locs cells slots Q (F0 m pc ls (.int (nI b) :: .int (nI a) :: rest)) :=
  lv_icmp_lt hexec hb hdg ht (fun h => kt ((nI_ltI ha h2).mp h)) (fun h => kf (Nat.not_lt.mp fun q => h ((nI_ltI ha h2).mpr q)))
theorem gn_gt (hexec : p.tables.exec = Jvm.exec) (hb : c.code = cc) (a b : Nat) {off : Int} {tgt : Nat} (ha : a < 2 ^ 31) (h2 : b < 2 ^ 31) (hdg : decode cc pc = .ok (.if_icmp .gt off, 3)) (ht : (pc : Int) + off = (tgt : Int))
    (kt : b < a → W p l e R s m args below meth c H locs cells slots Q (F0 m tgt ls rest)) (kf : a ≤ b → W p l e R s m args below meth c H locs cells slots Q (F0 m (pc + 3) ls rest)) : W p l e R s m args below meth c H locs cells slots Q (F0 m pc ls (.int (nI b) :: .int (nI a) :: rest)) :=
  lv_icmp_gt hexec hb hdg ht (fun h => kt ((nI_ltI h2 ha).mp h)) (fun h => kf (Nat.not_lt.mp fun q => h ((nI_ltI h2 ha).mpr q)))
theorem gn_le (hexec : p.tables.exec = Jvm.exec) (hb : c.code = cc) (a b : Nat) {off : Int} {tgt : Nat} (ha : a < 2 ^ 31) (h2 : b < 2 ^ 31) (hdg : decode cc pc = .ok (.if_icmp .le off, 3)) (ht : (pc : Int) + off = (tgt : Int))
    (kt : a ≤ b → W p l e R s m args below meth c H locs cells slots Q (F0 m tgt ls rest)) (kf : b < a → W p l e R s m args below meth c H locs cells slots Q (F0 m (pc + 3) ls rest)) : W p l e R s m args below meth c H locs cells slots Q (F0 m pc ls (.int (nI b) :: .int (nI a) :: rest)) :=
  lv_icmp_le hexec hb hdg ht (fun h => kt ((nI_leI ha h2).mp h)) (fun h => kf (Nat.not_le.mp fun q => h ((nI_leI ha h2).mpr q)))
theorem gn_eq (hexec : p.tables.exec = Jvm.exec) (hb : c.code = cc) (a b : Nat) {off : Int} {tgt : Nat} (ha : a < 2 ^ 31) (h2 : b < 2 ^ 31) (hdg : decode cc pc = .ok (.if_icmp .eq off, 3)) (ht : (pc : Int) + off = (tgt : Int))
    (kt : a = b → W p l e R s m args below meth c H locs cells slots Q (F0 m tgt ls rest)) (kf : a ≠ b → W p l e R s m args below meth c H locs cells slots Q (F0 m (pc + 3) ls rest)) : W p l e R s m args below meth c H locs cells slots Q (F0 m pc ls (.int (nI b) :: .int (nI a) :: rest)) :=
  lv_icmp_eq hexec hb hdg ht (fun h => kt ((nI_eq ha h2).mp h)) (fun h => kf (fun q => h ((nI_eq ha h2).mpr q)))
theorem gn_ne (hexec : p.tables.exec = Jvm.exec) (hb : c.code = cc) (a b : Nat) {off : Int} {tgt : Nat} (ha : a < 2 ^ 31) (h2 : b < 2 ^ 31) (hdg : decode cc pc = .ok (.if_icmp .ne off, 3)) (ht : (pc : Int) + off = (tgt : Int))
    (kt : a ≠ b → W p l e R s m args below meth c H locs cells slots Q (F0 m tgt ls rest)) (kf : a = b → W p l e R s m args below meth c H locs cells slots Q (F0 m (pc + 3) ls rest)) : W p l e R s m args below meth c H locs cells slots Q (F0 m pc ls (.int (nI b) :: .int (nI a) :: rest)) :=
  lv_icmp_ne hexec hb hdg ht (fun h => kt (fun q => h ((nI_eq ha h2).mpr q))) (fun h => kf ((nI_eq ha h2).mp h))
theorem gn_eq0 (hexec : p.tables.exec = Jvm.exec) (hb : c.code = cc) (a : Nat) {off : Int} {tgt : Nat} (ha : a < 2 ^ 31) (hdg : decode cc pc = .ok (.ifCond .eq off, 3)) (ht : (pc : Int) + off = (tgt : Int))
    (kt : a = 0 → W p l e R s m args below meth c H locs cells slots Q (F0 m tgt ls rest)) (kf : a ≠ 0 → W p l e R s m args below meth c H locs cells slots Q (F0 m (pc + 3) ls rest)) : W p l e R s m args below meth c H locs cells slots Q (F0 m pc ls (.int (nI a) :: rest)) :=
  lv_if_eq hexec hb hdg ht (fun h => kt ((nI_eq ha (by decide)).mp (h.trans nI_0.symm))) (fun h => kf (fun q => h (by rw [q]; exact nI_0)))
theorem gn_ne0 (hexec : p.tables.exec = Jvm.exec) (hb : c.code = cc) (a : Nat) {off : Int} {tgt : Nat} (ha : a < 2 ^ 31) (hdg : decode cc pc = .ok (.ifCond .ne off, 3)) (ht : (pc : Int) + off = (tgt : Int))
    (kt : a ≠ 0 → W p l e R s m args below meth c H locs cells slots Q (F0 m tgt ls rest)) (kf : a = 0 → W p l e R s m args below meth c H locs cells slots Q (F0 m (pc + 3) ls rest)) : W p l e R s m args below meth c H locs cells slots Q (F0 m pc ls (.int (nI a) :: rest)) :=
  lv_if_ne hexec hb hdg ht (fun h => kt (fun q => h (by rw [q]; exact nI_0))) (fun h => kf ((nI_eq ha (by decide)).mp (h.trans nI_0.symm)))
theorem gn_le0 (hexec : p.tables.exec = Jvm.exec) (hb : c.code = cc) (a : Nat) {off : Int} {tgt : Nat} (ha : a < 2 ^ 31) (hdg : decode cc pc = .ok (.ifCond .le off, 3)) (ht : (pc : Int) + off = (tgt : Int))
    (kt : a = 0 → W p l e R s m args below meth c H locs cells slots Q (F0 m tgt ls rest)) (kf : 0 < a → W p l e R s m args below meth c H locs cells slots Q (F0 m (pc + 3) ls rest)) : W p l e R s m args below meth c H locs cells slots Q (F0 m pc ls (.int (nI a) :: rest)) :=
  lv_if_le hexec hb hdg ht (fun h => kt (Nat.le_zero.mp ((nI_leI ha (by decide)).mp (show nI a ≤ nI 0 from h)))) (fun h => kf (Nat.pos_of_ne_zero fun q => h (by rw [q]; exact (nI_leI (by decide) (by decide)).mpr (Nat.le_refl 0))))
theorem gn_gt0 (hexec : p.tables.exec = Jvm.exec) (hb : c.code = cc) (a : Nat) {off : Int} {tgt : Nat} (ha : a < 2 ^ 31) (hdg : decode cc pc = .ok (.ifCond .gt off, 3)) (ht : (pc : Int) + off = (tgt : Int))
    (kt : 0 < a → W p l e R s m args below meth c H locs cells slots Q (F0 m tgt ls rest)) (kf : a = 0 → W p l e R s m args below meth c H locs cells slots Q (F0 m (pc + 3) ls rest)) : W p l e R s m args below meth c H locs cells slots Q (F0 m pc ls (.int (nI a) :: rest)) :=
  lv_if_gt hexec hb hdg ht (fun h => kt ((nI_ltI (by decide) ha).mp (show nI 0 < nI a from h))) (fun h => kf (Nat.le_zero.mp (Nat.not_lt.mp fun q => h ((nI_ltI (by decide) ha).mpr q))))
end GR
