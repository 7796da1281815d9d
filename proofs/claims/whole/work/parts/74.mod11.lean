/-! the class KeyHallModel, 11: printed by wip/specs/m11.py -/
/-- the arrays so far, all of them empty -/
def dI (D : va_G) (q : Nat → ClassId) (H : Heap) (d k : Nat) : Prop := ∀ j, 1 ≤ j ∧ j ≤ k → va_at D CL (d + j, .inl (q (dt j), dn j, .inl (fun _ => 0))) H
theorem dI.kept {D : va_G} {q : Nat → ClassId} {H H1 : Heap} {d k : Nat} (h : dI D q H d k) (fr : ∀ p : Nat, d < p → p ≤ d + k → H1[p]? = H[p]?) : dI D q H1 d k := fun j hj => va_at.kept (h j hj) (fr _ (by omega) (by omega))
theorem dI.add {D : va_G} {q : Nat → ClassId} {H1 : Heap} {d : Nat} (k : Nat) (h : dI D q H1 d k) (h1 : va_at D CL (d + (k + 1), .inl (q (dt (k + 1)), dn (k + 1), .inl (fun _ => 0))) H1) : dI D q H1 d (k + 1) := fun j hj => by
  by_cases e : j = k + 1
  · subst e
    exact h1
  · exact h j (by omega)
/-- the object being made: its fields as V says -/
def dM (D : va_G) (H : Heap) (d : Nat) (V : Nat → Value) : Prop := va_at D CL (d, .inr (10, (List.range 39).map V)) H
theorem dM_set {α : Type} (V : Nat → α) (N k : Nat) (v : α) : ((List.range N).map V).set k v = (List.range N).map (va_up V k v) := by
  apply List.ext_getElem?
  intro i
  rw [List.getElem?_set, List.getElem?_map, List.getElem?_map]
  by_cases h : k = i
  · subst h
    rw [if_pos rfl]
    by_cases hi : k < N
    · simp [hi, va_up_self]
    · simp [hi]
  · rw [if_neg h]
    by_cases hi : i < N
    · simp [hi, va_up_ne _ _ (Ne.symm h)]
    · simp [hi]
section GMK
variable {p : Program} {l : Launch} {e : Env} {R : Room} {s : State} {m : MethodId} {args : Array Value} {below : List Frame} {meth : Method} {c : Code} {H : Heap} {locs : List Loc} {cells slots : Nat} {Q : State → Prop}
variable {cc : ByteArray} {nL pc : Nat} {ls : Array Slot} {D : va_G} {q : Nat → ClassId} {d index : Nat}

theorem g_mkI (X : gX p m c cc nL s args R_Model gWS D CL (gY q)) (hname : meth.name = "<init>") {V : Nat → Value} (ho : dM D H d V) (k : Nat) (hdI : dI D q H d k) (hz : H.size = d + (k + 1)) (n : Nat) (hn : n < 65536) (hdt : dt (k + 1) = 0) (hdn : dn (k + 1) = n) (hcells : cells + 1 ≤ R.cells) (hslots : slots + n ≤ R.slots) (hdg : decode cc pc = .ok (.newarray .int, 2)) (j : Nat) (hj : j < 39) (hlink : Cond.fieldLink R_Model index (F_Model j).1 (F_Model j).2.1 (F_Model j).2.2.1 ∈ gWS) (hfin : (F_Model j).2.2.2 = true) (hdecl : (F_Model j).1 = R_Model) (hnr : ∀ x : Nat, narrow (t_Model j) (.ref x) = .ref x) (hft : ∀ x : Nat, fits (t_Model j) (.ref x) = true) (hdg2 : decode cc (pc + 2) = .ok (.putfield index, 3)) (hL : ∀ x ∈ locs, (fun p => d ≤ p) x.base)
    (kk : ∀ (H1 : Heap) (locs1 : List Loc), dM D H1 d (va_up V j (.ref (d + (k + 1)))) → dI D q H1 d (k + 1) → H1.size = d + (k + 2) → (∀ p : Nat, p < d → H1[p]? = H[p]?) → (∀ x ∈ locs1, (fun p => d ≤ p) x.base) → W p l e R s m args below meth c H1 locs1 (cells + 1) (slots + n) Q (F0 m (pc + 5) ls [])) : W p l e R s m args below meth c H locs cells slots Q (F0 m pc ls [.int (nI n), .ref d]) := by
  refine g_newi X 0 rfl ka_int n hn hcells hslots hdg (fun H1 h1 z1 o1 => ?_)
  rw [hz] at h1 z1 o1 ⊢
  have hI := (hdI.kept (fun p a b => o1 p (by omega))).add k (by rw [hdt, hdn]; exact h1)
  have ho1 : va_at D CL (d, .inr (10, (List.range 39).map V)) H1 := va_at.kept ho (o1 _ (by omega))
  refine g_putF (A := (fun p => d ≤ p)) X hname kc_Model ho1 j hj hlink hfin hdecl (hnr _) (hft _) (by rw [List.length_map, List.length_range]; exact hj) hdg2 (Nat.le_refl _) hL (fun H2 locs2 h2 z2 o2 hL2 => ?_)
  rw [dM_set] at h2
  exact kk H2 locs2 h2 (hI.kept (fun p a b => o2 p (by omega))) (by rw [z2, z1]; omega) (fun p hp => (o2 p (by omega)).trans (o1 p (by omega))) hL2
theorem g_mkZ (X : gX p m c cc nL s args R_Model gWS D CL (gY q)) (hname : meth.name = "<init>") {V : Nat → Value} (ho : dM D H d V) (k : Nat) (hdI : dI D q H d k) (hz : H.size = d + (k + 1)) (n : Nat) (hn : n < 65536) (hdt : dt (k + 1) = 1) (hdn : dn (k + 1) = n) (hcells : cells + 1 ≤ R.cells) (hslots : slots + n ≤ R.slots) (hdg : decode cc pc = .ok (.newarray .boolean, 2)) (j : Nat) (hj : j < 39) (hlink : Cond.fieldLink R_Model index (F_Model j).1 (F_Model j).2.1 (F_Model j).2.2.1 ∈ gWS) (hfin : (F_Model j).2.2.2 = true) (hdecl : (F_Model j).1 = R_Model) (hnr : ∀ x : Nat, narrow (t_Model j) (.ref x) = .ref x) (hft : ∀ x : Nat, fits (t_Model j) (.ref x) = true) (hdg2 : decode cc (pc + 2) = .ok (.putfield index, 3)) (hL : ∀ x ∈ locs, (fun p => d ≤ p) x.base)
    (kk : ∀ (H1 : Heap) (locs1 : List Loc), dM D H1 d (va_up V j (.ref (d + (k + 1)))) → dI D q H1 d (k + 1) → H1.size = d + (k + 2) → (∀ p : Nat, p < d → H1[p]? = H[p]?) → (∀ x ∈ locs1, (fun p => d ≤ p) x.base) → W p l e R s m args below meth c H1 locs1 (cells + 1) (slots + n) Q (F0 m (pc + 5) ls [])) : W p l e R s m args below meth c H locs cells slots Q (F0 m pc ls [.int (nI n), .ref d]) := by
  refine g_newz X 1 rfl ka_boolean n hn hcells hslots hdg (fun H1 h1 z1 o1 => ?_)
  rw [hz] at h1 z1 o1 ⊢
  have hI := (hdI.kept (fun p a b => o1 p (by omega))).add k (by rw [hdt, hdn]; exact h1)
  have ho1 : va_at D CL (d, .inr (10, (List.range 39).map V)) H1 := va_at.kept ho (o1 _ (by omega))
  refine g_putF (A := (fun p => d ≤ p)) X hname kc_Model ho1 j hj hlink hfin hdecl (hnr _) (hft _) (by rw [List.length_map, List.length_range]; exact hj) hdg2 (Nat.le_refl _) hL (fun H2 locs2 h2 z2 o2 hL2 => ?_)
  rw [dM_set] at h2
  exact kk H2 locs2 h2 (hI.kept (fun p a b => o2 p (by omega))) (by rw [z2, z1]; omega) (fun p hp => (o2 p (by omega)).trans (o1 p (by omega))) hL2
end GMK
def V0 : Nat → Value := fun k => match k with
  | 0 => .int 0
  | 1 => .null
  | 2 => .int 0
  | 3 => .null
  | 4 => .null
  | 5 => .null
  | 6 => .null
  | 7 => .null
  | 8 => .int 0
  | 9 => .null
  | 10 => .null
  | 11 => .null
  | 12 => .null
  | 13 => .null
  | 14 => .null
  | 15 => .null
  | 16 => .null
  | 17 => .null
  | 18 => .null
  | 19 => .null
  | 20 => .int 0
  | 21 => .null
  | 22 => .int 0
  | 23 => .null
  | 24 => .null
  | 25 => .null
  | 26 => .int 0
  | 27 => .int 0
  | 28 => .int 0
  | 29 => .null
  | 30 => .null
  | 31 => .null
  | 32 => .null
  | 33 => .null
  | 34 => .int 0
  | 35 => .null
  | 36 => .null
  | 37 => .int 0
  | _ => .int 0
set_option maxHeartbeats 4000000 in
set_option maxRecDepth 100000 in
/-- KeyHallModel() -/
theorem c_Model_init (l : Launch) (D : va_G) (q : Nat → ClassId) (H : Heap) (d : Nat) (hz : H.size = d + 1) (ho : va_at D CL (d, .inr (10, [.int 0, .null, .int 0, .null, .null, .null, .null, .null, .int 0, .null, .null, .null, .null, .null, .null, .null, .null, .null, .null, .null, .int 0, .null, .int 0, .null, .null, .null, .int 0, .int 0, .int 0, .null, .null, .null, .null, .null, .int 0, .null, .null, .int 0, .int 0])) H) : gC l y_Model_init (Cond.code y_Model_init b_Model_init 2 none :: gWS) (gR 1 12 28 9091) D CL (gY q) (fun _ => True) [.ref d] H (fun v1 H1 => v1 = none ∧ dR D q H1 d (fun k => if k = 8 then nI 3 else 0) (fun k j => if k = 7 ∧ j < 3 then -1 else 0) ∧ H1.size = d + 29 ∧ ∀ p : Nat, p < d → H1[p]? = H[p]?) 28 9091 (fun p => d ≤ p) := by
  refine gC.ofW R_Model "<init>" (by decide) rfl rfl ?_
  intro p e s m below meth c hadm X hE hH B hne
  refine g_entry [some (.ref d), none] rfl rfl (Nat.le_of_ble_eq_true rfl) (fun ls hl => ?_)
  have hdI : dI D q H d 0 := fun j hj => by omega
  have frd : ∀ p : Nat, p < d → H[p]? = H[p]? := fun _ _ => rfl
  have hdM : dM D H d V0 := ho
  refine lv_aload_n X.1.1 X.1.2.1 d_Model_init_0 rfl (gl_at hl rfl) ?_
  refine W.objInit X.1.1 X.1.2.1 X.1.2.2.2.1 (X.1.2.2.2.2 _ mo_Model_1.1) (X.1.2.2.2.2 _ mo_Model_1.2.1) (X.1.2.2.2.2 _ mo_Model_1.2.2) rfl (by rw [X.1.2.2.1]; exact hl.1) rfl d_Model_init_1 (Nat.le_of_ble_eq_true rfl) (Nat.le_of_ble_eq_true rfl) ?_
  refine W.eq (g2 := F0 m 4 ls []) rfl ?_
  refine lv_aload_n X.1.1 X.1.2.1 d_Model_init_4 rfl (gl_at hl rfl) ?_
  refine lv_bipush (v := nI 8) X.1.1 X.1.2.1 d_Model_init_5 (by decide) ?_
  refine g_mkI X B.2.2 hdM 0 hdI hz 8 (by decide) rfl rfl (Nat.le_of_ble_eq_true rfl) (Nat.le_of_ble_eq_true rfl) d_Model_init_7 1 (by decide) lk_Model_7 rfl rfl (fun _ => rfl) (fun _ => rfl) d_Model_init_9 (fun _ h => by cases h) (fun K1 locs hM1 hI1 hz1 fr1 hL => ?_)
  replace fr1 := fun p hp => (fr1 p hp).trans (frd p hp)
  clear hdM hdI frd 
  refine lv_aload_n X.1.1 X.1.2.1 d_Model_init_12 rfl (gl_at hl rfl) ?_
  refine lv_iconst (v := nI 3) X.1.1 X.1.2.1 d_Model_init_13 (by decide) ?_
  refine g_mkI X B.2.2 hM1 1 hI1 hz1 3 (by decide) rfl rfl (Nat.le_of_ble_eq_true rfl) (Nat.le_of_ble_eq_true rfl) d_Model_init_14 3 (by decide) lk_Model_13 rfl rfl (fun _ => rfl) (fun _ => rfl) d_Model_init_16 hL (fun K2 locs hM2 hI2 hz2 fr2 hL => ?_)
  replace fr2 := fun p hp => (fr2 p hp).trans (fr1 p hp)
  clear hM1 hI1 fr1 hz1
  refine lv_aload_n X.1.1 X.1.2.1 d_Model_init_19 rfl (gl_at hl rfl) ?_
  refine lv_iconst (v := nI 3) X.1.1 X.1.2.1 d_Model_init_20 (by decide) ?_
  refine g_mkI X B.2.2 hM2 2 hI2 hz2 3 (by decide) rfl rfl (Nat.le_of_ble_eq_true rfl) (Nat.le_of_ble_eq_true rfl) d_Model_init_21 4 (by decide) lk_Model_16 rfl rfl (fun _ => rfl) (fun _ => rfl) d_Model_init_23 hL (fun K3 locs hM3 hI3 hz3 fr3 hL => ?_)
  replace fr3 := fun p hp => (fr3 p hp).trans (fr2 p hp)
  clear hM2 hI2 fr2 hz2
  refine lv_aload_n X.1.1 X.1.2.1 d_Model_init_26 rfl (gl_at hl rfl) ?_
  refine lv_sipush (v := nI 1536) X.1.1 X.1.2.1 d_Model_init_27 (by decide) ?_
  refine g_mkI X B.2.2 hM3 3 hI3 hz3 1536 (by decide) rfl rfl (Nat.le_of_ble_eq_true rfl) (Nat.le_of_ble_eq_true rfl) d_Model_init_30 5 (by decide) lk_Model_19 rfl rfl (fun _ => rfl) (fun _ => rfl) d_Model_init_32 hL (fun K4 locs hM4 hI4 hz4 fr4 hL => ?_)
  replace fr4 := fun p hp => (fr4 p hp).trans (fr3 p hp)
  clear hM3 hI3 fr3 hz3
  refine lv_aload_n X.1.1 X.1.2.1 d_Model_init_35 rfl (gl_at hl rfl) ?_
  refine lv_sipush (v := nI 192) X.1.1 X.1.2.1 d_Model_init_36 (by decide) ?_
  refine g_mkI X B.2.2 hM4 4 hI4 hz4 192 (by decide) rfl rfl (Nat.le_of_ble_eq_true rfl) (Nat.le_of_ble_eq_true rfl) d_Model_init_39 6 (by decide) lk_Model_22 rfl rfl (fun _ => rfl) (fun _ => rfl) d_Model_init_41 hL (fun K5 locs hM5 hI5 hz5 fr5 hL => ?_)
  replace fr5 := fun p hp => (fr5 p hp).trans (fr4 p hp)
  clear hM4 hI4 fr4 hz4
  refine lv_aload_n X.1.1 X.1.2.1 d_Model_init_44 rfl (gl_at hl rfl) ?_
  refine lv_sipush (v := nI 192) X.1.1 X.1.2.1 d_Model_init_45 (by decide) ?_
  refine g_mkI X B.2.2 hM5 5 hI5 hz5 192 (by decide) rfl rfl (Nat.le_of_ble_eq_true rfl) (Nat.le_of_ble_eq_true rfl) d_Model_init_48 7 (by decide) lk_Model_25 rfl rfl (fun _ => rfl) (fun _ => rfl) d_Model_init_50 hL (fun K6 locs hM6 hI6 hz6 fr6 hL => ?_)
  replace fr6 := fun p hp => (fr6 p hp).trans (fr5 p hp)
  clear hM5 hI5 fr5 hz5
  refine lv_aload_n X.1.1 X.1.2.1 d_Model_init_53 rfl (gl_at hl rfl) ?_
  refine lv_iconst (v := nI 3) X.1.1 X.1.2.1 d_Model_init_54 (by decide) ?_
  refine g_put (A := (fun p => d ≤ p)) X kc_Model (show va_at D CL (d, .inr (10, (List.range 39).map _)) _ from hM6) 8 (by decide) lk_Model_28 rfl rfl rfl (by rw [List.length_map, List.length_range]; decide) d_Model_init_55 (Nat.le_refl _) hL (fun KV locs hMV zV oV hL => ?_)
  rw [dM_set] at hMV
  replace hMV : dM D KV d _ := hMV
  have hIV := hI6.kept (fun p a b => oV p (by omega))
  have hzV := zV.trans hz6
  have frV := fun p (hp : p < d) => (oV p (by omega)).trans (fr6 p hp)
  refine lv_aload_n X.1.1 X.1.2.1 d_Model_init_58 rfl (gl_at hl rfl) ?_
  refine lv_bipush (v := nI 12) X.1.1 X.1.2.1 d_Model_init_59 (by decide) ?_
  refine g_mkI X B.2.2 hMV 6 hIV hzV 12 (by decide) rfl rfl (Nat.le_of_ble_eq_true rfl) (Nat.le_of_ble_eq_true rfl) d_Model_init_61 9 (by decide) lk_Model_32 rfl rfl (fun _ => rfl) (fun _ => rfl) d_Model_init_63 hL (fun K7 locs hM7 hI7 hz7 fr7 hL => ?_)
  replace fr7 := fun p hp => (fr7 p hp).trans (frV p hp)
  clear hMV hIV frV hzV
  refine lv_aload_n X.1.1 X.1.2.1 d_Model_init_66 rfl (gl_at hl rfl) ?_
  refine lv_bipush (v := nI 12) X.1.1 X.1.2.1 d_Model_init_67 (by decide) ?_
  refine g_mkI X B.2.2 hM7 7 hI7 hz7 12 (by decide) rfl rfl (Nat.le_of_ble_eq_true rfl) (Nat.le_of_ble_eq_true rfl) d_Model_init_69 10 (by decide) lk_Model_35 rfl rfl (fun _ => rfl) (fun _ => rfl) d_Model_init_71 hL (fun K8 locs hM8 hI8 hz8 fr8 hL => ?_)
  replace fr8 := fun p hp => (fr8 p hp).trans (fr7 p hp)
  clear hM7 hI7 fr7 hz7
  refine lv_aload_n X.1.1 X.1.2.1 d_Model_init_74 rfl (gl_at hl rfl) ?_
  refine lv_bipush (v := nI 12) X.1.1 X.1.2.1 d_Model_init_75 (by decide) ?_
  refine g_mkI X B.2.2 hM8 8 hI8 hz8 12 (by decide) rfl rfl (Nat.le_of_ble_eq_true rfl) (Nat.le_of_ble_eq_true rfl) d_Model_init_77 11 (by decide) lk_Model_38 rfl rfl (fun _ => rfl) (fun _ => rfl) d_Model_init_79 hL (fun K9 locs hM9 hI9 hz9 fr9 hL => ?_)
  replace fr9 := fun p hp => (fr9 p hp).trans (fr8 p hp)
  clear hM8 hI8 fr8 hz8
  refine lv_aload_n X.1.1 X.1.2.1 d_Model_init_82 rfl (gl_at hl rfl) ?_
  refine lv_bipush (v := nI 96) X.1.1 X.1.2.1 d_Model_init_83 (by decide) ?_
  refine g_mkI X B.2.2 hM9 9 hI9 hz9 96 (by decide) rfl rfl (Nat.le_of_ble_eq_true rfl) (Nat.le_of_ble_eq_true rfl) d_Model_init_85 12 (by decide) lk_Model_41 rfl rfl (fun _ => rfl) (fun _ => rfl) d_Model_init_87 hL (fun K10 locs hM10 hI10 hz10 fr10 hL => ?_)
  replace fr10 := fun p hp => (fr10 p hp).trans (fr9 p hp)
  clear hM9 hI9 fr9 hz9
  refine lv_aload_n X.1.1 X.1.2.1 d_Model_init_90 rfl (gl_at hl rfl) ?_
  refine lv_bipush (v := nI 12) X.1.1 X.1.2.1 d_Model_init_91 (by decide) ?_
  refine g_mkZ X B.2.2 hM10 10 hI10 hz10 12 (by decide) rfl rfl (Nat.le_of_ble_eq_true rfl) (Nat.le_of_ble_eq_true rfl) d_Model_init_93 13 (by decide) lk_Model_44 rfl rfl (fun _ => rfl) (fun _ => rfl) d_Model_init_95 hL (fun K11 locs hM11 hI11 hz11 fr11 hL => ?_)
  replace fr11 := fun p hp => (fr11 p hp).trans (fr10 p hp)
  clear hM10 hI10 fr10 hz10
  refine lv_aload_n X.1.1 X.1.2.1 d_Model_init_98 rfl (gl_at hl rfl) ?_
  refine lv_bipush (v := nI 12) X.1.1 X.1.2.1 d_Model_init_99 (by decide) ?_
  refine g_mkZ X B.2.2 hM11 11 hI11 hz11 12 (by decide) rfl rfl (Nat.le_of_ble_eq_true rfl) (Nat.le_of_ble_eq_true rfl) d_Model_init_101 14 (by decide) lk_Model_48 rfl rfl (fun _ => rfl) (fun _ => rfl) d_Model_init_103 hL (fun K12 locs hM12 hI12 hz12 fr12 hL => ?_)
  replace fr12 := fun p hp => (fr12 p hp).trans (fr11 p hp)
  clear hM11 hI11 fr11 hz11
  refine lv_aload_n X.1.1 X.1.2.1 d_Model_init_106 rfl (gl_at hl rfl) ?_
  refine lv_bipush (v := nI 12) X.1.1 X.1.2.1 d_Model_init_107 (by decide) ?_
  refine g_mkZ X B.2.2 hM12 12 hI12 hz12 12 (by decide) rfl rfl (Nat.le_of_ble_eq_true rfl) (Nat.le_of_ble_eq_true rfl) d_Model_init_109 15 (by decide) lk_Model_51 rfl rfl (fun _ => rfl) (fun _ => rfl) d_Model_init_111 hL (fun K13 locs hM13 hI13 hz13 fr13 hL => ?_)
  replace fr13 := fun p hp => (fr13 p hp).trans (fr12 p hp)
  clear hM12 hI12 fr12 hz12
  refine lv_aload_n X.1.1 X.1.2.1 d_Model_init_114 rfl (gl_at hl rfl) ?_
  refine lv_bipush (v := nI 12) X.1.1 X.1.2.1 d_Model_init_115 (by decide) ?_
  refine g_mkI X B.2.2 hM13 13 hI13 hz13 12 (by decide) rfl rfl (Nat.le_of_ble_eq_true rfl) (Nat.le_of_ble_eq_true rfl) d_Model_init_117 16 (by decide) lk_Model_54 rfl rfl (fun _ => rfl) (fun _ => rfl) d_Model_init_119 hL (fun K14 locs hM14 hI14 hz14 fr14 hL => ?_)
  replace fr14 := fun p hp => (fr14 p hp).trans (fr13 p hp)
  clear hM13 hI13 fr13 hz13
  refine lv_aload_n X.1.1 X.1.2.1 d_Model_init_122 rfl (gl_at hl rfl) ?_
  refine lv_bipush (v := nI 12) X.1.1 X.1.2.1 d_Model_init_123 (by decide) ?_
  refine g_mkI X B.2.2 hM14 14 hI14 hz14 12 (by decide) rfl rfl (Nat.le_of_ble_eq_true rfl) (Nat.le_of_ble_eq_true rfl) d_Model_init_125 17 (by decide) lk_Model_57 rfl rfl (fun _ => rfl) (fun _ => rfl) d_Model_init_127 hL (fun K15 locs hM15 hI15 hz15 fr15 hL => ?_)
  replace fr15 := fun p hp => (fr15 p hp).trans (fr14 p hp)
  clear hM14 hI14 fr14 hz14
  refine lv_aload_n X.1.1 X.1.2.1 d_Model_init_130 rfl (gl_at hl rfl) ?_
  refine lv_bipush (v := nI 96) X.1.1 X.1.2.1 d_Model_init_131 (by decide) ?_
  refine g_mkI X B.2.2 hM15 15 hI15 hz15 96 (by decide) rfl rfl (Nat.le_of_ble_eq_true rfl) (Nat.le_of_ble_eq_true rfl) d_Model_init_133 18 (by decide) lk_Model_60 rfl rfl (fun _ => rfl) (fun _ => rfl) d_Model_init_135 hL (fun K16 locs hM16 hI16 hz16 fr16 hL => ?_)
  replace fr16 := fun p hp => (fr16 p hp).trans (fr15 p hp)
  clear hM15 hI15 fr15 hz15
  refine lv_aload_n X.1.1 X.1.2.1 d_Model_init_138 rfl (gl_at hl rfl) ?_
  refine lv_bipush (v := nI 8) X.1.1 X.1.2.1 d_Model_init_139 (by decide) ?_
  refine g_mkI X B.2.2 hM16 16 hI16 hz16 8 (by decide) rfl rfl (Nat.le_of_ble_eq_true rfl) (Nat.le_of_ble_eq_true rfl) d_Model_init_141 19 (by decide) lk_Model_63 rfl rfl (fun _ => rfl) (fun _ => rfl) d_Model_init_143 hL (fun K17 locs hM17 hI17 hz17 fr17 hL => ?_)
  replace fr17 := fun p hp => (fr17 p hp).trans (fr16 p hp)
  clear hM16 hI16 fr16 hz16
  refine lv_aload_n X.1.1 X.1.2.1 d_Model_init_146 rfl (gl_at hl rfl) ?_
  refine lv_sipush (v := nI 140) X.1.1 X.1.2.1 d_Model_init_147 (by decide) ?_
  refine g_mkZ X B.2.2 hM17 17 hI17 hz17 140 (by decide) rfl rfl (Nat.le_of_ble_eq_true rfl) (Nat.le_of_ble_eq_true rfl) d_Model_init_150 21 (by decide) lk_Model_66 rfl rfl (fun _ => rfl) (fun _ => rfl) d_Model_init_152 hL (fun K18 locs hM18 hI18 hz18 fr18 hL => ?_)
  replace fr18 := fun p hp => (fr18 p hp).trans (fr17 p hp)
  clear hM17 hI17 fr17 hz17
  refine lv_aload_n X.1.1 X.1.2.1 d_Model_init_155 rfl (gl_at hl rfl) ?_
  refine lv_sipush (v := nI 580) X.1.1 X.1.2.1 d_Model_init_156 (by decide) ?_
  refine g_mkI X B.2.2 hM18 18 hI18 hz18 580 (by decide) rfl rfl (Nat.le_of_ble_eq_true rfl) (Nat.le_of_ble_eq_true rfl) d_Model_init_159 23 (by decide) lk_Model_69 rfl rfl (fun _ => rfl) (fun _ => rfl) d_Model_init_161 hL (fun K19 locs hM19 hI19 hz19 fr19 hL => ?_)
  replace fr19 := fun p hp => (fr19 p hp).trans (fr18 p hp)
  clear hM18 hI18 fr18 hz18
  refine lv_aload_n X.1.1 X.1.2.1 d_Model_init_164 rfl (gl_at hl rfl) ?_
  refine lv_sipush (v := nI 580) X.1.1 X.1.2.1 d_Model_init_165 (by decide) ?_
  refine g_mkI X B.2.2 hM19 19 hI19 hz19 580 (by decide) rfl rfl (Nat.le_of_ble_eq_true rfl) (Nat.le_of_ble_eq_true rfl) d_Model_init_168 24 (by decide) lk_Model_72 rfl rfl (fun _ => rfl) (fun _ => rfl) d_Model_init_170 hL (fun K20 locs hM20 hI20 hz20 fr20 hL => ?_)
  replace fr20 := fun p hp => (fr20 p hp).trans (fr19 p hp)
  clear hM19 hI19 fr19 hz19
  refine lv_aload_n X.1.1 X.1.2.1 d_Model_init_173 rfl (gl_at hl rfl) ?_
  refine lv_sipush (v := nI 580) X.1.1 X.1.2.1 d_Model_init_174 (by decide) ?_
  refine g_mkI X B.2.2 hM20 20 hI20 hz20 580 (by decide) rfl rfl (Nat.le_of_ble_eq_true rfl) (Nat.le_of_ble_eq_true rfl) d_Model_init_177 25 (by decide) lk_Model_75 rfl rfl (fun _ => rfl) (fun _ => rfl) d_Model_init_179 hL (fun K21 locs hM21 hI21 hz21 fr21 hL => ?_)
  replace fr21 := fun p hp => (fr21 p hp).trans (fr20 p hp)
  clear hM20 hI20 fr20 hz20
  refine lv_aload_n X.1.1 X.1.2.1 d_Model_init_182 rfl (gl_at hl rfl) ?_
  refine lv_sipush (v := nI 580) X.1.1 X.1.2.1 d_Model_init_183 (by decide) ?_
  refine g_mkZ X B.2.2 hM21 21 hI21 hz21 580 (by decide) rfl rfl (Nat.le_of_ble_eq_true rfl) (Nat.le_of_ble_eq_true rfl) d_Model_init_186 29 (by decide) lk_Model_78 rfl rfl (fun _ => rfl) (fun _ => rfl) d_Model_init_188 hL (fun K22 locs hM22 hI22 hz22 fr22 hL => ?_)
  replace fr22 := fun p hp => (fr22 p hp).trans (fr21 p hp)
  clear hM21 hI21 fr21 hz21
  refine lv_aload_n X.1.1 X.1.2.1 d_Model_init_191 rfl (gl_at hl rfl) ?_
  refine lv_sipush (v := nI 580) X.1.1 X.1.2.1 d_Model_init_192 (by decide) ?_
  refine g_mkI X B.2.2 hM22 22 hI22 hz22 580 (by decide) rfl rfl (Nat.le_of_ble_eq_true rfl) (Nat.le_of_ble_eq_true rfl) d_Model_init_195 30 (by decide) lk_Model_81 rfl rfl (fun _ => rfl) (fun _ => rfl) d_Model_init_197 hL (fun K23 locs hM23 hI23 hz23 fr23 hL => ?_)
  replace fr23 := fun p hp => (fr23 p hp).trans (fr22 p hp)
  clear hM22 hI22 fr22 hz22
  refine lv_aload_n X.1.1 X.1.2.1 d_Model_init_200 rfl (gl_at hl rfl) ?_
  refine lv_sipush (v := nI 580) X.1.1 X.1.2.1 d_Model_init_201 (by decide) ?_
  refine g_mkI X B.2.2 hM23 23 hI23 hz23 580 (by decide) rfl rfl (Nat.le_of_ble_eq_true rfl) (Nat.le_of_ble_eq_true rfl) d_Model_init_204 31 (by decide) lk_Model_84 rfl rfl (fun _ => rfl) (fun _ => rfl) d_Model_init_206 hL (fun K24 locs hM24 hI24 hz24 fr24 hL => ?_)
  replace fr24 := fun p hp => (fr24 p hp).trans (fr23 p hp)
  clear hM23 hI23 fr23 hz23
  refine lv_aload_n X.1.1 X.1.2.1 d_Model_init_209 rfl (gl_at hl rfl) ?_
  refine lv_sipush (v := nI 580) X.1.1 X.1.2.1 d_Model_init_210 (by decide) ?_
  refine g_mkI X B.2.2 hM24 24 hI24 hz24 580 (by decide) rfl rfl (Nat.le_of_ble_eq_true rfl) (Nat.le_of_ble_eq_true rfl) d_Model_init_213 32 (by decide) lk_Model_87 rfl rfl (fun _ => rfl) (fun _ => rfl) d_Model_init_215 hL (fun K25 locs hM25 hI25 hz25 fr25 hL => ?_)
  replace fr25 := fun p hp => (fr25 p hp).trans (fr24 p hp)
  clear hM24 hI24 fr24 hz24
  refine lv_aload_n X.1.1 X.1.2.1 d_Model_init_218 rfl (gl_at hl rfl) ?_
  refine lv_bipush (v := nI 120) X.1.1 X.1.2.1 d_Model_init_219 (by decide) ?_
  refine g_mkI X B.2.2 hM25 25 hI25 hz25 120 (by decide) rfl rfl (Nat.le_of_ble_eq_true rfl) (Nat.le_of_ble_eq_true rfl) d_Model_init_221 33 (by decide) lk_Model_90 rfl rfl (fun _ => rfl) (fun _ => rfl) d_Model_init_223 hL (fun K26 locs hM26 hI26 hz26 fr26 hL => ?_)
  replace fr26 := fun p hp => (fr26 p hp).trans (fr25 p hp)
  clear hM25 hI25 fr25 hz25
  refine lv_aload_n X.1.1 X.1.2.1 d_Model_init_226 rfl (gl_at hl rfl) ?_
  refine lv_sipush (v := nI 2520) X.1.1 X.1.2.1 d_Model_init_227 (by decide) ?_
  refine g_mkI X B.2.2 hM26 26 hI26 hz26 2520 (by decide) rfl rfl (Nat.le_of_ble_eq_true rfl) (Nat.le_of_ble_eq_true rfl) d_Model_init_230 35 (by decide) lk_Model_93 rfl rfl (fun _ => rfl) (fun _ => rfl) d_Model_init_232 hL (fun K27 locs hM27 hI27 hz27 fr27 hL => ?_)
  replace fr27 := fun p hp => (fr27 p hp).trans (fr26 p hp)
  clear hM26 hI26 fr26 hz26
  refine lv_aload_n X.1.1 X.1.2.1 d_Model_init_235 rfl (gl_at hl rfl) ?_
  refine lv_bipush (v := nI 21) X.1.1 X.1.2.1 d_Model_init_236 (by decide) ?_
  refine g_mkI X B.2.2 hM27 27 hI27 hz27 21 (by decide) rfl rfl (Nat.le_of_ble_eq_true rfl) (Nat.le_of_ble_eq_true rfl) d_Model_init_238 36 (by decide) lk_Model_96 rfl rfl (fun _ => rfl) (fun _ => rfl) d_Model_init_240 hL (fun K28 locs hM28 hI28 hz28 fr28 hL => ?_)
  replace fr28 := fun p hp => (fr28 p hp).trans (fr27 p hp)
  clear hM27 hI27 fr27 hz27
  obtain ⟨w, hw⟩ : ∃ w : Nat → Int32, w = (fun k => if k = 8 then nI 3 else 0) := ⟨_, rfl⟩
  obtain ⟨ar, har⟩ : ∃ ar : Nat → Nat → Int32, ar = (fun _ _ => 0) := ⟨_, rfl⟩
  have hR : dR D q K28 d w ar := by
    rw [hw, har]
    exact ⟨hM28, hI28⟩
  clear hM28 hI28
  refine lv_iconst (v := nI 0) X.1.1 X.1.2.1 d_Model_init_243 (by decide) ?_
  refine g_istn X.1.1 X.1.2.1 hl 1 d_Model_init_244 rfl (Nat.le_of_ble_eq_true rfl) rfl (fun ls hl => ?_)
  have loop245 : ∀ (fu : Nat) (i : Nat) (F : Nat → Int32) (Hn : Heap) (locs : List Loc) (ls : Array Slot), 3 - i < fu → (i ≤ 3) → (∀ x, F x = if x < i then -1 else 0) → (dR D q Hn d w (va_up ar 7 F)) → (Hn.size = d + 29) → (∀ p : Nat, p < d → Hn[p]? = H[p]?) → (∀ x ∈ locs, (fun p => d ≤ p) x.base) → gl ls [some (.ref d), some (.int (nI i))] → W p l e (gR 1 12 28 9091) s m ([.ref d] : List Value).toArray below meth c Hn locs ((((((((((((((((((((((((((((0 + 1) + 1) + 1) + 1) + 1) + 1) + 1) + 1) + 1) + 1) + 1) + 1) + 1) + 1) + 1) + 1) + 1) + 1) + 1) + 1) + 1) + 1) + 1) + 1) + 1) + 1) + 1) + 1) ((((((((((((((((((((((((((((0 + 8) + 3) + 3) + 1536) + 192) + 192) + 12) + 12) + 12) + 96) + 12) + 12) + 12) + 12) + 12) + 96) + 8) + 140) + 580) + 580) + 580) + 580) + 580) + 580) + 580) + 120) + 2520) + 21) (gQ below ([.ref d] : List Value).toArray s (fun v1 H1 => v1 = none ∧ dR D q H1 d (fun k => if k = 8 then nI 3 else 0) (fun k j => if k = 7 ∧ j < 3 then -1 else 0) ∧ H1.size = d + 29 ∧ ∀ p : Nat, p < d → H1[p]? = H[p]?) 28 9091 (fun p => d ≤ p)) (F0 m 245 ls []) := by
    intro fu
    induction fu with
    | zero => intro i F Hn locs ls hmu; omega
    | succ fu ih245 =>
      intro i F Hn locs ls hmu245 hi245_0 hi245_1 hRl hzl frl hL hl
      refine lv_iload_n X.1.1 X.1.2.1 d_Model_init_245 rfl (gl_at hl rfl) ?_
      refine lv_iconst (v := nI 3) X.1.1 X.1.2.1 d_Model_init_246 (by decide) ?_
      refine gn_ge X.1.1 X.1.2.1 i 3 (by omega) (by omega) d_Model_init_247 rfl (fun hc247 => ?_) (fun hc247 => ?_)
      · exact g_vret X B ⟨rfl, hRl.as (fun j => by rw [hw]) (fun j => by
          simp only [va_up, har]
          by_cases e : j = 7
          · rw [if_pos e]
            funext x
            rw [hi245_1 x, show i = 3 by omega]
            by_cases e1 : x < 3
            · rw [if_pos ⟨e, e1⟩, if_pos e1]
            · rw [if_neg (fun h => e1 h.2), if_neg e1]
          · rw [if_neg e]
            funext x
            rw [if_neg (fun h => e h.1)]), hzl, frl⟩ hL d_Model_init_263 (by omega) (by omega)
      · refine lv_aload_n X.1.1 X.1.2.1 d_Model_init_250 rfl (gl_at hl rfl) ?_
        have mo1 : va_at D CL (d, .inr (10, [.int (w 0), .ref (d + 1), .int (w 2), .ref (d + 2), .ref (d + 3), .ref (d + 4), .ref (d + 5), .ref (d + 6), .int (w 8), .ref (d + 7), .ref (d + 8), .ref (d + 9), .ref (d + 10), .ref (d + 11), .ref (d + 12), .ref (d + 13), .ref (d + 14), .ref (d + 15), .ref (d + 16), .ref (d + 17), .int (w 20), .ref (d + 18), .int (w 22), .ref (d + 19), .ref (d + 20), .ref (d + 21), .int (w 26), .int (w 27), .int (w 28), .ref (d + 22), .ref (d + 23), .ref (d + 24), .ref (d + 25), .ref (d + 26), .int (w 34), .ref (d + 27), .ref (d + 28), .int (w 37), .int (w 38)])) Hn := hRl.1
        refine g_get X kc_Model mo1 9 (by decide) lk_Model_32 rfl d_Model_init_251 ?_
        refine lv_iload_n X.1.1 X.1.2.1 d_Model_init_254 rfl (gl_at hl rfl) ?_
        refine lv_iconst (v := (-1)) X.1.1 X.1.2.1 d_Model_init_255 (by decide) ?_
        have ma2 : va_at D CL (d + 7, .inl (q 0, 12, .inl F)) Hn := hRl.a7
        refine g_iast (A := (fun p => d ≤ p)) X 0 ma2 rfl i (by omega) (by decide) d_Model_init_256 (Nat.le_add_right _ _) hL (fun H3 locs h4 z5 oq6 hL => ?_)
        have hR7 : dR D q H3 d w (va_up ar 7 (upd F i (-1))) := hRl.putB 7 (by decide) h4 oq6 rfl (fun j hj => by simp only [va_up, if_neg hj])
        refine g_iinc X.1.1 X.1.2.1 (nI (i + 1)) hl 1 d_Model_init_257 rfl (nI_1 _) rfl (fun ls hl => ?_)
        refine lv_goto X.1.1 X.1.2.1 d_Model_init_260 rfl ?_
        exact ih245 (i + 1) (upd F i (-1)) H3 locs ls (by omega) (by omega) (fun x => by
          by_cases e : x = i
          · rw [e, pk_us, if_pos (by omega)]
          · rw [pk_un e, hi245_1 x]
            by_cases e1 : x < i
            · rw [if_pos e1, if_pos (by omega)]
            · rw [if_neg e1, if_neg (by omega)]) hR7 (z5.trans hzl) (fun p hp => ((oq6 p (by omega))).trans (frl p hp)) hL hl
  exact loop245 _ 0 (ar 7) K28 locs ls (Nat.lt_succ_self _) (by omega) (fun x => by rw [har, if_neg (Nat.not_lt_zero x)]) (hR.as (fun _ => rfl) (fun j => by simp only [va_up]; split <;> first | rfl | (subst_vars; rfl))) hz28 fr28 hL hl
