/-! the class KeyHallModel, 6: printed by wip/specs/m6.py -/
theorem v_cnt_s0 {p : Nat → Bool} {i : Nat} : v_cnt p 0 (i + 1) = v_cnt p 0 i + if p i = true then 1 else 0 := by
  show v_cnt p 0 i + (if p (0 + i) = true then 1 else 0) = _
  rw [Nat.zero_add]
/-- byte i of a text -/
def d_oc (xs : List Nat) (i : Nat) : Nat := if i % 2 = 0 then xs.getD (i / 2) 0 / 256 else xs.getD (i / 2) 0 % 256
/-- whether ys begins with the first n bytes of xs -/
def d_sb (xs ys : List Nat) (n : Nat) : Bool := decide (n ≤ 2 * ys.length) && (List.range n).all (fun i => decide (d_oc xs i = d_oc ys i))
theorem d_sb_t {xs ys : List Nat} {n : Nat} (h1 : n ≤ 2 * ys.length) (h2 : ∀ i, i < n → d_oc xs i = d_oc ys i) : d_sb xs ys n = true := by
  unfold d_sb
  rw [Bool.and_eq_true, decide_eq_true_iff, List.all_eq_true]
  exact ⟨h1, fun i hi => decide_eq_true (h2 i (List.mem_range.mp hi))⟩
theorem d_sb_m {xs ys : List Nat} {n : Nat} (h : d_sb xs ys n = true) : n ≤ 2 * ys.length ∧ ∀ i, i < n → d_oc xs i = d_oc ys i := by
  unfold d_sb at h
  rw [Bool.and_eq_true, decide_eq_true_iff, List.all_eq_true] at h
  exact ⟨h.1, fun i hi => of_decide_eq_true (h.2 i (List.mem_range.mpr hi))⟩
/-- whether key i goes on with the byte x behind the first n bytes of xs -/
def d_gb (xs : List Nat) (kk : Nat → List Nat) (n x i : Nat) : Bool := d_sb xs (kk i) n && (decide (n < 2 * (kk i).length) && decide (d_oc (kk i) n = x))
/-- whether none of the keys 64 .. 64 + m - 1 does so -/
def d_fz (xs : List Nat) (kk : Nat → List Nat) (n x m : Nat) : Bool := !((List.range m).any (fun i => d_gb xs kk n x (64 + i)))
theorem d_fz_s {xs : List Nat} {kk : Nat → List Nat} {n x m : Nat} : d_fz xs kk n x (m + 1) = (d_fz xs kk n x m && !(d_gb xs kk n x (64 + m))) := by
  unfold d_fz
  rw [List.range_succ, List.any_append]
  simp
/-- whether key k shows a new byte -/
def d_fr (xs : List Nat) (kk : Nat → List Nat) (n k : Nat) : Bool := d_sb xs (kk k) n && (!decide (2 * (kk k).length = n) && d_fz xs kk n (d_oc (kk k) n) (k - 64))
/-- whether key k is the text itself -/
def d_en (xs : List Nat) (kk : Nat → List Nat) (n k : Nat) : Bool := d_sb xs (kk k) n && decide (2 * (kk k).length = n)
def d_ens (xs : List Nat) (kk : Nat → List Nat) (n m : Nat) : Bool := (List.range m).any (fun i => d_en xs kk n (64 + i))
theorem d_ens_s {xs : List Nat} {kk : Nat → List Nat} {n m : Nat} : d_ens xs kk n (m + 1) = (d_ens xs kk n m || d_en xs kk n (64 + m)) := by
  unfold d_ens
  rw [List.range_succ, List.any_append]
  simp
/-- whether a key before g has the same first n bytes -/
def d_old (kk : Nat → List Nat) (g n : Nat) : Bool := (List.range (g - 64)).any (fun i => d_sb (kk g) (kk (64 + i)) n)
theorem d_old_t {kk : Nat → List Nat} {g n k : Nat} (h : 64 ≤ k) (hk : k < g) (hs : d_sb (kk g) (kk k) n = true) : d_old kk g n = true := by
  unfold d_old
  rw [List.any_eq_true]
  exact ⟨k - 64, List.mem_range.mpr (by omega), by rw [show 64 + (k - 64) = k by omega]; exact hs⟩
theorem d_old_f {kk : Nat → List Nat} {g n : Nat} (h : ∀ k, 64 ≤ k → k < g → ¬ d_sb (kk g) (kk k) n = true) : ¬ d_old kk g n = true := by
  unfold d_old
  rw [List.any_eq_true]
  rintro ⟨i, hi, h1⟩
  have := List.mem_range.mp hi
  exact h (64 + i) (by omega) (by omega) h1
/-- the fan of the node at the first n bytes of key g, if g is the first key there -/
def d_fan (kk : Nat → List Nat) (m g n : Nat) : Nat := if d_old kk g n = true then 0 else if 1 < v_cnt (d_fr (kk g) kk n) 64 m ∨ d_ens (kk g) kk n m = true then v_cnt (d_fr (kk g) kk n) 64 m else 0
theorem d_fan_le {kk : Nat → List Nat} {m g n : Nat} : d_fan kk m g n ≤ m := by
  have := v_cnt_le (d_fr (kk g) kk n) 64 m
  unfold d_fan
  split
  · omega
  · split <;> omega
/-- whether a node of fan f is asked for -/
def d_cl (x f : Nat) : Bool := match x with
  | 0 => decide (0 < f)
  | 1 => decide (0 < f ∧ f ≤ 4)
  | 2 => decide (4 < f ∧ f ≤ 16)
  | 3 => decide (16 < f ∧ f ≤ 48)
  | _ => decide (48 < f)
/-- the nodes asked for on the way to the first m keys, each counted at its first key -/
def d_inn (kk : Nat → List Nat) (n x : Nat) : Nat → Nat
  | 0 => 0
  | m + 1 => d_inn kk n x m + v_cnt (fun t => d_cl x (d_fan kk n (64 + m) t)) 0 (2 * (kk (64 + m)).length + 1)
theorem d_inn_le {kk : Nat → List Nat} {n x : Nat} (h : ∀ g, g < 192 → (kk g).length ≤ 8) : ∀ m, m ≤ 64 → d_inn kk n x m ≤ 17 * m
  | 0, _ => Nat.le_refl 0
  | m + 1, hm => by
    have h1 := d_inn_le (n := n) (x := x) h m (by omega)
    have h2 := v_cnt_le (fun t => d_cl x (d_fan kk n (64 + m) t)) 0 (2 * (kk (64 + m)).length + 1)
    have h3 := h (64 + m) (by omega)
    show d_inn kk n x m + _ ≤ _
    omega

set_option maxHeartbeats 4000000 in
set_option maxRecDepth 100000 in
/-- octet -/
theorem c_Model_octet (l : Launch) (D : va_G) (q : Nat → ClassId) (H : Heap) (d : Nat) (w : Nat → Int32) (ar : Nat → Nat → Int32) (hR : dR D q H d w ar) (kk : Nat → List Nat) (hk : pK ar kk) (j : Nat) (hj : j < 192) (i : Nat) (hi : i < 2 * (kk j).length) : gC l y_Model_octet (Cond.code y_Model_octet b_Model_octet 3 (some .int) :: gWS) (gR 0 0 0 0) D CL (gY q) (fun _ => True) [.ref d, .int (nI j), .int (nI i)] H (fun v1 H1 => v1 = some (.int (nI (d_oc (kk j) i))) ∧ H1 = H) 0 0 (fun _ => False) := by
  refine gC.ofW R_Model "octet" (by decide) rfl rfl ?_
  intro p e s m below meth c hadm X hE hH B hne
  refine g_entry [some (.ref d), some (.int (nI j)), some (.int (nI i))] rfl rfl (Nat.le_of_ble_eq_true rfl) (fun ls hl => ?_)
  obtain ⟨hk1, hk2, hk3, hk4⟩ := hk j hj
  have e1 := t_lt hk4 (i / 2)
  refine lv_iload_n X.1.1 X.1.2.1 d_Model_octet_0 rfl (gl_at hl rfl) ?_
  refine lv_iconst (v := nI 2) X.1.1 X.1.2.1 d_Model_octet_1 (by decide) ?_
  refine lv_irem X.1.1 X.1.2.1 d_Model_octet_2 (by decide) ?_
  refine g_top (nI (i % 2)) (pk_rem (by omega) (by decide) (by decide)) ?_
  refine gn_ne0 X.1.1 X.1.2.1 (i % 2) (by omega) d_Model_octet_3 rfl (fun hc3 => ?_) (fun hc3 => ?_)
  · refine lv_aload_n X.1.1 X.1.2.1 d_Model_octet_25 rfl (gl_at hl rfl) ?_
    have mo1 : va_at D CL (d, .inr (10, [.int (w 0), .ref (d + 1), .int (w 2), .ref (d + 2), .ref (d + 3), .ref (d + 4), .ref (d + 5), .ref (d + 6), .int (w 8), .ref (d + 7), .ref (d + 8), .ref (d + 9), .ref (d + 10), .ref (d + 11), .ref (d + 12), .ref (d + 13), .ref (d + 14), .ref (d + 15), .ref (d + 16), .ref (d + 17), .int (w 20), .ref (d + 18), .int (w 22), .ref (d + 19), .ref (d + 20), .ref (d + 21), .int (w 26), .int (w 27), .int (w 28), .ref (d + 22), .ref (d + 23), .ref (d + 24), .ref (d + 25), .ref (d + 26), .int (w 34), .ref (d + 27), .ref (d + 28), .int (w 37), .int (w 38)])) H := hR.1
    refine g_get X kc_Model mo1 5 (by decide) lk_Model_19 rfl d_Model_octet_26 ?_
    refine lv_bipush (v := nI 8) X.1.1 X.1.2.1 d_Model_octet_29 (by decide) ?_
    refine lv_iload_n X.1.1 X.1.2.1 d_Model_octet_31 rfl (gl_at hl rfl) ?_
    refine lv_imul X.1.1 X.1.2.1 d_Model_octet_32 ?_
    refine g_top (nI (8 * j)) (pk_mul _ _) ?_
    refine lv_iload_n X.1.1 X.1.2.1 d_Model_octet_33 rfl (gl_at hl rfl) ?_
    refine lv_iconst (v := nI 2) X.1.1 X.1.2.1 d_Model_octet_34 (by decide) ?_
    refine lv_idiv X.1.1 X.1.2.1 d_Model_octet_35 (by decide) ?_
    refine g_top (nI (i / 2)) (pk_div (by omega) (by decide) (by decide)) ?_
    refine lv_iadd X.1.1 X.1.2.1 d_Model_octet_36 ?_
    refine g_top (nI ((8 * j) + (i / 2))) (nI_add _ _) ?_
    have ma2 : va_at D CL (d + 4, .inl (q 0, 1536, .inl (ar 4))) H := hR.a4
    refine g_iald X 0 ma2 rfl ((8 * j) + (i / 2)) (by omega) (by omega) d_Model_octet_37 ?_
    refine g_top (nI ((kk j).getD (i / 2) 0)) (hk1 (i / 2) (by omega)) ?_
    refine lv_sipush (v := nI 255) X.1.1 X.1.2.1 d_Model_octet_38 (by decide) ?_
    refine lv_iand X.1.1 X.1.2.1 d_Model_octet_41 ?_
    refine g_top (nI ((kk j).getD (i / 2) 0 % 256)) (pk_andN (by omega) 8 (by decide)) ?_
    exact g_iret X B ⟨by
      unfold d_oc
      rw [if_neg hc3], rfl⟩ (fun _ h => by cases h) d_Model_octet_42 (by omega) (by omega)
  · refine lv_aload_n X.1.1 X.1.2.1 d_Model_octet_6 rfl (gl_at hl rfl) ?_
    have mo3 : va_at D CL (d, .inr (10, [.int (w 0), .ref (d + 1), .int (w 2), .ref (d + 2), .ref (d + 3), .ref (d + 4), .ref (d + 5), .ref (d + 6), .int (w 8), .ref (d + 7), .ref (d + 8), .ref (d + 9), .ref (d + 10), .ref (d + 11), .ref (d + 12), .ref (d + 13), .ref (d + 14), .ref (d + 15), .ref (d + 16), .ref (d + 17), .int (w 20), .ref (d + 18), .int (w 22), .ref (d + 19), .ref (d + 20), .ref (d + 21), .int (w 26), .int (w 27), .int (w 28), .ref (d + 22), .ref (d + 23), .ref (d + 24), .ref (d + 25), .ref (d + 26), .int (w 34), .ref (d + 27), .ref (d + 28), .int (w 37), .int (w 38)])) H := hR.1
    refine g_get X kc_Model mo3 5 (by decide) lk_Model_19 rfl d_Model_octet_7 ?_
    refine lv_bipush (v := nI 8) X.1.1 X.1.2.1 d_Model_octet_10 (by decide) ?_
    refine lv_iload_n X.1.1 X.1.2.1 d_Model_octet_12 rfl (gl_at hl rfl) ?_
    refine lv_imul X.1.1 X.1.2.1 d_Model_octet_13 ?_
    refine g_top (nI (8 * j)) (pk_mul _ _) ?_
    refine lv_iload_n X.1.1 X.1.2.1 d_Model_octet_14 rfl (gl_at hl rfl) ?_
    refine lv_iconst (v := nI 2) X.1.1 X.1.2.1 d_Model_octet_15 (by decide) ?_
    refine lv_idiv X.1.1 X.1.2.1 d_Model_octet_16 (by decide) ?_
    refine g_top (nI (i / 2)) (pk_div (by omega) (by decide) (by decide)) ?_
    refine lv_iadd X.1.1 X.1.2.1 d_Model_octet_17 ?_
    refine g_top (nI ((8 * j) + (i / 2))) (nI_add _ _) ?_
    have ma4 : va_at D CL (d + 4, .inl (q 0, 1536, .inl (ar 4))) H := hR.a4
    refine g_iald X 0 ma4 rfl ((8 * j) + (i / 2)) (by omega) (by omega) d_Model_octet_18 ?_
    refine g_top (nI ((kk j).getD (i / 2) 0)) (hk1 (i / 2) (by omega)) ?_
    refine lv_bipush (v := nI 8) X.1.1 X.1.2.1 d_Model_octet_19 (by decide) ?_
    refine lv_ishr X.1.1 X.1.2.1 d_Model_octet_21 ?_
    refine g_top (nI ((kk j).getD (i / 2) 0 / 256)) (ex_shr (a := (kk j).getD (i / 2) 0) (s := 8) (by omega) (by decide)) ?_
    refine lv_goto X.1.1 X.1.2.1 d_Model_octet_22 rfl ?_
    exact g_iret X B ⟨by
      unfold d_oc
      rw [if_pos hc3], rfl⟩ (fun _ h => by cases h) d_Model_octet_42 (by omega) (by omega)

theorem d_oc_lt {xs : List Nat} (h : t16 xs) (i : Nat) : d_oc xs i < 65536 := by
  have := t_lt h (i / 2)
  unfold d_oc
  split <;> omega

set_option maxHeartbeats 4000000 in
set_option maxRecDepth 100000 in
/-- sameBytes -/
theorem c_Model_sameBytes (l : Launch) (D : va_G) (q : Nat → ClassId) (H : Heap) (d : Nat) (w : Nat → Int32) (ar : Nat → Nat → Int32) (hR : dR D q H d w ar) (kk : Nat → List Nat) (hk : pK ar kk) (a b : Nat) (ha : a < 192) (hb : b < 192) (n0 : Nat) (hn0 : n0 ≤ 2 * (kk a).length) : gC l y_Model_sameBytes (Cond.code y_Model_sameBytes b_Model_sameBytes 5 (some .boolean) :: gWS) (gR 1 22 0 0) D CL (gY q) (fun _ => True) [.ref d, .int (nI a), .int (nI b), .int (nI n0)] H (fun v1 H1 => v1 = some (.int (nI (if d_sb (kk a) (kk b) n0 = true then 1 else 0))) ∧ H1 = H) 0 0 (fun _ => False) := by
  refine gC.ofW R_Model "sameBytes" (by decide) rfl rfl ?_
  intro p e s m below meth c hadm X hE hH B hne
  refine g_entry [some (.ref d), some (.int (nI a)), some (.int (nI b)), some (.int (nI n0)), none] rfl rfl (Nat.le_of_ble_eq_true rfl) (fun ls hl => ?_)
  have hka := hk a ha
  have hkb := hk b hb
  have ha8 := hka.2.2.1
  have hb8 := hkb.2.2.1
  refine lv_iconst (v := nI 2) X.1.1 X.1.2.1 d_Model_sameBytes_0 (by decide) ?_
  refine lv_aload_n X.1.1 X.1.2.1 d_Model_sameBytes_1 rfl (gl_at hl rfl) ?_
  have mo1 : va_at D CL (d, .inr (10, [.int (w 0), .ref (d + 1), .int (w 2), .ref (d + 2), .ref (d + 3), .ref (d + 4), .ref (d + 5), .ref (d + 6), .int (w 8), .ref (d + 7), .ref (d + 8), .ref (d + 9), .ref (d + 10), .ref (d + 11), .ref (d + 12), .ref (d + 13), .ref (d + 14), .ref (d + 15), .ref (d + 16), .ref (d + 17), .int (w 20), .ref (d + 18), .int (w 22), .ref (d + 19), .ref (d + 20), .ref (d + 21), .int (w 26), .int (w 27), .int (w 28), .ref (d + 22), .ref (d + 23), .ref (d + 24), .ref (d + 25), .ref (d + 26), .int (w 34), .ref (d + 27), .ref (d + 28), .int (w 37), .int (w 38)])) H := hR.1
  refine g_get X kc_Model mo1 6 (by decide) lk_Model_22 rfl d_Model_sameBytes_2 ?_
  refine lv_iload_n X.1.1 X.1.2.1 d_Model_sameBytes_5 rfl (gl_at hl rfl) ?_
  have ma2 : va_at D CL (d + 5, .inl (q 0, 192, .inl (ar 5))) H := hR.a5
  refine g_iald X 0 ma2 rfl b (by omega) (by omega) d_Model_sameBytes_6 ?_
  refine g_top (nI ((kk b).length)) hkb.2.1 ?_
  refine lv_imul X.1.1 X.1.2.1 d_Model_sameBytes_7 ?_
  refine g_top (nI (2 * ((kk b).length))) (pk_mul _ _) ?_
  refine lv_iload_n X.1.1 X.1.2.1 d_Model_sameBytes_8 rfl (gl_at hl rfl) ?_
  refine gn_ge X.1.1 X.1.2.1 (2 * ((kk b).length)) n0 (by omega) (by omega) d_Model_sameBytes_9 rfl (fun hc9 => ?_) (fun hc9 => ?_)
  · refine lv_iconst (v := nI 0) X.1.1 X.1.2.1 d_Model_sameBytes_14 (by decide) ?_
    refine g_ist X.1.1 X.1.2.1 hl 4 d_Model_sameBytes_15 (Nat.le_of_ble_eq_true rfl) rfl (fun ls hl => ?_)
    have loop17 : ∀ (fu : Nat) (i : Nat) (locs : List Loc) (ls : Array Slot), n0 - i < fu → (i ≤ n0) → (∀ j, j < i → d_oc (kk a) j = d_oc (kk b) j) → (∀ x ∈ locs, (fun _ => False) x.base) → gl ls [some (.ref d), some (.int (nI a)), some (.int (nI b)), some (.int (nI n0)), some (.int (nI i))] → W p l e (gR 1 22 0 0) s m ([.ref d, .int (nI a), .int (nI b), .int (nI n0)] : List Value).toArray below meth c H locs 0 0 (gQ below ([.ref d, .int (nI a), .int (nI b), .int (nI n0)] : List Value).toArray s (fun v1 H1 => v1 = some (.int (nI (if d_sb (kk a) (kk b) n0 = true then 1 else 0))) ∧ H1 = H) 0 0 (fun _ => False)) (F0 m 17 ls []) := by
      intro fu
      induction fu with
      | zero => intro i locs ls hmu; omega
      | succ fu ih17 =>
        intro i locs ls hmu17 hi17_0 hi17_1 hL hl
        refine lv_iload X.1.1 X.1.2.1 d_Model_sameBytes_17 (gl_at hl rfl) ?_
        refine lv_iload_n X.1.1 X.1.2.1 d_Model_sameBytes_19 rfl (gl_at hl rfl) ?_
        refine gn_ge X.1.1 X.1.2.1 i n0 (by omega) (by omega) d_Model_sameBytes_20 rfl (fun hc20 => ?_) (fun hc20 => ?_)
        · refine lv_iconst (v := nI 1) X.1.1 X.1.2.1 d_Model_sameBytes_48 (by decide) ?_
          exact g_zret X B (by decide) ⟨by rw [if_pos (d_sb_t (by omega) (fun j hj => hi17_1 j (by omega)))], rfl⟩ hL d_Model_sameBytes_49 (by omega) (by omega)
        · refine lv_aload_n X.1.1 X.1.2.1 d_Model_sameBytes_23 rfl (gl_at hl rfl) ?_
          refine lv_iload_n X.1.1 X.1.2.1 d_Model_sameBytes_24 rfl (gl_at hl rfl) ?_
          refine lv_iload X.1.1 X.1.2.1 d_Model_sameBytes_25 (gl_at hl rfl) ?_
          refine g_cv (A := (fun _ => False)) X gWS_good mw_Model_174 kc_Model mo1 (c_Model_octet l D q H d w ar hR kk hk a (by omega) i (by omega)) (fun _ _ _ => trivial) gBlind.tt rfl rfl hl.1 (Nat.le_of_ble_eq_true rfl) rfl rfl ⟨by decide, by decide⟩ ⟨by decide, by decide⟩ d_Model_sameBytes_27 (fun _ h => h.elim) hL (fun v3 H4 locs hp5 hL => ?_)
          obtain ⟨rfl, hHe⟩ := hp5
          rw [hHe]
          refine lv_aload_n X.1.1 X.1.2.1 d_Model_sameBytes_30 rfl (gl_at hl rfl) ?_
          refine lv_iload_n X.1.1 X.1.2.1 d_Model_sameBytes_31 rfl (gl_at hl rfl) ?_
          refine lv_iload X.1.1 X.1.2.1 d_Model_sameBytes_32 (gl_at hl rfl) ?_
          refine g_cv (A := (fun _ => False)) X gWS_good mw_Model_174 kc_Model mo1 (c_Model_octet l D q H d w ar hR kk hk b (by omega) i (by omega)) (fun _ _ _ => trivial) gBlind.tt rfl rfl hl.1 (Nat.le_of_ble_eq_true rfl) rfl rfl ⟨by decide, by decide⟩ ⟨by decide, by decide⟩ d_Model_sameBytes_34 (fun _ h => h.elim) hL (fun v6 H7 locs hp8 hL => ?_)
          obtain ⟨rfl, hHe⟩ := hp8
          rw [hHe]
          have e1 := d_oc_lt hka.2.2.2 i
          have e2 := d_oc_lt hkb.2.2.2 i
          refine gn_eq X.1.1 X.1.2.1 (d_oc (kk a) i) (d_oc (kk b) i) (by omega) (by omega) d_Model_sameBytes_37 rfl (fun hc37 => ?_) (fun hc37 => ?_)
          · refine g_iinc X.1.1 X.1.2.1 (nI (i + 1)) hl 4 d_Model_sameBytes_42 rfl (nI_1 _) rfl (fun ls hl => ?_)
            refine lv_goto X.1.1 X.1.2.1 d_Model_sameBytes_45 rfl ?_
            exact ih17 (i + 1) locs ls (by omega) (by omega) (lt_s hi17_1 hc37) hL hl
          · refine lv_iconst (v := nI 0) X.1.1 X.1.2.1 d_Model_sameBytes_40 (by decide) ?_
            exact g_zret X B (by decide) ⟨by rw [if_neg (fun h9 => hc37 ((d_sb_m h9).2 i (by omega)))], rfl⟩ hL d_Model_sameBytes_41 (by omega) (by omega)
    exact loop17 _ 0 [] ls (Nat.lt_succ_self _) (Nat.zero_le _) (fun j hj => absurd hj (Nat.not_lt_zero j)) (fun _ h => by cases h) hl
  · refine lv_iconst (v := nI 0) X.1.1 X.1.2.1 d_Model_sameBytes_12 (by decide) ?_
    exact g_zret X B (by decide) ⟨by rw [if_neg (fun h9 => by have := (d_sb_m h9).1; omega)], rfl⟩ (fun _ h => by cases h) d_Model_sameBytes_13 (by omega) (by omega)

set_option maxHeartbeats 4000000 in
set_option maxRecDepth 100000 in
/-- fan -/
theorem c_Model_fan (l : Launch) (D : va_G) (q : Nat → ClassId) (H : Heap) (d : Nat) (w : Nat → Int32) (ar : Nat → Nat → Int32) (hR : dR D q H d w ar) (kk : Nat → List Nat) (hk : pK ar kk) (n chg : Nat → Nat) (hm : pM ar n chg) (g : Nat) (hg1 : 64 ≤ g) (hg2 : g < 64 + n 1) (n0 : Nat) (hn0 : n0 ≤ 2 * (kk g).length) : gC l y_Model_fan (Cond.code y_Model_fan b_Model_fan 8 (some .int) :: gWS) (gR 2 46 0 0) D CL (gY q) (fun _ => True) [.ref d, .int (nI g), .int (nI n0)] H (fun v1 H1 => v1 = some (.int (nI (d_fan kk (n 1) g n0))) ∧ H1 = H) 0 0 (fun _ => False) := by
  refine gC.ofW R_Model "fan" (by decide) rfl rfl ?_
  intro p e s m below meth c hadm X hE hH B hne
  refine g_entry [some (.ref d), some (.int (nI g)), some (.int (nI n0)), none, none, none, none, none] rfl rfl (Nat.le_of_ble_eq_true rfl) (fun ls hl => ?_)
  obtain ⟨hm1a, hm2, hm3⟩ := hm 1 (by decide)
  have hg8 := (hk g (by omega)).2.2.1
  refine lv_iconst (v := nI 0) X.1.1 X.1.2.1 d_Model_fan_0 (by decide) ?_
  refine g_istn X.1.1 X.1.2.1 hl 3 d_Model_fan_1 rfl (Nat.le_of_ble_eq_true rfl) rfl (fun ls hl => ?_)
  refine lv_iconst (v := nI 0) X.1.1 X.1.2.1 d_Model_fan_2 (by decide) ?_
  refine g_ist X.1.1 X.1.2.1 hl 4 d_Model_fan_3 (Nat.le_of_ble_eq_true rfl) rfl (fun ls hl => ?_)
  refine lv_bipush (v := nI 64) X.1.1 X.1.2.1 d_Model_fan_5 (by decide) ?_
  refine g_ist X.1.1 X.1.2.1 hl 5 d_Model_fan_7 (Nat.le_of_ble_eq_true rfl) rfl (fun ls hl => ?_)
  have loop9 : ∀ (fu : Nat) (k : Nat) (t0 : Nat) (z0 : Nat) (locs : List Loc) (ls : Array Slot), 64 + n 1 - k < fu → (64 ≤ k ∧ k ≤ 64 + n 1) → (t0 ≤ 1) → (∀ j, 64 ≤ j → j < k → j < g → ¬ d_sb (kk g) (kk j) n0 = true) → (z0 = v_cnt (d_fr (kk g) kk n0) 64 (k - 64)) → (t0 = 1 ↔ d_ens (kk g) kk n0 (k - 64) = true) → (∀ x ∈ locs, (fun _ => False) x.base) → gl ls [some (.ref d), some (.int (nI g)), some (.int (nI n0)), some (.int (nI t0)), some (.int (nI z0)), some (.int (nI k)), none, none] → W p l e (gR 2 46 0 0) s m ([.ref d, .int (nI g), .int (nI n0)] : List Value).toArray below meth c H locs 0 0 (gQ below ([.ref d, .int (nI g), .int (nI n0)] : List Value).toArray s (fun v1 H1 => v1 = some (.int (nI (d_fan kk (n 1) g n0))) ∧ H1 = H) 0 0 (fun _ => False)) (F0 m 9 ls []) := by
    intro fu
    induction fu with
    | zero => intro k t0 z0 locs ls hmu; omega
    | succ fu ih9 =>
      intro k t0 z0 locs ls hmu9 hi9_0 hi9_1 hi9_2 hi9_3 hi9_4 hL hl
      have hz9 := v_cnt_le (d_fr (kk g) kk n0) 64 (k - 64)
      refine lv_iload X.1.1 X.1.2.1 d_Model_fan_9 (gl_at hl rfl) ?_
      refine lv_bipush (v := nI 64) X.1.1 X.1.2.1 d_Model_fan_11 (by decide) ?_
      refine lv_aload_n X.1.1 X.1.2.1 d_Model_fan_13 rfl (gl_at hl rfl) ?_
      have mo1 : va_at D CL (d, .inr (10, [.int (w 0), .ref (d + 1), .int (w 2), .ref (d + 2), .ref (d + 3), .ref (d + 4), .ref (d + 5), .ref (d + 6), .int (w 8), .ref (d + 7), .ref (d + 8), .ref (d + 9), .ref (d + 10), .ref (d + 11), .ref (d + 12), .ref (d + 13), .ref (d + 14), .ref (d + 15), .ref (d + 16), .ref (d + 17), .int (w 20), .ref (d + 18), .int (w 22), .ref (d + 19), .ref (d + 20), .ref (d + 21), .int (w 26), .int (w 27), .int (w 28), .ref (d + 22), .ref (d + 23), .ref (d + 24), .ref (d + 25), .ref (d + 26), .int (w 34), .ref (d + 27), .ref (d + 28), .int (w 37), .int (w 38)])) H := hR.1
      refine g_get X kc_Model mo1 3 (by decide) lk_Model_13 rfl d_Model_fan_14 ?_
      refine lv_iconst (v := nI 1) X.1.1 X.1.2.1 d_Model_fan_17 (by decide) ?_
      have ma2 : va_at D CL (d + 2, .inl (q 0, 3, .inl (ar 2))) H := hR.a2
      refine g_iald X 0 ma2 rfl 1 (by omega) (by omega) d_Model_fan_18 ?_
      refine g_top (nI (n 1)) hm1a ?_
      refine lv_iadd X.1.1 X.1.2.1 d_Model_fan_19 ?_
      refine g_top (nI (64 + (n 1))) (nI_add _ _) ?_
      refine gn_ge X.1.1 X.1.2.1 k (64 + (n 1)) (by omega) (by omega) d_Model_fan_20 rfl (fun hc20 => ?_) (fun hc20 => ?_)
      · refine lv_iload X.1.1 X.1.2.1 d_Model_fan_178 (gl_at hl rfl) ?_
        refine lv_iconst (v := nI 1) X.1.1 X.1.2.1 d_Model_fan_180 (by decide) ?_
        refine gn_gt X.1.1 X.1.2.1 z0 1 (by omega) (by omega) d_Model_fan_181 rfl (fun hc181 => ?_) (fun hc181 => ?_)
        · refine lv_iload X.1.1 X.1.2.1 d_Model_fan_188 (gl_at hl rfl) ?_
          refine lv_goto X.1.1 X.1.2.1 d_Model_fan_190 rfl ?_
          exact g_iret X B ⟨by
            unfold d_fan
            rw [if_neg (d_old_f (fun j h1 h2 => hi9_2 j h1 (by omega) h2)), show n 1 = k - 64 by omega]
            first
            | rw [if_pos (Or.inl (by omega)), ← hi9_3]
            | rw [if_pos (Or.inr (hi9_4.mp (by omega))), ← hi9_3]
            | rw [if_neg (fun h9 => by rcases h9 with h8 | h8 <;> first | omega | (have := hi9_4.mpr h8; omega))], rfl⟩ hL d_Model_fan_194 (by omega) (by omega)
        · refine lv_iload_n X.1.1 X.1.2.1 d_Model_fan_184 rfl (gl_at hl rfl) ?_
          refine gn_eq0 X.1.1 X.1.2.1 t0 (by omega) d_Model_fan_185 rfl (fun hc185 => ?_) (fun hc185 => ?_)
          · refine lv_iconst (v := nI 0) X.1.1 X.1.2.1 d_Model_fan_193 (by decide) ?_
            exact g_iret X B ⟨by
              unfold d_fan
              rw [if_neg (d_old_f (fun j h1 h2 => hi9_2 j h1 (by omega) h2)), show n 1 = k - 64 by omega]
              first
              | rw [if_pos (Or.inl (by omega)), ← hi9_3]
              | rw [if_pos (Or.inr (hi9_4.mp (by omega))), ← hi9_3]
              | rw [if_neg (fun h9 => by rcases h9 with h8 | h8 <;> first | omega | (have := hi9_4.mpr h8; omega))], rfl⟩ hL d_Model_fan_194 (by omega) (by omega)
          · refine lv_iload X.1.1 X.1.2.1 d_Model_fan_188 (gl_at hl rfl) ?_
            refine lv_goto X.1.1 X.1.2.1 d_Model_fan_190 rfl ?_
            exact g_iret X B ⟨by
              unfold d_fan
              rw [if_neg (d_old_f (fun j h1 h2 => hi9_2 j h1 (by omega) h2)), show n 1 = k - 64 by omega]
              first
              | rw [if_pos (Or.inl (by omega)), ← hi9_3]
              | rw [if_pos (Or.inr (hi9_4.mp (by omega))), ← hi9_3]
              | rw [if_neg (fun h9 => by rcases h9 with h8 | h8 <;> first | omega | (have := hi9_4.mpr h8; omega))], rfl⟩ hL d_Model_fan_194 (by omega) (by omega)
      · obtain ⟨hx1, hx2, hx3, hx4⟩ := hk k (by omega)
        refine lv_aload_n X.1.1 X.1.2.1 d_Model_fan_23 rfl (gl_at hl rfl) ?_
        refine lv_iload_n X.1.1 X.1.2.1 d_Model_fan_24 rfl (gl_at hl rfl) ?_
        refine lv_iload X.1.1 X.1.2.1 d_Model_fan_25 (gl_at hl rfl) ?_
        refine lv_iload_n X.1.1 X.1.2.1 d_Model_fan_27 rfl (gl_at hl rfl) ?_
        refine g_cv (A := (fun _ => False)) X gWS_good mw_Model_177 kc_Model mo1 (c_Model_sameBytes l D q H d w ar hR kk hk g k (by omega) (by omega) n0 hn0) (fun _ _ _ => trivial) gBlind.tt rfl rfl hl.1 (Nat.le_of_ble_eq_true rfl) rfl rfl ⟨by decide, by decide⟩ ⟨by decide, by decide⟩ d_Model_fan_28 (fun _ h => h.elim) hL (fun v3 H4 locs hp5 hL => ?_)
        obtain ⟨rfl, hHe⟩ := hp5
        rw [hHe]
        refine lv_if_ne X.1.1 X.1.2.1 d_Model_fan_31 rfl (fun hc31 => ?_) (fun hc31 => ?_)
        · replace hc31 := gz_t hc31
          refine lv_iload X.1.1 X.1.2.1 d_Model_fan_37 (gl_at hl rfl) ?_
          refine lv_iload_n X.1.1 X.1.2.1 d_Model_fan_39 rfl (gl_at hl rfl) ?_
          refine gn_ge X.1.1 X.1.2.1 k g (by omega) (by omega) d_Model_fan_40 rfl (fun hc40 => ?_) (fun hc40 => ?_)
          · refine lv_iload_n X.1.1 X.1.2.1 d_Model_fan_45 rfl (gl_at hl rfl) ?_
            refine gn_ne0 X.1.1 X.1.2.1 t0 (by omega) d_Model_fan_46 rfl (fun hc46 => ?_) (fun hc46 => ?_)
            · refine lv_iconst (v := nI 1) X.1.1 X.1.2.1 d_Model_fan_62 (by decide) ?_
              refine lv_goto X.1.1 X.1.2.1 d_Model_fan_63 rfl ?_
              refine g_istn X.1.1 X.1.2.1 hl 3 d_Model_fan_67 rfl (Nat.le_of_ble_eq_true rfl) rfl (fun ls hl => ?_)
              refine lv_iconst (v := nI 2) X.1.1 X.1.2.1 d_Model_fan_68 (by decide) ?_
              refine lv_aload_n X.1.1 X.1.2.1 d_Model_fan_69 rfl (gl_at hl rfl) ?_
              refine g_get X kc_Model mo1 6 (by decide) lk_Model_22 rfl d_Model_fan_70 ?_
              refine lv_iload X.1.1 X.1.2.1 d_Model_fan_73 (gl_at hl rfl) ?_
              have ma6 : va_at D CL (d + 5, .inl (q 0, 192, .inl (ar 5))) H := hR.a5
              refine g_iald X 0 ma6 rfl k (by omega) (by omega) d_Model_fan_75 ?_
              refine g_top (nI ((kk k).length)) hx2 ?_
              refine lv_imul X.1.1 X.1.2.1 d_Model_fan_76 ?_
              refine g_top (nI (2 * ((kk k).length))) (pk_mul _ _) ?_
              refine lv_iload_n X.1.1 X.1.2.1 d_Model_fan_77 rfl (gl_at hl rfl) ?_
              refine gn_ne X.1.1 X.1.2.1 (2 * ((kk k).length)) n0 (by omega) (by omega) d_Model_fan_78 rfl (fun hc78 => ?_) (fun hc78 => ?_)
              · have hnl : n0 < 2 * (kk k).length := by
                  have := (d_sb_m hc31).1
                  omega
                refine lv_iconst (v := nI 1) X.1.1 X.1.2.1 d_Model_fan_84 (by decide) ?_
                refine g_ist X.1.1 X.1.2.1 hl 6 d_Model_fan_85 (Nat.le_of_ble_eq_true rfl) rfl (fun ls hl => ?_)
                refine lv_bipush (v := nI 64) X.1.1 X.1.2.1 d_Model_fan_87 (by decide) ?_
                refine g_ist X.1.1 X.1.2.1 hl 7 d_Model_fan_89 (Nat.le_of_ble_eq_true rfl) rfl (fun ls hl => ?_)
                have loop91 : ∀ (fu : Nat) (i : Nat) (f0 : Nat) (locs : List Loc) (ls : Array Slot), k - i < fu → (64 ≤ i ∧ i ≤ k) → (f0 ≤ 1) → (True) → (f0 = 1 ↔ d_fz (kk g) kk n0 (d_oc (kk k) n0) (i - 64) = true) → (∀ x ∈ locs, (fun _ => False) x.base) → gl ls [some (.ref d), some (.int (nI g)), some (.int (nI n0)), some (.int (nI 1)), some (.int (nI z0)), some (.int (nI k)), some (.int (nI f0)), some (.int (nI i))] → W p l e (gR 2 46 0 0) s m ([.ref d, .int (nI g), .int (nI n0)] : List Value).toArray below meth c H locs 0 0 (gQ below ([.ref d, .int (nI g), .int (nI n0)] : List Value).toArray s (fun v1 H1 => v1 = some (.int (nI (d_fan kk (n 1) g n0))) ∧ H1 = H) 0 0 (fun _ => False)) (F0 m 91 ls []) := by
                  intro fu
                  induction fu with
                  | zero => intro i f0 locs ls hmu; omega
                  | succ fu ih91 =>
                    intro i f0 locs ls hmu91 hi91_0 hi91_1 hi91_2 hi91_3 hL hl
                    refine lv_iload X.1.1 X.1.2.1 d_Model_fan_91 (gl_at hl rfl) ?_
                    refine lv_iload X.1.1 X.1.2.1 d_Model_fan_93 (gl_at hl rfl) ?_
                    refine gn_ge X.1.1 X.1.2.1 i k (by omega) (by omega) d_Model_fan_95 rfl (fun hc95 => ?_) (fun hc95 => ?_)
                    · refine lv_iload X.1.1 X.1.2.1 d_Model_fan_157 (gl_at hl rfl) ?_
                      refine lv_iload X.1.1 X.1.2.1 d_Model_fan_159 (gl_at hl rfl) ?_
                      refine gn_eq0 X.1.1 X.1.2.1 f0 (by omega) d_Model_fan_161 rfl (fun hc161 => ?_) (fun hc161 => ?_)
                      · refine lv_iconst (v := nI 0) X.1.1 X.1.2.1 d_Model_fan_168 (by decide) ?_
                        refine lv_iadd X.1.1 X.1.2.1 d_Model_fan_169 ?_
                        refine g_top (nI (z0 + 0)) (nI_add _ _) ?_
                        refine g_ist X.1.1 X.1.2.1 hl 4 d_Model_fan_170 (Nat.le_of_ble_eq_true rfl) rfl (fun ls hl => ?_)
                        refine g_iinc X.1.1 X.1.2.1 (nI (k + 1)) hl 5 d_Model_fan_172 rfl (nI_1 _) rfl (fun ls hl => ?_)
                        refine lv_goto X.1.1 X.1.2.1 d_Model_fan_175 rfl ?_
                        exact ih9 (k + 1) 1 (z0 + 0) locs ls (by omega) (by omega) (by omega) (fun j h1 h2 h3 => by
                          by_cases e : j = k
                          · subst e
                            first
                            | exact hc31
                            | omega
                          · exact hi9_2 j h1 (by omega) h3) (by
                          rw [v_cnt_s (by omega)]
                          have e7 : d_fr (kk g) kk n0 k = d_fz (kk g) kk n0 (d_oc (kk k) n0) (k - 64) := by
                            unfold d_fr
                            rw [hc31]
                            simp [hc78]
                          have e8 : d_fr (kk g) kk n0 k = true ↔ f0 = 1 := by
                            rw [e7, show k - 64 = i - 64 by omega]
                            exact hi91_3.symm
                          first
                          | rw [if_pos (e8.mpr (by omega)), ← hi9_3]
                          | rw [if_neg (fun h9 => by have := e8.mp h9; omega), ← hi9_3]) (by
                          rw [show k + 1 - 64 = (k - 64) + 1 by omega, d_ens_s, show 64 + (k - 64) = k by omega]
                          have e6 : d_en (kk g) kk n0 k = false := by
                            unfold d_en
                            rw [decide_eq_false hc78]
                            simp
                          rw [e6, Bool.or_false]
                          first
                          | exact ⟨fun _ => hi9_4.mp (by omega), fun _ => rfl⟩
                          | exact ⟨fun h => absurd h (by decide), fun h => absurd (hi9_4.mpr h) (by omega)⟩) hL (gl_forget (gl_forget hl 6) 7)
                      · refine lv_iconst (v := nI 1) X.1.1 X.1.2.1 d_Model_fan_164 (by decide) ?_
                        refine lv_goto X.1.1 X.1.2.1 d_Model_fan_165 rfl ?_
                        refine lv_iadd X.1.1 X.1.2.1 d_Model_fan_169 ?_
                        refine g_top (nI (z0 + 1)) (nI_add _ _) ?_
                        refine g_ist X.1.1 X.1.2.1 hl 4 d_Model_fan_170 (Nat.le_of_ble_eq_true rfl) rfl (fun ls hl => ?_)
                        refine g_iinc X.1.1 X.1.2.1 (nI (k + 1)) hl 5 d_Model_fan_172 rfl (nI_1 _) rfl (fun ls hl => ?_)
                        refine lv_goto X.1.1 X.1.2.1 d_Model_fan_175 rfl ?_
                        exact ih9 (k + 1) 1 (z0 + 1) locs ls (by omega) (by omega) (by omega) (fun j h1 h2 h3 => by
                          by_cases e : j = k
                          · subst e
                            first
                            | exact hc31
                            | omega
                          · exact hi9_2 j h1 (by omega) h3) (by
                          rw [v_cnt_s (by omega)]
                          have e7 : d_fr (kk g) kk n0 k = d_fz (kk g) kk n0 (d_oc (kk k) n0) (k - 64) := by
                            unfold d_fr
                            rw [hc31]
                            simp [hc78]
                          have e8 : d_fr (kk g) kk n0 k = true ↔ f0 = 1 := by
                            rw [e7, show k - 64 = i - 64 by omega]
                            exact hi91_3.symm
                          first
                          | rw [if_pos (e8.mpr (by omega)), ← hi9_3]
                          | rw [if_neg (fun h9 => by have := e8.mp h9; omega), ← hi9_3]) (by
                          rw [show k + 1 - 64 = (k - 64) + 1 by omega, d_ens_s, show 64 + (k - 64) = k by omega]
                          have e6 : d_en (kk g) kk n0 k = false := by
                            unfold d_en
                            rw [decide_eq_false hc78]
                            simp
                          rw [e6, Bool.or_false]
                          first
                          | exact ⟨fun _ => hi9_4.mp (by omega), fun _ => rfl⟩
                          | exact ⟨fun h => absurd h (by decide), fun h => absurd (hi9_4.mpr h) (by omega)⟩) hL (gl_forget (gl_forget hl 6) 7)
                    · refine lv_iload X.1.1 X.1.2.1 d_Model_fan_98 (gl_at hl rfl) ?_
                      refine gn_eq0 X.1.1 X.1.2.1 f0 (by omega) d_Model_fan_100 rfl (fun hc100 => ?_) (fun hc100 => ?_)
                      · refine lv_iconst (v := nI 0) X.1.1 X.1.2.1 d_Model_fan_148 (by decide) ?_
                        refine g_ist X.1.1 X.1.2.1 hl 6 d_Model_fan_149 (Nat.le_of_ble_eq_true rfl) rfl (fun ls hl => ?_)
                        refine g_iinc X.1.1 X.1.2.1 (nI (i + 1)) hl 7 d_Model_fan_151 rfl (nI_1 _) rfl (fun ls hl => ?_)
                        refine lv_goto X.1.1 X.1.2.1 d_Model_fan_154 rfl ?_
                        exact ih91 (i + 1) 0 locs ls (by omega) (by omega) (by omega) trivial (by
                          rw [show i + 1 - 64 = (i - 64) + 1 by omega, d_fz_s, show 64 + (i - 64) = i by omega]
                          unfold d_gb
                          first
                          | (have e5 : f0 = 0 := by omega
                             have e4 : d_fz (kk g) kk n0 (d_oc (kk k) n0) (i - 64) = false := by
                               rw [Bool.eq_false_iff]
                               intro h9
                               have := hi91_3.mpr h9
                               omega
                             rw [e4]
                             simp)
                          | (rw [hi91_3.mp (by omega), Bool.eq_false_iff.mpr hc111]
                             simp)
                          | (rw [hi91_3.mp (by omega), hc111, decide_eq_false (show ¬ n0 < 2 * (kk i).length by omega)]
                             simp)
                          | (rw [hi91_3.mp (by omega), hc111, decide_eq_true (show n0 < 2 * (kk i).length by omega), decide_eq_true hc141]
                             simp)
                          | (rw [hi91_3.mp (by omega), hc111, decide_eq_true (show n0 < 2 * (kk i).length by omega), decide_eq_false hc141]
                             simp)) hL hl
                      · obtain ⟨hy1, hy2, hy3, hy4⟩ := hk i (by omega)
                        refine lv_aload_n X.1.1 X.1.2.1 d_Model_fan_103 rfl (gl_at hl rfl) ?_
                        refine lv_iload_n X.1.1 X.1.2.1 d_Model_fan_104 rfl (gl_at hl rfl) ?_
                        refine lv_iload X.1.1 X.1.2.1 d_Model_fan_105 (gl_at hl rfl) ?_
                        refine lv_iload_n X.1.1 X.1.2.1 d_Model_fan_107 rfl (gl_at hl rfl) ?_
                        refine g_cv (A := (fun _ => False)) X gWS_good mw_Model_177 kc_Model mo1 (c_Model_sameBytes l D q H d w ar hR kk hk g i (by omega) (by omega) n0 hn0) (fun _ _ _ => trivial) gBlind.tt rfl rfl hl.1 (Nat.le_of_ble_eq_true rfl) rfl rfl ⟨by decide, by decide⟩ ⟨by decide, by decide⟩ d_Model_fan_108 (fun _ h => h.elim) hL (fun v7 H8 locs hp9 hL => ?_)
                        obtain ⟨rfl, hHe⟩ := hp9
                        rw [hHe]
                        refine lv_if_eq X.1.1 X.1.2.1 d_Model_fan_111 rfl (fun hc111 => ?_) (fun hc111 => ?_)
                        · replace hc111 := gz_f hc111
                          refine lv_iconst (v := nI 1) X.1.1 X.1.2.1 d_Model_fan_144 (by decide) ?_
                          refine lv_goto X.1.1 X.1.2.1 d_Model_fan_145 rfl ?_
                          refine g_ist X.1.1 X.1.2.1 hl 6 d_Model_fan_149 (Nat.le_of_ble_eq_true rfl) rfl (fun ls hl => ?_)
                          refine g_iinc X.1.1 X.1.2.1 (nI (i + 1)) hl 7 d_Model_fan_151 rfl (nI_1 _) rfl (fun ls hl => ?_)
                          refine lv_goto X.1.1 X.1.2.1 d_Model_fan_154 rfl ?_
                          exact ih91 (i + 1) 1 locs ls (by omega) (by omega) (by omega) trivial (by
                            rw [show i + 1 - 64 = (i - 64) + 1 by omega, d_fz_s, show 64 + (i - 64) = i by omega]
                            unfold d_gb
                            first
                            | (have e5 : f0 = 0 := by omega
                               have e4 : d_fz (kk g) kk n0 (d_oc (kk k) n0) (i - 64) = false := by
                                 rw [Bool.eq_false_iff]
                                 intro h9
                                 have := hi91_3.mpr h9
                                 omega
                               rw [e4]
                               simp)
                            | (rw [hi91_3.mp (by omega), Bool.eq_false_iff.mpr hc111]
                               simp)
                            | (rw [hi91_3.mp (by omega), hc111, decide_eq_false (show ¬ n0 < 2 * (kk i).length by omega)]
                               simp)
                            | (rw [hi91_3.mp (by omega), hc111, decide_eq_true (show n0 < 2 * (kk i).length by omega), decide_eq_true hc141]
                               simp)
                            | (rw [hi91_3.mp (by omega), hc111, decide_eq_true (show n0 < 2 * (kk i).length by omega), decide_eq_false hc141]
                               simp)) hL hl
                        · replace hc111 := gz_t hc111
                          refine lv_iconst (v := nI 2) X.1.1 X.1.2.1 d_Model_fan_114 (by decide) ?_
                          refine lv_aload_n X.1.1 X.1.2.1 d_Model_fan_115 rfl (gl_at hl rfl) ?_
                          refine g_get X kc_Model mo1 6 (by decide) lk_Model_22 rfl d_Model_fan_116 ?_
                          refine lv_iload X.1.1 X.1.2.1 d_Model_fan_119 (gl_at hl rfl) ?_
                          refine g_iald X 0 ma6 rfl i (by omega) (by omega) d_Model_fan_121 ?_
                          refine g_top (nI ((kk i).length)) hy2 ?_
                          refine lv_imul X.1.1 X.1.2.1 d_Model_fan_122 ?_
                          refine g_top (nI (2 * ((kk i).length))) (pk_mul _ _) ?_
                          refine lv_iload_n X.1.1 X.1.2.1 d_Model_fan_123 rfl (gl_at hl rfl) ?_
                          refine gn_le X.1.1 X.1.2.1 (2 * ((kk i).length)) n0 (by omega) (by omega) d_Model_fan_124 rfl (fun hc124 => ?_) (fun hc124 => ?_)
                          · refine lv_iconst (v := nI 1) X.1.1 X.1.2.1 d_Model_fan_144 (by decide) ?_
                            refine lv_goto X.1.1 X.1.2.1 d_Model_fan_145 rfl ?_
                            refine g_ist X.1.1 X.1.2.1 hl 6 d_Model_fan_149 (Nat.le_of_ble_eq_true rfl) rfl (fun ls hl => ?_)
                            refine g_iinc X.1.1 X.1.2.1 (nI (i + 1)) hl 7 d_Model_fan_151 rfl (nI_1 _) rfl (fun ls hl => ?_)
                            refine lv_goto X.1.1 X.1.2.1 d_Model_fan_154 rfl ?_
                            exact ih91 (i + 1) 1 locs ls (by omega) (by omega) (by omega) trivial (by
                              rw [show i + 1 - 64 = (i - 64) + 1 by omega, d_fz_s, show 64 + (i - 64) = i by omega]
                              unfold d_gb
                              first
                              | (have e5 : f0 = 0 := by omega
                                 have e4 : d_fz (kk g) kk n0 (d_oc (kk k) n0) (i - 64) = false := by
                                   rw [Bool.eq_false_iff]
                                   intro h9
                                   have := hi91_3.mpr h9
                                   omega
                                 rw [e4]
                                 simp)
                              | (rw [hi91_3.mp (by omega), Bool.eq_false_iff.mpr hc111]
                                 simp)
                              | (rw [hi91_3.mp (by omega), hc111, decide_eq_false (show ¬ n0 < 2 * (kk i).length by omega)]
                                 simp)
                              | (rw [hi91_3.mp (by omega), hc111, decide_eq_true (show n0 < 2 * (kk i).length by omega), decide_eq_true hc141]
                                 simp)
                              | (rw [hi91_3.mp (by omega), hc111, decide_eq_true (show n0 < 2 * (kk i).length by omega), decide_eq_false hc141]
                                 simp)) hL hl
                          · refine lv_aload_n X.1.1 X.1.2.1 d_Model_fan_127 rfl (gl_at hl rfl) ?_
                            refine lv_iload X.1.1 X.1.2.1 d_Model_fan_128 (gl_at hl rfl) ?_
                            refine lv_iload_n X.1.1 X.1.2.1 d_Model_fan_130 rfl (gl_at hl rfl) ?_
                            refine g_cv (A := (fun _ => False)) X gWS_good mw_Model_174 kc_Model mo1 (c_Model_octet l D q H d w ar hR kk hk i (by omega) n0 (by omega)) (fun _ _ _ => trivial) gBlind.tt rfl rfl hl.1 (Nat.le_of_ble_eq_true rfl) rfl rfl ⟨by decide, by decide⟩ ⟨by decide, by decide⟩ d_Model_fan_131 (fun _ h => h.elim) hL (fun v10 H11 locs hp12 hL => ?_)
                            obtain ⟨rfl, hHe⟩ := hp12
                            rw [hHe]
                            refine lv_aload_n X.1.1 X.1.2.1 d_Model_fan_134 rfl (gl_at hl rfl) ?_
                            refine lv_iload X.1.1 X.1.2.1 d_Model_fan_135 (gl_at hl rfl) ?_
                            refine lv_iload_n X.1.1 X.1.2.1 d_Model_fan_137 rfl (gl_at hl rfl) ?_
                            refine g_cv (A := (fun _ => False)) X gWS_good mw_Model_174 kc_Model mo1 (c_Model_octet l D q H d w ar hR kk hk k (by omega) n0 (by omega)) (fun _ _ _ => trivial) gBlind.tt rfl rfl hl.1 (Nat.le_of_ble_eq_true rfl) rfl rfl ⟨by decide, by decide⟩ ⟨by decide, by decide⟩ d_Model_fan_138 (fun _ h => h.elim) hL (fun v13 H14 locs hp15 hL => ?_)
                            obtain ⟨rfl, hHe⟩ := hp15
                            rw [hHe]
                            have e1 := d_oc_lt hy4 n0
                            have e2 := d_oc_lt hx4 n0
                            refine gn_eq X.1.1 X.1.2.1 (d_oc (kk i) n0) (d_oc (kk k) n0) (by omega) (by omega) d_Model_fan_141 rfl (fun hc141 => ?_) (fun hc141 => ?_)
                            · refine lv_iconst (v := nI 0) X.1.1 X.1.2.1 d_Model_fan_148 (by decide) ?_
                              refine g_ist X.1.1 X.1.2.1 hl 6 d_Model_fan_149 (Nat.le_of_ble_eq_true rfl) rfl (fun ls hl => ?_)
                              refine g_iinc X.1.1 X.1.2.1 (nI (i + 1)) hl 7 d_Model_fan_151 rfl (nI_1 _) rfl (fun ls hl => ?_)
                              refine lv_goto X.1.1 X.1.2.1 d_Model_fan_154 rfl ?_
                              exact ih91 (i + 1) 0 locs ls (by omega) (by omega) (by omega) trivial (by
                                rw [show i + 1 - 64 = (i - 64) + 1 by omega, d_fz_s, show 64 + (i - 64) = i by omega]
                                unfold d_gb
                                first
                                | (have e5 : f0 = 0 := by omega
                                   have e4 : d_fz (kk g) kk n0 (d_oc (kk k) n0) (i - 64) = false := by
                                     rw [Bool.eq_false_iff]
                                     intro h9
                                     have := hi91_3.mpr h9
                                     omega
                                   rw [e4]
                                   simp)
                                | (rw [hi91_3.mp (by omega), Bool.eq_false_iff.mpr hc111]
                                   simp)
                                | (rw [hi91_3.mp (by omega), hc111, decide_eq_false (show ¬ n0 < 2 * (kk i).length by omega)]
                                   simp)
                                | (rw [hi91_3.mp (by omega), hc111, decide_eq_true (show n0 < 2 * (kk i).length by omega), decide_eq_true hc141]
                                   simp)
                                | (rw [hi91_3.mp (by omega), hc111, decide_eq_true (show n0 < 2 * (kk i).length by omega), decide_eq_false hc141]
                                   simp)) hL hl
                            · refine lv_iconst (v := nI 1) X.1.1 X.1.2.1 d_Model_fan_144 (by decide) ?_
                              refine lv_goto X.1.1 X.1.2.1 d_Model_fan_145 rfl ?_
                              refine g_ist X.1.1 X.1.2.1 hl 6 d_Model_fan_149 (Nat.le_of_ble_eq_true rfl) rfl (fun ls hl => ?_)
                              refine g_iinc X.1.1 X.1.2.1 (nI (i + 1)) hl 7 d_Model_fan_151 rfl (nI_1 _) rfl (fun ls hl => ?_)
                              refine lv_goto X.1.1 X.1.2.1 d_Model_fan_154 rfl ?_
                              exact ih91 (i + 1) 1 locs ls (by omega) (by omega) (by omega) trivial (by
                                rw [show i + 1 - 64 = (i - 64) + 1 by omega, d_fz_s, show 64 + (i - 64) = i by omega]
                                unfold d_gb
                                first
                                | (have e5 : f0 = 0 := by omega
                                   have e4 : d_fz (kk g) kk n0 (d_oc (kk k) n0) (i - 64) = false := by
                                     rw [Bool.eq_false_iff]
                                     intro h9
                                     have := hi91_3.mpr h9
                                     omega
                                   rw [e4]
                                   simp)
                                | (rw [hi91_3.mp (by omega), Bool.eq_false_iff.mpr hc111]
                                   simp)
                                | (rw [hi91_3.mp (by omega), hc111, decide_eq_false (show ¬ n0 < 2 * (kk i).length by omega)]
                                   simp)
                                | (rw [hi91_3.mp (by omega), hc111, decide_eq_true (show n0 < 2 * (kk i).length by omega), decide_eq_true hc141]
                                   simp)
                                | (rw [hi91_3.mp (by omega), hc111, decide_eq_true (show n0 < 2 * (kk i).length by omega), decide_eq_false hc141]
                                   simp)) hL hl
                exact loop91 _ 64 1 locs ls (Nat.lt_succ_self _) (by omega) (by omega) trivial (by simp [d_fz]) hL hl
              · refine lv_goto X.1.1 X.1.2.1 d_Model_fan_81 rfl ?_
                refine g_iinc X.1.1 X.1.2.1 (nI (k + 1)) hl 5 d_Model_fan_172 rfl (nI_1 _) rfl (fun ls hl => ?_)
                refine lv_goto X.1.1 X.1.2.1 d_Model_fan_175 rfl ?_
                exact ih9 (k + 1) 1 z0 locs ls (by omega) (by omega) (by omega) (fun j h1 h2 h3 => by
                  by_cases e : j = k
                  · subst e
                    first
                    | exact hc31
                    | omega
                  · exact hi9_2 j h1 (by omega) h3) (by
                  have e9 : ¬ d_fr (kk g) kk n0 k = true := fun h9 => by
                    unfold d_fr at h9
                    simp [hc78] at h9
                  rw [v_cnt_s (by omega), if_neg e9]
                  exact hi9_3) (by
                  rw [show k + 1 - 64 = (k - 64) + 1 by omega, d_ens_s, show 64 + (k - 64) = k by omega]
                  have e6 : d_en (kk g) kk n0 k = true := by
                    unfold d_en
                    rw [hc31, decide_eq_true hc78]
                    rfl
                  rw [e6, Bool.or_true]
                  simp) hL hl
            · refine lv_iconst (v := nI 2) X.1.1 X.1.2.1 d_Model_fan_49 (by decide) ?_
              refine lv_aload_n X.1.1 X.1.2.1 d_Model_fan_50 rfl (gl_at hl rfl) ?_
              refine g_get X kc_Model mo1 6 (by decide) lk_Model_22 rfl d_Model_fan_51 ?_
              refine lv_iload X.1.1 X.1.2.1 d_Model_fan_54 (gl_at hl rfl) ?_
              have ma16 : va_at D CL (d + 5, .inl (q 0, 192, .inl (ar 5))) H := hR.a5
              refine g_iald X 0 ma16 rfl k (by omega) (by omega) d_Model_fan_56 ?_
              refine g_top (nI ((kk k).length)) hx2 ?_
              refine lv_imul X.1.1 X.1.2.1 d_Model_fan_57 ?_
              refine g_top (nI (2 * ((kk k).length))) (pk_mul _ _) ?_
              refine lv_iload_n X.1.1 X.1.2.1 d_Model_fan_58 rfl (gl_at hl rfl) ?_
              refine gn_ne X.1.1 X.1.2.1 (2 * ((kk k).length)) n0 (by omega) (by omega) d_Model_fan_59 rfl (fun hc59 => ?_) (fun hc59 => ?_)
              · refine lv_iconst (v := nI 0) X.1.1 X.1.2.1 d_Model_fan_66 (by decide) ?_
                refine g_istn X.1.1 X.1.2.1 hl 3 d_Model_fan_67 rfl (Nat.le_of_ble_eq_true rfl) rfl (fun ls hl => ?_)
                refine lv_iconst (v := nI 2) X.1.1 X.1.2.1 d_Model_fan_68 (by decide) ?_
                refine lv_aload_n X.1.1 X.1.2.1 d_Model_fan_69 rfl (gl_at hl rfl) ?_
                refine g_get X kc_Model mo1 6 (by decide) lk_Model_22 rfl d_Model_fan_70 ?_
                refine lv_iload X.1.1 X.1.2.1 d_Model_fan_73 (gl_at hl rfl) ?_
                refine g_iald X 0 ma16 rfl k (by omega) (by omega) d_Model_fan_75 ?_
                refine g_top (nI ((kk k).length)) hx2 ?_
                refine lv_imul X.1.1 X.1.2.1 d_Model_fan_76 ?_
                refine g_top (nI (2 * ((kk k).length))) (pk_mul _ _) ?_
                refine lv_iload_n X.1.1 X.1.2.1 d_Model_fan_77 rfl (gl_at hl rfl) ?_
                refine gn_ne X.1.1 X.1.2.1 (2 * ((kk k).length)) n0 (by omega) (by omega) d_Model_fan_78 rfl (fun hc78 => ?_) (fun hc78 => ?_)
                · have hnl : n0 < 2 * (kk k).length := by
                    have := (d_sb_m hc31).1
                    omega
                  refine lv_iconst (v := nI 1) X.1.1 X.1.2.1 d_Model_fan_84 (by decide) ?_
                  refine g_ist X.1.1 X.1.2.1 hl 6 d_Model_fan_85 (Nat.le_of_ble_eq_true rfl) rfl (fun ls hl => ?_)
                  refine lv_bipush (v := nI 64) X.1.1 X.1.2.1 d_Model_fan_87 (by decide) ?_
                  refine g_ist X.1.1 X.1.2.1 hl 7 d_Model_fan_89 (Nat.le_of_ble_eq_true rfl) rfl (fun ls hl => ?_)
                  have loop91 : ∀ (fu : Nat) (i : Nat) (f0 : Nat) (locs : List Loc) (ls : Array Slot), k - i < fu → (64 ≤ i ∧ i ≤ k) → (f0 ≤ 1) → (True) → (f0 = 1 ↔ d_fz (kk g) kk n0 (d_oc (kk k) n0) (i - 64) = true) → (∀ x ∈ locs, (fun _ => False) x.base) → gl ls [some (.ref d), some (.int (nI g)), some (.int (nI n0)), some (.int (nI 0)), some (.int (nI z0)), some (.int (nI k)), some (.int (nI f0)), some (.int (nI i))] → W p l e (gR 2 46 0 0) s m ([.ref d, .int (nI g), .int (nI n0)] : List Value).toArray below meth c H locs 0 0 (gQ below ([.ref d, .int (nI g), .int (nI n0)] : List Value).toArray s (fun v1 H1 => v1 = some (.int (nI (d_fan kk (n 1) g n0))) ∧ H1 = H) 0 0 (fun _ => False)) (F0 m 91 ls []) := by
                    intro fu
                    induction fu with
                    | zero => intro i f0 locs ls hmu; omega
                    | succ fu ih91 =>
                      intro i f0 locs ls hmu91 hi91_0 hi91_1 hi91_2 hi91_3 hL hl
                      refine lv_iload X.1.1 X.1.2.1 d_Model_fan_91 (gl_at hl rfl) ?_
                      refine lv_iload X.1.1 X.1.2.1 d_Model_fan_93 (gl_at hl rfl) ?_
                      refine gn_ge X.1.1 X.1.2.1 i k (by omega) (by omega) d_Model_fan_95 rfl (fun hc95 => ?_) (fun hc95 => ?_)
                      · refine lv_iload X.1.1 X.1.2.1 d_Model_fan_157 (gl_at hl rfl) ?_
                        refine lv_iload X.1.1 X.1.2.1 d_Model_fan_159 (gl_at hl rfl) ?_
                        refine gn_eq0 X.1.1 X.1.2.1 f0 (by omega) d_Model_fan_161 rfl (fun hc161 => ?_) (fun hc161 => ?_)
                        · refine lv_iconst (v := nI 0) X.1.1 X.1.2.1 d_Model_fan_168 (by decide) ?_
                          refine lv_iadd X.1.1 X.1.2.1 d_Model_fan_169 ?_
                          refine g_top (nI (z0 + 0)) (nI_add _ _) ?_
                          refine g_ist X.1.1 X.1.2.1 hl 4 d_Model_fan_170 (Nat.le_of_ble_eq_true rfl) rfl (fun ls hl => ?_)
                          refine g_iinc X.1.1 X.1.2.1 (nI (k + 1)) hl 5 d_Model_fan_172 rfl (nI_1 _) rfl (fun ls hl => ?_)
                          refine lv_goto X.1.1 X.1.2.1 d_Model_fan_175 rfl ?_
                          exact ih9 (k + 1) 0 (z0 + 0) locs ls (by omega) (by omega) (by omega) (fun j h1 h2 h3 => by
                            by_cases e : j = k
                            · subst e
                              first
                              | exact hc31
                              | omega
                            · exact hi9_2 j h1 (by omega) h3) (by
                            rw [v_cnt_s (by omega)]
                            have e7 : d_fr (kk g) kk n0 k = d_fz (kk g) kk n0 (d_oc (kk k) n0) (k - 64) := by
                              unfold d_fr
                              rw [hc31]
                              simp [hc78]
                            have e8 : d_fr (kk g) kk n0 k = true ↔ f0 = 1 := by
                              rw [e7, show k - 64 = i - 64 by omega]
                              exact hi91_3.symm
                            first
                            | rw [if_pos (e8.mpr (by omega)), ← hi9_3]
                            | rw [if_neg (fun h9 => by have := e8.mp h9; omega), ← hi9_3]) (by
                            rw [show k + 1 - 64 = (k - 64) + 1 by omega, d_ens_s, show 64 + (k - 64) = k by omega]
                            have e6 : d_en (kk g) kk n0 k = false := by
                              unfold d_en
                              rw [decide_eq_false hc78]
                              simp
                            rw [e6, Bool.or_false]
                            first
                            | exact ⟨fun _ => hi9_4.mp (by omega), fun _ => rfl⟩
                            | exact ⟨fun h => absurd h (by decide), fun h => absurd (hi9_4.mpr h) (by omega)⟩) hL (gl_forget (gl_forget hl 6) 7)
                        · refine lv_iconst (v := nI 1) X.1.1 X.1.2.1 d_Model_fan_164 (by decide) ?_
                          refine lv_goto X.1.1 X.1.2.1 d_Model_fan_165 rfl ?_
                          refine lv_iadd X.1.1 X.1.2.1 d_Model_fan_169 ?_
                          refine g_top (nI (z0 + 1)) (nI_add _ _) ?_
                          refine g_ist X.1.1 X.1.2.1 hl 4 d_Model_fan_170 (Nat.le_of_ble_eq_true rfl) rfl (fun ls hl => ?_)
                          refine g_iinc X.1.1 X.1.2.1 (nI (k + 1)) hl 5 d_Model_fan_172 rfl (nI_1 _) rfl (fun ls hl => ?_)
                          refine lv_goto X.1.1 X.1.2.1 d_Model_fan_175 rfl ?_
                          exact ih9 (k + 1) 0 (z0 + 1) locs ls (by omega) (by omega) (by omega) (fun j h1 h2 h3 => by
                            by_cases e : j = k
                            · subst e
                              first
                              | exact hc31
                              | omega
                            · exact hi9_2 j h1 (by omega) h3) (by
                            rw [v_cnt_s (by omega)]
                            have e7 : d_fr (kk g) kk n0 k = d_fz (kk g) kk n0 (d_oc (kk k) n0) (k - 64) := by
                              unfold d_fr
                              rw [hc31]
                              simp [hc78]
                            have e8 : d_fr (kk g) kk n0 k = true ↔ f0 = 1 := by
                              rw [e7, show k - 64 = i - 64 by omega]
                              exact hi91_3.symm
                            first
                            | rw [if_pos (e8.mpr (by omega)), ← hi9_3]
                            | rw [if_neg (fun h9 => by have := e8.mp h9; omega), ← hi9_3]) (by
                            rw [show k + 1 - 64 = (k - 64) + 1 by omega, d_ens_s, show 64 + (k - 64) = k by omega]
                            have e6 : d_en (kk g) kk n0 k = false := by
                              unfold d_en
                              rw [decide_eq_false hc78]
                              simp
                            rw [e6, Bool.or_false]
                            first
                            | exact ⟨fun _ => hi9_4.mp (by omega), fun _ => rfl⟩
                            | exact ⟨fun h => absurd h (by decide), fun h => absurd (hi9_4.mpr h) (by omega)⟩) hL (gl_forget (gl_forget hl 6) 7)
                      · refine lv_iload X.1.1 X.1.2.1 d_Model_fan_98 (gl_at hl rfl) ?_
                        refine gn_eq0 X.1.1 X.1.2.1 f0 (by omega) d_Model_fan_100 rfl (fun hc100 => ?_) (fun hc100 => ?_)
                        · refine lv_iconst (v := nI 0) X.1.1 X.1.2.1 d_Model_fan_148 (by decide) ?_
                          refine g_ist X.1.1 X.1.2.1 hl 6 d_Model_fan_149 (Nat.le_of_ble_eq_true rfl) rfl (fun ls hl => ?_)
                          refine g_iinc X.1.1 X.1.2.1 (nI (i + 1)) hl 7 d_Model_fan_151 rfl (nI_1 _) rfl (fun ls hl => ?_)
                          refine lv_goto X.1.1 X.1.2.1 d_Model_fan_154 rfl ?_
                          exact ih91 (i + 1) 0 locs ls (by omega) (by omega) (by omega) trivial (by
                            rw [show i + 1 - 64 = (i - 64) + 1 by omega, d_fz_s, show 64 + (i - 64) = i by omega]
                            unfold d_gb
                            first
                            | (have e5 : f0 = 0 := by omega
                               have e4 : d_fz (kk g) kk n0 (d_oc (kk k) n0) (i - 64) = false := by
                                 rw [Bool.eq_false_iff]
                                 intro h9
                                 have := hi91_3.mpr h9
                                 omega
                               rw [e4]
                               simp)
                            | (rw [hi91_3.mp (by omega), Bool.eq_false_iff.mpr hc111]
                               simp)
                            | (rw [hi91_3.mp (by omega), hc111, decide_eq_false (show ¬ n0 < 2 * (kk i).length by omega)]
                               simp)
                            | (rw [hi91_3.mp (by omega), hc111, decide_eq_true (show n0 < 2 * (kk i).length by omega), decide_eq_true hc141]
                               simp)
                            | (rw [hi91_3.mp (by omega), hc111, decide_eq_true (show n0 < 2 * (kk i).length by omega), decide_eq_false hc141]
                               simp)) hL hl
                        · obtain ⟨hy1, hy2, hy3, hy4⟩ := hk i (by omega)
                          refine lv_aload_n X.1.1 X.1.2.1 d_Model_fan_103 rfl (gl_at hl rfl) ?_
                          refine lv_iload_n X.1.1 X.1.2.1 d_Model_fan_104 rfl (gl_at hl rfl) ?_
                          refine lv_iload X.1.1 X.1.2.1 d_Model_fan_105 (gl_at hl rfl) ?_
                          refine lv_iload_n X.1.1 X.1.2.1 d_Model_fan_107 rfl (gl_at hl rfl) ?_
                          refine g_cv (A := (fun _ => False)) X gWS_good mw_Model_177 kc_Model mo1 (c_Model_sameBytes l D q H d w ar hR kk hk g i (by omega) (by omega) n0 hn0) (fun _ _ _ => trivial) gBlind.tt rfl rfl hl.1 (Nat.le_of_ble_eq_true rfl) rfl rfl ⟨by decide, by decide⟩ ⟨by decide, by decide⟩ d_Model_fan_108 (fun _ h => h.elim) hL (fun v17 H18 locs hp19 hL => ?_)
                          obtain ⟨rfl, hHe⟩ := hp19
                          rw [hHe]
                          refine lv_if_eq X.1.1 X.1.2.1 d_Model_fan_111 rfl (fun hc111 => ?_) (fun hc111 => ?_)
                          · replace hc111 := gz_f hc111
                            refine lv_iconst (v := nI 1) X.1.1 X.1.2.1 d_Model_fan_144 (by decide) ?_
                            refine lv_goto X.1.1 X.1.2.1 d_Model_fan_145 rfl ?_
                            refine g_ist X.1.1 X.1.2.1 hl 6 d_Model_fan_149 (Nat.le_of_ble_eq_true rfl) rfl (fun ls hl => ?_)
                            refine g_iinc X.1.1 X.1.2.1 (nI (i + 1)) hl 7 d_Model_fan_151 rfl (nI_1 _) rfl (fun ls hl => ?_)
                            refine lv_goto X.1.1 X.1.2.1 d_Model_fan_154 rfl ?_
                            exact ih91 (i + 1) 1 locs ls (by omega) (by omega) (by omega) trivial (by
                              rw [show i + 1 - 64 = (i - 64) + 1 by omega, d_fz_s, show 64 + (i - 64) = i by omega]
                              unfold d_gb
                              first
                              | (have e5 : f0 = 0 := by omega
                                 have e4 : d_fz (kk g) kk n0 (d_oc (kk k) n0) (i - 64) = false := by
                                   rw [Bool.eq_false_iff]
                                   intro h9
                                   have := hi91_3.mpr h9
                                   omega
                                 rw [e4]
                                 simp)
                              | (rw [hi91_3.mp (by omega), Bool.eq_false_iff.mpr hc111]
                                 simp)
                              | (rw [hi91_3.mp (by omega), hc111, decide_eq_false (show ¬ n0 < 2 * (kk i).length by omega)]
                                 simp)
                              | (rw [hi91_3.mp (by omega), hc111, decide_eq_true (show n0 < 2 * (kk i).length by omega), decide_eq_true hc141]
                                 simp)
                              | (rw [hi91_3.mp (by omega), hc111, decide_eq_true (show n0 < 2 * (kk i).length by omega), decide_eq_false hc141]
                                 simp)) hL hl
                          · replace hc111 := gz_t hc111
                            refine lv_iconst (v := nI 2) X.1.1 X.1.2.1 d_Model_fan_114 (by decide) ?_
                            refine lv_aload_n X.1.1 X.1.2.1 d_Model_fan_115 rfl (gl_at hl rfl) ?_
                            refine g_get X kc_Model mo1 6 (by decide) lk_Model_22 rfl d_Model_fan_116 ?_
                            refine lv_iload X.1.1 X.1.2.1 d_Model_fan_119 (gl_at hl rfl) ?_
                            refine g_iald X 0 ma16 rfl i (by omega) (by omega) d_Model_fan_121 ?_
                            refine g_top (nI ((kk i).length)) hy2 ?_
                            refine lv_imul X.1.1 X.1.2.1 d_Model_fan_122 ?_
                            refine g_top (nI (2 * ((kk i).length))) (pk_mul _ _) ?_
                            refine lv_iload_n X.1.1 X.1.2.1 d_Model_fan_123 rfl (gl_at hl rfl) ?_
                            refine gn_le X.1.1 X.1.2.1 (2 * ((kk i).length)) n0 (by omega) (by omega) d_Model_fan_124 rfl (fun hc124 => ?_) (fun hc124 => ?_)
                            · refine lv_iconst (v := nI 1) X.1.1 X.1.2.1 d_Model_fan_144 (by decide) ?_
                              refine lv_goto X.1.1 X.1.2.1 d_Model_fan_145 rfl ?_
                              refine g_ist X.1.1 X.1.2.1 hl 6 d_Model_fan_149 (Nat.le_of_ble_eq_true rfl) rfl (fun ls hl => ?_)
                              refine g_iinc X.1.1 X.1.2.1 (nI (i + 1)) hl 7 d_Model_fan_151 rfl (nI_1 _) rfl (fun ls hl => ?_)
                              refine lv_goto X.1.1 X.1.2.1 d_Model_fan_154 rfl ?_
                              exact ih91 (i + 1) 1 locs ls (by omega) (by omega) (by omega) trivial (by
                                rw [show i + 1 - 64 = (i - 64) + 1 by omega, d_fz_s, show 64 + (i - 64) = i by omega]
                                unfold d_gb
                                first
                                | (have e5 : f0 = 0 := by omega
                                   have e4 : d_fz (kk g) kk n0 (d_oc (kk k) n0) (i - 64) = false := by
                                     rw [Bool.eq_false_iff]
                                     intro h9
                                     have := hi91_3.mpr h9
                                     omega
                                   rw [e4]
                                   simp)
                                | (rw [hi91_3.mp (by omega), Bool.eq_false_iff.mpr hc111]
                                   simp)
                                | (rw [hi91_3.mp (by omega), hc111, decide_eq_false (show ¬ n0 < 2 * (kk i).length by omega)]
                                   simp)
                                | (rw [hi91_3.mp (by omega), hc111, decide_eq_true (show n0 < 2 * (kk i).length by omega), decide_eq_true hc141]
                                   simp)
                                | (rw [hi91_3.mp (by omega), hc111, decide_eq_true (show n0 < 2 * (kk i).length by omega), decide_eq_false hc141]
                                   simp)) hL hl
                            · refine lv_aload_n X.1.1 X.1.2.1 d_Model_fan_127 rfl (gl_at hl rfl) ?_
                              refine lv_iload X.1.1 X.1.2.1 d_Model_fan_128 (gl_at hl rfl) ?_
                              refine lv_iload_n X.1.1 X.1.2.1 d_Model_fan_130 rfl (gl_at hl rfl) ?_
                              refine g_cv (A := (fun _ => False)) X gWS_good mw_Model_174 kc_Model mo1 (c_Model_octet l D q H d w ar hR kk hk i (by omega) n0 (by omega)) (fun _ _ _ => trivial) gBlind.tt rfl rfl hl.1 (Nat.le_of_ble_eq_true rfl) rfl rfl ⟨by decide, by decide⟩ ⟨by decide, by decide⟩ d_Model_fan_131 (fun _ h => h.elim) hL (fun v20 H21 locs hp22 hL => ?_)
                              obtain ⟨rfl, hHe⟩ := hp22
                              rw [hHe]
                              refine lv_aload_n X.1.1 X.1.2.1 d_Model_fan_134 rfl (gl_at hl rfl) ?_
                              refine lv_iload X.1.1 X.1.2.1 d_Model_fan_135 (gl_at hl rfl) ?_
                              refine lv_iload_n X.1.1 X.1.2.1 d_Model_fan_137 rfl (gl_at hl rfl) ?_
                              refine g_cv (A := (fun _ => False)) X gWS_good mw_Model_174 kc_Model mo1 (c_Model_octet l D q H d w ar hR kk hk k (by omega) n0 (by omega)) (fun _ _ _ => trivial) gBlind.tt rfl rfl hl.1 (Nat.le_of_ble_eq_true rfl) rfl rfl ⟨by decide, by decide⟩ ⟨by decide, by decide⟩ d_Model_fan_138 (fun _ h => h.elim) hL (fun v23 H24 locs hp25 hL => ?_)
                              obtain ⟨rfl, hHe⟩ := hp25
                              rw [hHe]
                              have e1 := d_oc_lt hy4 n0
                              have e2 := d_oc_lt hx4 n0
                              refine gn_eq X.1.1 X.1.2.1 (d_oc (kk i) n0) (d_oc (kk k) n0) (by omega) (by omega) d_Model_fan_141 rfl (fun hc141 => ?_) (fun hc141 => ?_)
                              · refine lv_iconst (v := nI 0) X.1.1 X.1.2.1 d_Model_fan_148 (by decide) ?_
                                refine g_ist X.1.1 X.1.2.1 hl 6 d_Model_fan_149 (Nat.le_of_ble_eq_true rfl) rfl (fun ls hl => ?_)
                                refine g_iinc X.1.1 X.1.2.1 (nI (i + 1)) hl 7 d_Model_fan_151 rfl (nI_1 _) rfl (fun ls hl => ?_)
                                refine lv_goto X.1.1 X.1.2.1 d_Model_fan_154 rfl ?_
                                exact ih91 (i + 1) 0 locs ls (by omega) (by omega) (by omega) trivial (by
                                  rw [show i + 1 - 64 = (i - 64) + 1 by omega, d_fz_s, show 64 + (i - 64) = i by omega]
                                  unfold d_gb
                                  first
                                  | (have e5 : f0 = 0 := by omega
                                     have e4 : d_fz (kk g) kk n0 (d_oc (kk k) n0) (i - 64) = false := by
                                       rw [Bool.eq_false_iff]
                                       intro h9
                                       have := hi91_3.mpr h9
                                       omega
                                     rw [e4]
                                     simp)
                                  | (rw [hi91_3.mp (by omega), Bool.eq_false_iff.mpr hc111]
                                     simp)
                                  | (rw [hi91_3.mp (by omega), hc111, decide_eq_false (show ¬ n0 < 2 * (kk i).length by omega)]
                                     simp)
                                  | (rw [hi91_3.mp (by omega), hc111, decide_eq_true (show n0 < 2 * (kk i).length by omega), decide_eq_true hc141]
                                     simp)
                                  | (rw [hi91_3.mp (by omega), hc111, decide_eq_true (show n0 < 2 * (kk i).length by omega), decide_eq_false hc141]
                                     simp)) hL hl
                              · refine lv_iconst (v := nI 1) X.1.1 X.1.2.1 d_Model_fan_144 (by decide) ?_
                                refine lv_goto X.1.1 X.1.2.1 d_Model_fan_145 rfl ?_
                                refine g_ist X.1.1 X.1.2.1 hl 6 d_Model_fan_149 (Nat.le_of_ble_eq_true rfl) rfl (fun ls hl => ?_)
                                refine g_iinc X.1.1 X.1.2.1 (nI (i + 1)) hl 7 d_Model_fan_151 rfl (nI_1 _) rfl (fun ls hl => ?_)
                                refine lv_goto X.1.1 X.1.2.1 d_Model_fan_154 rfl ?_
                                exact ih91 (i + 1) 1 locs ls (by omega) (by omega) (by omega) trivial (by
                                  rw [show i + 1 - 64 = (i - 64) + 1 by omega, d_fz_s, show 64 + (i - 64) = i by omega]
                                  unfold d_gb
                                  first
                                  | (have e5 : f0 = 0 := by omega
                                     have e4 : d_fz (kk g) kk n0 (d_oc (kk k) n0) (i - 64) = false := by
                                       rw [Bool.eq_false_iff]
                                       intro h9
                                       have := hi91_3.mpr h9
                                       omega
                                     rw [e4]
                                     simp)
                                  | (rw [hi91_3.mp (by omega), Bool.eq_false_iff.mpr hc111]
                                     simp)
                                  | (rw [hi91_3.mp (by omega), hc111, decide_eq_false (show ¬ n0 < 2 * (kk i).length by omega)]
                                     simp)
                                  | (rw [hi91_3.mp (by omega), hc111, decide_eq_true (show n0 < 2 * (kk i).length by omega), decide_eq_true hc141]
                                     simp)
                                  | (rw [hi91_3.mp (by omega), hc111, decide_eq_true (show n0 < 2 * (kk i).length by omega), decide_eq_false hc141]
                                     simp)) hL hl
                  exact loop91 _ 64 1 locs ls (Nat.lt_succ_self _) (by omega) (by omega) trivial (by simp [d_fz]) hL hl
                · exact absurd hc78 hc59
              · refine lv_iconst (v := nI 1) X.1.1 X.1.2.1 d_Model_fan_62 (by decide) ?_
                refine lv_goto X.1.1 X.1.2.1 d_Model_fan_63 rfl ?_
                refine g_istn X.1.1 X.1.2.1 hl 3 d_Model_fan_67 rfl (Nat.le_of_ble_eq_true rfl) rfl (fun ls hl => ?_)
                refine lv_iconst (v := nI 2) X.1.1 X.1.2.1 d_Model_fan_68 (by decide) ?_
                refine lv_aload_n X.1.1 X.1.2.1 d_Model_fan_69 rfl (gl_at hl rfl) ?_
                refine g_get X kc_Model mo1 6 (by decide) lk_Model_22 rfl d_Model_fan_70 ?_
                refine lv_iload X.1.1 X.1.2.1 d_Model_fan_73 (gl_at hl rfl) ?_
                refine g_iald X 0 ma16 rfl k (by omega) (by omega) d_Model_fan_75 ?_
                refine g_top (nI ((kk k).length)) hx2 ?_
                refine lv_imul X.1.1 X.1.2.1 d_Model_fan_76 ?_
                refine g_top (nI (2 * ((kk k).length))) (pk_mul _ _) ?_
                refine lv_iload_n X.1.1 X.1.2.1 d_Model_fan_77 rfl (gl_at hl rfl) ?_
                refine gn_ne X.1.1 X.1.2.1 (2 * ((kk k).length)) n0 (by omega) (by omega) d_Model_fan_78 rfl (fun hc78 => ?_) (fun hc78 => ?_)
                · exact absurd hc59 hc78
                · refine lv_goto X.1.1 X.1.2.1 d_Model_fan_81 rfl ?_
                  refine g_iinc X.1.1 X.1.2.1 (nI (k + 1)) hl 5 d_Model_fan_172 rfl (nI_1 _) rfl (fun ls hl => ?_)
                  refine lv_goto X.1.1 X.1.2.1 d_Model_fan_175 rfl ?_
                  exact ih9 (k + 1) 1 z0 locs ls (by omega) (by omega) (by omega) (fun j h1 h2 h3 => by
                    by_cases e : j = k
                    · subst e
                      first
                      | exact hc31
                      | omega
                    · exact hi9_2 j h1 (by omega) h3) (by
                    have e9 : ¬ d_fr (kk g) kk n0 k = true := fun h9 => by
                      unfold d_fr at h9
                      simp [hc78] at h9
                    rw [v_cnt_s (by omega), if_neg e9]
                    exact hi9_3) (by
                    rw [show k + 1 - 64 = (k - 64) + 1 by omega, d_ens_s, show 64 + (k - 64) = k by omega]
                    have e6 : d_en (kk g) kk n0 k = true := by
                      unfold d_en
                      rw [hc31, decide_eq_true hc78]
                      rfl
                    rw [e6, Bool.or_true]
                    simp) hL hl
          · refine lv_iconst (v := nI 0) X.1.1 X.1.2.1 d_Model_fan_43 (by decide) ?_
            exact g_iret X B ⟨by
              unfold d_fan
              rw [if_pos (d_old_t hi9_0.1 (by omega) hc31)], rfl⟩ hL d_Model_fan_44 (by omega) (by omega)
        · replace hc31 := gz_f hc31
          refine lv_goto X.1.1 X.1.2.1 d_Model_fan_34 rfl ?_
          refine g_iinc X.1.1 X.1.2.1 (nI (k + 1)) hl 5 d_Model_fan_172 rfl (nI_1 _) rfl (fun ls hl => ?_)
          refine lv_goto X.1.1 X.1.2.1 d_Model_fan_175 rfl ?_
          exact ih9 (k + 1) t0 z0 locs ls (by omega) (by omega) (by omega) (fun j h1 h2 h3 => by
            by_cases e : j = k
            · subst e
              first
              | exact hc31
              | omega
            · exact hi9_2 j h1 (by omega) h3) (by
            have e9 : ¬ d_fr (kk g) kk n0 k = true := fun h9 => hc31 (Bool.and_eq_true_iff.mp (show (_ && _) = true from h9)).1
            rw [v_cnt_s (by omega), if_neg e9]
            exact hi9_3) (by
            rw [show k + 1 - 64 = (k - 64) + 1 by omega, d_ens_s, show 64 + (k - 64) = k by omega]
            have e6 : d_en (kk g) kk n0 k = false := by
              unfold d_en
              rw [Bool.eq_false_iff.mpr hc31]
              rfl
            rw [e6, Bool.or_false]
            exact hi9_4) hL hl
  exact loop9 _ 64 0 0 [] ls (Nat.lt_succ_self _) (by omega) (by omega) (fun j h1 h2 => by omega) rfl (by simp [d_ens]) (fun _ h => by cases h) hl

set_option maxHeartbeats 4000000 in
set_option maxRecDepth 100000 in
/-- inner -/
theorem c_Model_inner (l : Launch) (D : va_G) (q : Nat → ClassId) (H : Heap) (d : Nat) (w : Nat → Int32) (ar : Nat → Nat → Int32) (hR : dR D q H d w ar) (kk : Nat → List Nat) (hk : pK ar kk) (n chg : Nat → Nat) (hm : pM ar n chg) (x : Nat) (hx : x ≤ 4) : gC l y_Model_inner (Cond.code y_Model_inner b_Model_inner 7 (some .int) :: gWS) (gR 3 73 0 0) D CL (gY q) (fun _ => True) [.ref d, .int (nI x)] H (fun v1 H1 => v1 = some (.int (nI (d_inn kk (n 1) x (n 1)))) ∧ H1 = H) 0 0 (fun _ => False) := by
  refine gC.ofW R_Model "inner" (by decide) rfl rfl ?_
  intro p e s m below meth c hadm X hE hH B hne
  refine g_entry [some (.ref d), some (.int (nI x)), none, none, none, none, none] rfl rfl (Nat.le_of_ble_eq_true rfl) (fun ls hl => ?_)
  obtain ⟨hm1a, hm2, hm3⟩ := hm 1 (by decide)
  refine lv_iconst (v := nI 0) X.1.1 X.1.2.1 d_Model_inner_0 (by decide) ?_
  refine g_istn X.1.1 X.1.2.1 hl 2 d_Model_inner_1 rfl (Nat.le_of_ble_eq_true rfl) rfl (fun ls hl => ?_)
  refine lv_bipush (v := nI 64) X.1.1 X.1.2.1 d_Model_inner_2 (by decide) ?_
  refine g_istn X.1.1 X.1.2.1 hl 3 d_Model_inner_4 rfl (Nat.le_of_ble_eq_true rfl) rfl (fun ls hl => ?_)
  have loop5 : ∀ (fu : Nat) (g : Nat) (z0 : Nat) (locs : List Loc) (ls : Array Slot), 64 + n 1 - g < fu → (64 ≤ g ∧ g ≤ 64 + n 1) → (z0 = d_inn kk (n 1) x (g - 64)) → (∀ x ∈ locs, (fun _ => False) x.base) → gl ls [some (.ref d), some (.int (nI x)), some (.int (nI z0)), some (.int (nI g)), none, none, none] → W p l e (gR 3 73 0 0) s m ([.ref d, .int (nI x)] : List Value).toArray below meth c H locs 0 0 (gQ below ([.ref d, .int (nI x)] : List Value).toArray s (fun v1 H1 => v1 = some (.int (nI (d_inn kk (n 1) x (n 1)))) ∧ H1 = H) 0 0 (fun _ => False)) (F0 m 5 ls []) := by
    intro fu
    induction fu with
    | zero => intro g z0 locs ls hmu; omega
    | succ fu ih5 =>
      intro g z0 locs ls hmu5 hi5_0 hi5_1 hL hl
      have hz9 := d_inn_le (kk := kk) (n := n 1) (x := x) (fun a ha => (hk a ha).2.2.1) (g - 64) (by omega)
      refine lv_iload_n X.1.1 X.1.2.1 d_Model_inner_5 rfl (gl_at hl rfl) ?_
      refine lv_bipush (v := nI 64) X.1.1 X.1.2.1 d_Model_inner_6 (by decide) ?_
      refine lv_aload_n X.1.1 X.1.2.1 d_Model_inner_8 rfl (gl_at hl rfl) ?_
      have mo1 : va_at D CL (d, .inr (10, [.int (w 0), .ref (d + 1), .int (w 2), .ref (d + 2), .ref (d + 3), .ref (d + 4), .ref (d + 5), .ref (d + 6), .int (w 8), .ref (d + 7), .ref (d + 8), .ref (d + 9), .ref (d + 10), .ref (d + 11), .ref (d + 12), .ref (d + 13), .ref (d + 14), .ref (d + 15), .ref (d + 16), .ref (d + 17), .int (w 20), .ref (d + 18), .int (w 22), .ref (d + 19), .ref (d + 20), .ref (d + 21), .int (w 26), .int (w 27), .int (w 28), .ref (d + 22), .ref (d + 23), .ref (d + 24), .ref (d + 25), .ref (d + 26), .int (w 34), .ref (d + 27), .ref (d + 28), .int (w 37), .int (w 38)])) H := hR.1
      refine g_get X kc_Model mo1 3 (by decide) lk_Model_13 rfl d_Model_inner_9 ?_
      refine lv_iconst (v := nI 1) X.1.1 X.1.2.1 d_Model_inner_12 (by decide) ?_
      have ma2 : va_at D CL (d + 2, .inl (q 0, 3, .inl (ar 2))) H := hR.a2
      refine g_iald X 0 ma2 rfl 1 (by omega) (by omega) d_Model_inner_13 ?_
      refine g_top (nI (n 1)) hm1a ?_
      refine lv_iadd X.1.1 X.1.2.1 d_Model_inner_14 ?_
      refine g_top (nI (64 + (n 1))) (nI_add _ _) ?_
      refine gn_ge X.1.1 X.1.2.1 g (64 + (n 1)) (by omega) (by omega) d_Model_inner_15 rfl (fun hc15 => ?_) (fun hc15 => ?_)
      · refine lv_iload_n X.1.1 X.1.2.1 d_Model_inner_176 rfl (gl_at hl rfl) ?_
        exact g_iret X B ⟨by rw [hi5_1, show g - 64 = n 1 by omega], rfl⟩ hL d_Model_inner_177 (by omega) (by omega)
      · obtain ⟨hg1, hg2, hg3, hg4⟩ := hk g (by omega)
        refine lv_iconst (v := nI 0) X.1.1 X.1.2.1 d_Model_inner_18 (by decide) ?_
        refine g_ist X.1.1 X.1.2.1 hl 4 d_Model_inner_19 (Nat.le_of_ble_eq_true rfl) rfl (fun ls hl => ?_)
        have loop21 : ∀ (fu : Nat) (t : Nat) (y0 : Nat) (locs : List Loc) (ls : Array Slot), 2 * (kk g).length + 1 - t < fu → (t ≤ 2 * (kk g).length + 1) → (y0 = d_inn kk (n 1) x (g - 64) + v_cnt (fun t => d_cl x (d_fan kk (n 1) g t)) 0 t) → (∀ x ∈ locs, (fun _ => False) x.base) → gl ls [some (.ref d), some (.int (nI x)), some (.int (nI y0)), some (.int (nI g)), some (.int (nI t)), none, none] → W p l e (gR 3 73 0 0) s m ([.ref d, .int (nI x)] : List Value).toArray below meth c H locs 0 0 (gQ below ([.ref d, .int (nI x)] : List Value).toArray s (fun v1 H1 => v1 = some (.int (nI (d_inn kk (n 1) x (n 1)))) ∧ H1 = H) 0 0 (fun _ => False)) (F0 m 21 ls []) := by
          intro fu
          induction fu with
          | zero => intro t y0 locs ls hmu; omega
          | succ fu ih21 =>
            intro t y0 locs ls hmu21 hi21_0 hi21_1 hL hl
            have hy9 := v_cnt_le (fun t => d_cl x (d_fan kk (n 1) g t)) 0 t
            refine lv_iload X.1.1 X.1.2.1 d_Model_inner_21 (gl_at hl rfl) ?_
            refine lv_iconst (v := nI 2) X.1.1 X.1.2.1 d_Model_inner_23 (by decide) ?_
            refine lv_aload_n X.1.1 X.1.2.1 d_Model_inner_24 rfl (gl_at hl rfl) ?_
            refine g_get X kc_Model mo1 6 (by decide) lk_Model_22 rfl d_Model_inner_25 ?_
            refine lv_iload_n X.1.1 X.1.2.1 d_Model_inner_28 rfl (gl_at hl rfl) ?_
            have ma3 : va_at D CL (d + 5, .inl (q 0, 192, .inl (ar 5))) H := hR.a5
            refine g_iald X 0 ma3 rfl g (by omega) (by omega) d_Model_inner_29 ?_
            refine g_top (nI ((kk g).length)) hg2 ?_
            refine lv_imul X.1.1 X.1.2.1 d_Model_inner_30 ?_
            refine g_top (nI (2 * ((kk g).length))) (pk_mul _ _) ?_
            refine gn_gt X.1.1 X.1.2.1 t (2 * ((kk g).length)) (by omega) (by omega) d_Model_inner_31 rfl (fun hc31 => ?_) (fun hc31 => ?_)
            · refine g_iinc X.1.1 X.1.2.1 (nI (g + 1)) hl 3 d_Model_inner_170 rfl (nI_1 _) rfl (fun ls hl => ?_)
              refine lv_goto X.1.1 X.1.2.1 d_Model_inner_173 rfl ?_
              exact ih5 (g + 1) y0 locs ls (by omega) (by omega) (by
                rw [show g + 1 - 64 = (g - 64) + 1 by omega]
                show _ = d_inn kk (n 1) x (g - 64) + v_cnt (fun t => d_cl x (d_fan kk (n 1) (64 + (g - 64)) t)) 0 (2 * (kk (64 + (g - 64))).length + 1)
                rw [show 64 + (g - 64) = g by omega, show 2 * (kk g).length + 1 = t by omega]
                exact hi21_1) hL (gl_forget hl 4)
            · refine lv_aload_n X.1.1 X.1.2.1 d_Model_inner_34 rfl (gl_at hl rfl) ?_
              refine lv_iload_n X.1.1 X.1.2.1 d_Model_inner_35 rfl (gl_at hl rfl) ?_
              refine lv_iload X.1.1 X.1.2.1 d_Model_inner_36 (gl_at hl rfl) ?_
              refine g_cv (A := (fun _ => False)) X gWS_good mw_Model_181 kc_Model mo1 (c_Model_fan l D q H d w ar hR kk hk n chg hm g (by omega) (by omega) t (by omega)) (fun _ _ _ => trivial) gBlind.tt rfl rfl hl.1 (Nat.le_of_ble_eq_true rfl) rfl rfl ⟨by decide, by decide⟩ ⟨by decide, by decide⟩ d_Model_inner_38 (fun _ h => h.elim) hL (fun v4 H5 locs hp6 hL => ?_)
              obtain ⟨rfl, hHe⟩ := hp6
              rw [hHe]
              refine g_ist X.1.1 X.1.2.1 hl 5 d_Model_inner_41 (Nat.le_of_ble_eq_true rfl) rfl (fun ls hl => ?_)
              have hfl := d_fan_le (kk := kk) (m := n 1) (g := g) (n := t)
              rcases (show x = 0 ∨ x = 1 ∨ x = 2 ∨ x = 3 ∨ x = 4 by omega) with hxx | hxx | hxx | hxx | hxx
              · refine lv_iload_n X.1.1 X.1.2.1 d_Model_inner_43 rfl (gl_at hl rfl) ?_
                refine g_top (nI 0) (by rw [hxx]) ?_
                refine gn_ne0 X.1.1 X.1.2.1 0 (by omega) d_Model_inner_44 rfl (fun hc44 => ?_) (fun hc44 => ?_)
                · omega
                · refine lv_iload X.1.1 X.1.2.1 d_Model_inner_47 (gl_at hl rfl) ?_
                  refine gn_le0 X.1.1 X.1.2.1 (d_fan kk (n 1) g t) (by omega) d_Model_inner_49 rfl (fun hc49 => ?_) (fun hc49 => ?_)
                  · refine lv_iconst (v := nI 0) X.1.1 X.1.2.1 d_Model_inner_56 (by decide) ?_
                    refine lv_goto X.1.1 X.1.2.1 d_Model_inner_57 rfl ?_
                    refine g_ist X.1.1 X.1.2.1 hl 6 d_Model_inner_149 (Nat.le_of_ble_eq_true rfl) rfl (fun ls hl => ?_)
                    refine lv_iload_n X.1.1 X.1.2.1 d_Model_inner_151 rfl (gl_at hl rfl) ?_
                    refine lv_iload X.1.1 X.1.2.1 d_Model_inner_152 (gl_at hl rfl) ?_
                    refine gn_eq0 X.1.1 X.1.2.1 0 (by omega) d_Model_inner_154 rfl (fun hc154 => ?_) (fun hc154 => ?_)
                    · refine lv_iconst (v := nI 0) X.1.1 X.1.2.1 d_Model_inner_161 (by decide) ?_
                      refine lv_iadd X.1.1 X.1.2.1 d_Model_inner_162 ?_
                      refine g_top (nI (y0 + 0)) (nI_add _ _) ?_
                      refine g_istn X.1.1 X.1.2.1 hl 2 d_Model_inner_163 rfl (Nat.le_of_ble_eq_true rfl) rfl (fun ls hl => ?_)
                      refine g_iinc X.1.1 X.1.2.1 (nI (t + 1)) hl 4 d_Model_inner_164 rfl (nI_1 _) rfl (fun ls hl => ?_)
                      refine lv_goto X.1.1 X.1.2.1 d_Model_inner_167 rfl ?_
                      exact ih21 (t + 1) (y0 + 0) locs ls (by omega) (by omega) (by
                        have e4 : d_cl x (d_fan kk (n 1) g t) = false := by
                          rw [hxx]
                          first
                          | exact decide_eq_true (by omega)
                          | exact decide_eq_false (by omega)
                        have e5 : (if (fun t => d_cl x (d_fan kk (n 1) g t)) t = true then 1 else 0) = 0 := by
                          show (if d_cl x (d_fan kk (n 1) g t) = true then 1 else 0) = 0
                          rw [e4]
                          rfl
                        rw [v_cnt_s0, e5]
                        omega) hL (gl_forget (gl_forget hl 5) 6)
                    · omega
                  · refine lv_iconst (v := nI 1) X.1.1 X.1.2.1 d_Model_inner_52 (by decide) ?_
                    refine lv_goto X.1.1 X.1.2.1 d_Model_inner_53 rfl ?_
                    refine g_ist X.1.1 X.1.2.1 hl 6 d_Model_inner_149 (Nat.le_of_ble_eq_true rfl) rfl (fun ls hl => ?_)
                    refine lv_iload_n X.1.1 X.1.2.1 d_Model_inner_151 rfl (gl_at hl rfl) ?_
                    refine lv_iload X.1.1 X.1.2.1 d_Model_inner_152 (gl_at hl rfl) ?_
                    refine gn_eq0 X.1.1 X.1.2.1 1 (by omega) d_Model_inner_154 rfl (fun hc154 => ?_) (fun hc154 => ?_)
                    · omega
                    · refine lv_iconst (v := nI 1) X.1.1 X.1.2.1 d_Model_inner_157 (by decide) ?_
                      refine lv_goto X.1.1 X.1.2.1 d_Model_inner_158 rfl ?_
                      refine lv_iadd X.1.1 X.1.2.1 d_Model_inner_162 ?_
                      refine g_top (nI (y0 + 1)) (nI_add _ _) ?_
                      refine g_istn X.1.1 X.1.2.1 hl 2 d_Model_inner_163 rfl (Nat.le_of_ble_eq_true rfl) rfl (fun ls hl => ?_)
                      refine g_iinc X.1.1 X.1.2.1 (nI (t + 1)) hl 4 d_Model_inner_164 rfl (nI_1 _) rfl (fun ls hl => ?_)
                      refine lv_goto X.1.1 X.1.2.1 d_Model_inner_167 rfl ?_
                      exact ih21 (t + 1) (y0 + 1) locs ls (by omega) (by omega) (by
                        have e4 : d_cl x (d_fan kk (n 1) g t) = true := by
                          rw [hxx]
                          first
                          | exact decide_eq_true (by omega)
                          | exact decide_eq_false (by omega)
                        have e5 : (if (fun t => d_cl x (d_fan kk (n 1) g t)) t = true then 1 else 0) = 1 := by
                          show (if d_cl x (d_fan kk (n 1) g t) = true then 1 else 0) = 1
                          rw [e4]
                          rfl
                        rw [v_cnt_s0, e5]
                        omega) hL (gl_forget (gl_forget hl 5) 6)
              · refine lv_iload_n X.1.1 X.1.2.1 d_Model_inner_43 rfl (gl_at hl rfl) ?_
                refine g_top (nI 1) (by rw [hxx]) ?_
                refine gn_ne0 X.1.1 X.1.2.1 1 (by omega) d_Model_inner_44 rfl (fun hc44 => ?_) (fun hc44 => ?_)
                · refine lv_iload_n X.1.1 X.1.2.1 d_Model_inner_60 rfl (gl_at hl rfl) ?_
                  refine g_top (nI 1) (by rw [hxx]) ?_
                  refine lv_iconst (v := nI 1) X.1.1 X.1.2.1 d_Model_inner_61 (by decide) ?_
                  refine gn_ne X.1.1 X.1.2.1 1 1 (by omega) (by omega) d_Model_inner_62 rfl (fun hc62 => ?_) (fun hc62 => ?_)
                  · omega
                  · refine lv_iload X.1.1 X.1.2.1 d_Model_inner_65 (gl_at hl rfl) ?_
                    refine gn_le0 X.1.1 X.1.2.1 (d_fan kk (n 1) g t) (by omega) d_Model_inner_67 rfl (fun hc67 => ?_) (fun hc67 => ?_)
                    · refine lv_iconst (v := nI 0) X.1.1 X.1.2.1 d_Model_inner_80 (by decide) ?_
                      refine lv_goto X.1.1 X.1.2.1 d_Model_inner_81 rfl ?_
                      refine g_ist X.1.1 X.1.2.1 hl 6 d_Model_inner_149 (Nat.le_of_ble_eq_true rfl) rfl (fun ls hl => ?_)
                      refine lv_iload_n X.1.1 X.1.2.1 d_Model_inner_151 rfl (gl_at hl rfl) ?_
                      refine lv_iload X.1.1 X.1.2.1 d_Model_inner_152 (gl_at hl rfl) ?_
                      refine gn_eq0 X.1.1 X.1.2.1 0 (by omega) d_Model_inner_154 rfl (fun hc154 => ?_) (fun hc154 => ?_)
                      · refine lv_iconst (v := nI 0) X.1.1 X.1.2.1 d_Model_inner_161 (by decide) ?_
                        refine lv_iadd X.1.1 X.1.2.1 d_Model_inner_162 ?_
                        refine g_top (nI (y0 + 0)) (nI_add _ _) ?_
                        refine g_istn X.1.1 X.1.2.1 hl 2 d_Model_inner_163 rfl (Nat.le_of_ble_eq_true rfl) rfl (fun ls hl => ?_)
                        refine g_iinc X.1.1 X.1.2.1 (nI (t + 1)) hl 4 d_Model_inner_164 rfl (nI_1 _) rfl (fun ls hl => ?_)
                        refine lv_goto X.1.1 X.1.2.1 d_Model_inner_167 rfl ?_
                        exact ih21 (t + 1) (y0 + 0) locs ls (by omega) (by omega) (by
                          have e4 : d_cl x (d_fan kk (n 1) g t) = false := by
                            rw [hxx]
                            first
                            | exact decide_eq_true (by omega)
                            | exact decide_eq_false (by omega)
                          have e5 : (if (fun t => d_cl x (d_fan kk (n 1) g t)) t = true then 1 else 0) = 0 := by
                            show (if d_cl x (d_fan kk (n 1) g t) = true then 1 else 0) = 0
                            rw [e4]
                            rfl
                          rw [v_cnt_s0, e5]
                          omega) hL (gl_forget (gl_forget hl 5) 6)
                      · omega
                    · refine lv_iload X.1.1 X.1.2.1 d_Model_inner_70 (gl_at hl rfl) ?_
                      refine lv_iconst (v := nI 4) X.1.1 X.1.2.1 d_Model_inner_72 (by decide) ?_
                      refine gn_gt X.1.1 X.1.2.1 (d_fan kk (n 1) g t) 4 (by omega) (by omega) d_Model_inner_73 rfl (fun hc73 => ?_) (fun hc73 => ?_)
                      · refine lv_iconst (v := nI 0) X.1.1 X.1.2.1 d_Model_inner_80 (by decide) ?_
                        refine lv_goto X.1.1 X.1.2.1 d_Model_inner_81 rfl ?_
                        refine g_ist X.1.1 X.1.2.1 hl 6 d_Model_inner_149 (Nat.le_of_ble_eq_true rfl) rfl (fun ls hl => ?_)
                        refine lv_iload_n X.1.1 X.1.2.1 d_Model_inner_151 rfl (gl_at hl rfl) ?_
                        refine lv_iload X.1.1 X.1.2.1 d_Model_inner_152 (gl_at hl rfl) ?_
                        refine gn_eq0 X.1.1 X.1.2.1 0 (by omega) d_Model_inner_154 rfl (fun hc154 => ?_) (fun hc154 => ?_)
                        · refine lv_iconst (v := nI 0) X.1.1 X.1.2.1 d_Model_inner_161 (by decide) ?_
                          refine lv_iadd X.1.1 X.1.2.1 d_Model_inner_162 ?_
                          refine g_top (nI (y0 + 0)) (nI_add _ _) ?_
                          refine g_istn X.1.1 X.1.2.1 hl 2 d_Model_inner_163 rfl (Nat.le_of_ble_eq_true rfl) rfl (fun ls hl => ?_)
                          refine g_iinc X.1.1 X.1.2.1 (nI (t + 1)) hl 4 d_Model_inner_164 rfl (nI_1 _) rfl (fun ls hl => ?_)
                          refine lv_goto X.1.1 X.1.2.1 d_Model_inner_167 rfl ?_
                          exact ih21 (t + 1) (y0 + 0) locs ls (by omega) (by omega) (by
                            have e4 : d_cl x (d_fan kk (n 1) g t) = false := by
                              rw [hxx]
                              first
                              | exact decide_eq_true (by omega)
                              | exact decide_eq_false (by omega)
                            have e5 : (if (fun t => d_cl x (d_fan kk (n 1) g t)) t = true then 1 else 0) = 0 := by
                              show (if d_cl x (d_fan kk (n 1) g t) = true then 1 else 0) = 0
                              rw [e4]
                              rfl
                            rw [v_cnt_s0, e5]
                            omega) hL (gl_forget (gl_forget hl 5) 6)
                        · omega
                      · refine lv_iconst (v := nI 1) X.1.1 X.1.2.1 d_Model_inner_76 (by decide) ?_
                        refine lv_goto X.1.1 X.1.2.1 d_Model_inner_77 rfl ?_
                        refine g_ist X.1.1 X.1.2.1 hl 6 d_Model_inner_149 (Nat.le_of_ble_eq_true rfl) rfl (fun ls hl => ?_)
                        refine lv_iload_n X.1.1 X.1.2.1 d_Model_inner_151 rfl (gl_at hl rfl) ?_
                        refine lv_iload X.1.1 X.1.2.1 d_Model_inner_152 (gl_at hl rfl) ?_
                        refine gn_eq0 X.1.1 X.1.2.1 1 (by omega) d_Model_inner_154 rfl (fun hc154 => ?_) (fun hc154 => ?_)
                        · omega
                        · refine lv_iconst (v := nI 1) X.1.1 X.1.2.1 d_Model_inner_157 (by decide) ?_
                          refine lv_goto X.1.1 X.1.2.1 d_Model_inner_158 rfl ?_
                          refine lv_iadd X.1.1 X.1.2.1 d_Model_inner_162 ?_
                          refine g_top (nI (y0 + 1)) (nI_add _ _) ?_
                          refine g_istn X.1.1 X.1.2.1 hl 2 d_Model_inner_163 rfl (Nat.le_of_ble_eq_true rfl) rfl (fun ls hl => ?_)
                          refine g_iinc X.1.1 X.1.2.1 (nI (t + 1)) hl 4 d_Model_inner_164 rfl (nI_1 _) rfl (fun ls hl => ?_)
                          refine lv_goto X.1.1 X.1.2.1 d_Model_inner_167 rfl ?_
                          exact ih21 (t + 1) (y0 + 1) locs ls (by omega) (by omega) (by
                            have e4 : d_cl x (d_fan kk (n 1) g t) = true := by
                              rw [hxx]
                              first
                              | exact decide_eq_true (by omega)
                              | exact decide_eq_false (by omega)
                            have e5 : (if (fun t => d_cl x (d_fan kk (n 1) g t)) t = true then 1 else 0) = 1 := by
                              show (if d_cl x (d_fan kk (n 1) g t) = true then 1 else 0) = 1
                              rw [e4]
                              rfl
                            rw [v_cnt_s0, e5]
                            omega) hL (gl_forget (gl_forget hl 5) 6)
                · omega
              · refine lv_iload_n X.1.1 X.1.2.1 d_Model_inner_43 rfl (gl_at hl rfl) ?_
                refine g_top (nI 2) (by rw [hxx]) ?_
                refine gn_ne0 X.1.1 X.1.2.1 2 (by omega) d_Model_inner_44 rfl (fun hc44 => ?_) (fun hc44 => ?_)
                · refine lv_iload_n X.1.1 X.1.2.1 d_Model_inner_60 rfl (gl_at hl rfl) ?_
                  refine g_top (nI 2) (by rw [hxx]) ?_
                  refine lv_iconst (v := nI 1) X.1.1 X.1.2.1 d_Model_inner_61 (by decide) ?_
                  refine gn_ne X.1.1 X.1.2.1 2 1 (by omega) (by omega) d_Model_inner_62 rfl (fun hc62 => ?_) (fun hc62 => ?_)
                  · refine lv_iload_n X.1.1 X.1.2.1 d_Model_inner_84 rfl (gl_at hl rfl) ?_
                    refine g_top (nI 2) (by rw [hxx]) ?_
                    refine lv_iconst (v := nI 2) X.1.1 X.1.2.1 d_Model_inner_85 (by decide) ?_
                    refine gn_ne X.1.1 X.1.2.1 2 2 (by omega) (by omega) d_Model_inner_86 rfl (fun hc86 => ?_) (fun hc86 => ?_)
                    · omega
                    · refine lv_iload X.1.1 X.1.2.1 d_Model_inner_89 (gl_at hl rfl) ?_
                      refine lv_iconst (v := nI 4) X.1.1 X.1.2.1 d_Model_inner_91 (by decide) ?_
                      refine gn_le X.1.1 X.1.2.1 (d_fan kk (n 1) g t) 4 (by omega) (by omega) d_Model_inner_92 rfl (fun hc92 => ?_) (fun hc92 => ?_)
                      · refine lv_iconst (v := nI 0) X.1.1 X.1.2.1 d_Model_inner_106 (by decide) ?_
                        refine lv_goto X.1.1 X.1.2.1 d_Model_inner_107 rfl ?_
                        refine g_ist X.1.1 X.1.2.1 hl 6 d_Model_inner_149 (Nat.le_of_ble_eq_true rfl) rfl (fun ls hl => ?_)
                        refine lv_iload_n X.1.1 X.1.2.1 d_Model_inner_151 rfl (gl_at hl rfl) ?_
                        refine lv_iload X.1.1 X.1.2.1 d_Model_inner_152 (gl_at hl rfl) ?_
                        refine gn_eq0 X.1.1 X.1.2.1 0 (by omega) d_Model_inner_154 rfl (fun hc154 => ?_) (fun hc154 => ?_)
                        · refine lv_iconst (v := nI 0) X.1.1 X.1.2.1 d_Model_inner_161 (by decide) ?_
                          refine lv_iadd X.1.1 X.1.2.1 d_Model_inner_162 ?_
                          refine g_top (nI (y0 + 0)) (nI_add _ _) ?_
                          refine g_istn X.1.1 X.1.2.1 hl 2 d_Model_inner_163 rfl (Nat.le_of_ble_eq_true rfl) rfl (fun ls hl => ?_)
                          refine g_iinc X.1.1 X.1.2.1 (nI (t + 1)) hl 4 d_Model_inner_164 rfl (nI_1 _) rfl (fun ls hl => ?_)
                          refine lv_goto X.1.1 X.1.2.1 d_Model_inner_167 rfl ?_
                          exact ih21 (t + 1) (y0 + 0) locs ls (by omega) (by omega) (by
                            have e4 : d_cl x (d_fan kk (n 1) g t) = false := by
                              rw [hxx]
                              first
                              | exact decide_eq_true (by omega)
                              | exact decide_eq_false (by omega)
                            have e5 : (if (fun t => d_cl x (d_fan kk (n 1) g t)) t = true then 1 else 0) = 0 := by
                              show (if d_cl x (d_fan kk (n 1) g t) = true then 1 else 0) = 0
                              rw [e4]
                              rfl
                            rw [v_cnt_s0, e5]
                            omega) hL (gl_forget (gl_forget hl 5) 6)
                        · omega
                      · refine lv_iload X.1.1 X.1.2.1 d_Model_inner_95 (gl_at hl rfl) ?_
                        refine lv_bipush (v := nI 16) X.1.1 X.1.2.1 d_Model_inner_97 (by decide) ?_
                        refine gn_gt X.1.1 X.1.2.1 (d_fan kk (n 1) g t) 16 (by omega) (by omega) d_Model_inner_99 rfl (fun hc99 => ?_) (fun hc99 => ?_)
                        · refine lv_iconst (v := nI 0) X.1.1 X.1.2.1 d_Model_inner_106 (by decide) ?_
                          refine lv_goto X.1.1 X.1.2.1 d_Model_inner_107 rfl ?_
                          refine g_ist X.1.1 X.1.2.1 hl 6 d_Model_inner_149 (Nat.le_of_ble_eq_true rfl) rfl (fun ls hl => ?_)
                          refine lv_iload_n X.1.1 X.1.2.1 d_Model_inner_151 rfl (gl_at hl rfl) ?_
                          refine lv_iload X.1.1 X.1.2.1 d_Model_inner_152 (gl_at hl rfl) ?_
                          refine gn_eq0 X.1.1 X.1.2.1 0 (by omega) d_Model_inner_154 rfl (fun hc154 => ?_) (fun hc154 => ?_)
                          · refine lv_iconst (v := nI 0) X.1.1 X.1.2.1 d_Model_inner_161 (by decide) ?_
                            refine lv_iadd X.1.1 X.1.2.1 d_Model_inner_162 ?_
                            refine g_top (nI (y0 + 0)) (nI_add _ _) ?_
                            refine g_istn X.1.1 X.1.2.1 hl 2 d_Model_inner_163 rfl (Nat.le_of_ble_eq_true rfl) rfl (fun ls hl => ?_)
                            refine g_iinc X.1.1 X.1.2.1 (nI (t + 1)) hl 4 d_Model_inner_164 rfl (nI_1 _) rfl (fun ls hl => ?_)
                            refine lv_goto X.1.1 X.1.2.1 d_Model_inner_167 rfl ?_
                            exact ih21 (t + 1) (y0 + 0) locs ls (by omega) (by omega) (by
                              have e4 : d_cl x (d_fan kk (n 1) g t) = false := by
                                rw [hxx]
                                first
                                | exact decide_eq_true (by omega)
                                | exact decide_eq_false (by omega)
                              have e5 : (if (fun t => d_cl x (d_fan kk (n 1) g t)) t = true then 1 else 0) = 0 := by
                                show (if d_cl x (d_fan kk (n 1) g t) = true then 1 else 0) = 0
                                rw [e4]
                                rfl
                              rw [v_cnt_s0, e5]
                              omega) hL (gl_forget (gl_forget hl 5) 6)
                          · omega
                        · refine lv_iconst (v := nI 1) X.1.1 X.1.2.1 d_Model_inner_102 (by decide) ?_
                          refine lv_goto X.1.1 X.1.2.1 d_Model_inner_103 rfl ?_
                          refine g_ist X.1.1 X.1.2.1 hl 6 d_Model_inner_149 (Nat.le_of_ble_eq_true rfl) rfl (fun ls hl => ?_)
                          refine lv_iload_n X.1.1 X.1.2.1 d_Model_inner_151 rfl (gl_at hl rfl) ?_
                          refine lv_iload X.1.1 X.1.2.1 d_Model_inner_152 (gl_at hl rfl) ?_
                          refine gn_eq0 X.1.1 X.1.2.1 1 (by omega) d_Model_inner_154 rfl (fun hc154 => ?_) (fun hc154 => ?_)
                          · omega
                          · refine lv_iconst (v := nI 1) X.1.1 X.1.2.1 d_Model_inner_157 (by decide) ?_
                            refine lv_goto X.1.1 X.1.2.1 d_Model_inner_158 rfl ?_
                            refine lv_iadd X.1.1 X.1.2.1 d_Model_inner_162 ?_
                            refine g_top (nI (y0 + 1)) (nI_add _ _) ?_
                            refine g_istn X.1.1 X.1.2.1 hl 2 d_Model_inner_163 rfl (Nat.le_of_ble_eq_true rfl) rfl (fun ls hl => ?_)
                            refine g_iinc X.1.1 X.1.2.1 (nI (t + 1)) hl 4 d_Model_inner_164 rfl (nI_1 _) rfl (fun ls hl => ?_)
                            refine lv_goto X.1.1 X.1.2.1 d_Model_inner_167 rfl ?_
                            exact ih21 (t + 1) (y0 + 1) locs ls (by omega) (by omega) (by
                              have e4 : d_cl x (d_fan kk (n 1) g t) = true := by
                                rw [hxx]
                                first
                                | exact decide_eq_true (by omega)
                                | exact decide_eq_false (by omega)
                              have e5 : (if (fun t => d_cl x (d_fan kk (n 1) g t)) t = true then 1 else 0) = 1 := by
                                show (if d_cl x (d_fan kk (n 1) g t) = true then 1 else 0) = 1
                                rw [e4]
                                rfl
                              rw [v_cnt_s0, e5]
                              omega) hL (gl_forget (gl_forget hl 5) 6)
                  · omega
                · omega
              · refine lv_iload_n X.1.1 X.1.2.1 d_Model_inner_43 rfl (gl_at hl rfl) ?_
                refine g_top (nI 3) (by rw [hxx]) ?_
                refine gn_ne0 X.1.1 X.1.2.1 3 (by omega) d_Model_inner_44 rfl (fun hc44 => ?_) (fun hc44 => ?_)
                · refine lv_iload_n X.1.1 X.1.2.1 d_Model_inner_60 rfl (gl_at hl rfl) ?_
                  refine g_top (nI 3) (by rw [hxx]) ?_
                  refine lv_iconst (v := nI 1) X.1.1 X.1.2.1 d_Model_inner_61 (by decide) ?_
                  refine gn_ne X.1.1 X.1.2.1 3 1 (by omega) (by omega) d_Model_inner_62 rfl (fun hc62 => ?_) (fun hc62 => ?_)
                  · refine lv_iload_n X.1.1 X.1.2.1 d_Model_inner_84 rfl (gl_at hl rfl) ?_
                    refine g_top (nI 3) (by rw [hxx]) ?_
                    refine lv_iconst (v := nI 2) X.1.1 X.1.2.1 d_Model_inner_85 (by decide) ?_
                    refine gn_ne X.1.1 X.1.2.1 3 2 (by omega) (by omega) d_Model_inner_86 rfl (fun hc86 => ?_) (fun hc86 => ?_)
                    · refine lv_iload_n X.1.1 X.1.2.1 d_Model_inner_110 rfl (gl_at hl rfl) ?_
                      refine g_top (nI 3) (by rw [hxx]) ?_
                      refine lv_iconst (v := nI 3) X.1.1 X.1.2.1 d_Model_inner_111 (by decide) ?_
                      refine gn_ne X.1.1 X.1.2.1 3 3 (by omega) (by omega) d_Model_inner_112 rfl (fun hc112 => ?_) (fun hc112 => ?_)
                      · omega
                      · refine lv_iload X.1.1 X.1.2.1 d_Model_inner_115 (gl_at hl rfl) ?_
                        refine lv_bipush (v := nI 16) X.1.1 X.1.2.1 d_Model_inner_117 (by decide) ?_
                        refine gn_le X.1.1 X.1.2.1 (d_fan kk (n 1) g t) 16 (by omega) (by omega) d_Model_inner_119 rfl (fun hc119 => ?_) (fun hc119 => ?_)
                        · refine lv_iconst (v := nI 0) X.1.1 X.1.2.1 d_Model_inner_133 (by decide) ?_
                          refine lv_goto X.1.1 X.1.2.1 d_Model_inner_134 rfl ?_
                          refine g_ist X.1.1 X.1.2.1 hl 6 d_Model_inner_149 (Nat.le_of_ble_eq_true rfl) rfl (fun ls hl => ?_)
                          refine lv_iload_n X.1.1 X.1.2.1 d_Model_inner_151 rfl (gl_at hl rfl) ?_
                          refine lv_iload X.1.1 X.1.2.1 d_Model_inner_152 (gl_at hl rfl) ?_
                          refine gn_eq0 X.1.1 X.1.2.1 0 (by omega) d_Model_inner_154 rfl (fun hc154 => ?_) (fun hc154 => ?_)
                          · refine lv_iconst (v := nI 0) X.1.1 X.1.2.1 d_Model_inner_161 (by decide) ?_
                            refine lv_iadd X.1.1 X.1.2.1 d_Model_inner_162 ?_
                            refine g_top (nI (y0 + 0)) (nI_add _ _) ?_
                            refine g_istn X.1.1 X.1.2.1 hl 2 d_Model_inner_163 rfl (Nat.le_of_ble_eq_true rfl) rfl (fun ls hl => ?_)
                            refine g_iinc X.1.1 X.1.2.1 (nI (t + 1)) hl 4 d_Model_inner_164 rfl (nI_1 _) rfl (fun ls hl => ?_)
                            refine lv_goto X.1.1 X.1.2.1 d_Model_inner_167 rfl ?_
                            exact ih21 (t + 1) (y0 + 0) locs ls (by omega) (by omega) (by
                              have e4 : d_cl x (d_fan kk (n 1) g t) = false := by
                                rw [hxx]
                                first
                                | exact decide_eq_true (by omega)
                                | exact decide_eq_false (by omega)
                              have e5 : (if (fun t => d_cl x (d_fan kk (n 1) g t)) t = true then 1 else 0) = 0 := by
                                show (if d_cl x (d_fan kk (n 1) g t) = true then 1 else 0) = 0
                                rw [e4]
                                rfl
                              rw [v_cnt_s0, e5]
                              omega) hL (gl_forget (gl_forget hl 5) 6)
                          · omega
                        · refine lv_iload X.1.1 X.1.2.1 d_Model_inner_122 (gl_at hl rfl) ?_
                          refine lv_bipush (v := nI 48) X.1.1 X.1.2.1 d_Model_inner_124 (by decide) ?_
                          refine gn_gt X.1.1 X.1.2.1 (d_fan kk (n 1) g t) 48 (by omega) (by omega) d_Model_inner_126 rfl (fun hc126 => ?_) (fun hc126 => ?_)
                          · refine lv_iconst (v := nI 0) X.1.1 X.1.2.1 d_Model_inner_133 (by decide) ?_
                            refine lv_goto X.1.1 X.1.2.1 d_Model_inner_134 rfl ?_
                            refine g_ist X.1.1 X.1.2.1 hl 6 d_Model_inner_149 (Nat.le_of_ble_eq_true rfl) rfl (fun ls hl => ?_)
                            refine lv_iload_n X.1.1 X.1.2.1 d_Model_inner_151 rfl (gl_at hl rfl) ?_
                            refine lv_iload X.1.1 X.1.2.1 d_Model_inner_152 (gl_at hl rfl) ?_
                            refine gn_eq0 X.1.1 X.1.2.1 0 (by omega) d_Model_inner_154 rfl (fun hc154 => ?_) (fun hc154 => ?_)
                            · refine lv_iconst (v := nI 0) X.1.1 X.1.2.1 d_Model_inner_161 (by decide) ?_
                              refine lv_iadd X.1.1 X.1.2.1 d_Model_inner_162 ?_
                              refine g_top (nI (y0 + 0)) (nI_add _ _) ?_
                              refine g_istn X.1.1 X.1.2.1 hl 2 d_Model_inner_163 rfl (Nat.le_of_ble_eq_true rfl) rfl (fun ls hl => ?_)
                              refine g_iinc X.1.1 X.1.2.1 (nI (t + 1)) hl 4 d_Model_inner_164 rfl (nI_1 _) rfl (fun ls hl => ?_)
                              refine lv_goto X.1.1 X.1.2.1 d_Model_inner_167 rfl ?_
                              exact ih21 (t + 1) (y0 + 0) locs ls (by omega) (by omega) (by
                                have e4 : d_cl x (d_fan kk (n 1) g t) = false := by
                                  rw [hxx]
                                  first
                                  | exact decide_eq_true (by omega)
                                  | exact decide_eq_false (by omega)
                                have e5 : (if (fun t => d_cl x (d_fan kk (n 1) g t)) t = true then 1 else 0) = 0 := by
                                  show (if d_cl x (d_fan kk (n 1) g t) = true then 1 else 0) = 0
                                  rw [e4]
                                  rfl
                                rw [v_cnt_s0, e5]
                                omega) hL (gl_forget (gl_forget hl 5) 6)
                            · omega
                          · refine lv_iconst (v := nI 1) X.1.1 X.1.2.1 d_Model_inner_129 (by decide) ?_
                            refine lv_goto X.1.1 X.1.2.1 d_Model_inner_130 rfl ?_
                            refine g_ist X.1.1 X.1.2.1 hl 6 d_Model_inner_149 (Nat.le_of_ble_eq_true rfl) rfl (fun ls hl => ?_)
                            refine lv_iload_n X.1.1 X.1.2.1 d_Model_inner_151 rfl (gl_at hl rfl) ?_
                            refine lv_iload X.1.1 X.1.2.1 d_Model_inner_152 (gl_at hl rfl) ?_
                            refine gn_eq0 X.1.1 X.1.2.1 1 (by omega) d_Model_inner_154 rfl (fun hc154 => ?_) (fun hc154 => ?_)
                            · omega
                            · refine lv_iconst (v := nI 1) X.1.1 X.1.2.1 d_Model_inner_157 (by decide) ?_
                              refine lv_goto X.1.1 X.1.2.1 d_Model_inner_158 rfl ?_
                              refine lv_iadd X.1.1 X.1.2.1 d_Model_inner_162 ?_
                              refine g_top (nI (y0 + 1)) (nI_add _ _) ?_
                              refine g_istn X.1.1 X.1.2.1 hl 2 d_Model_inner_163 rfl (Nat.le_of_ble_eq_true rfl) rfl (fun ls hl => ?_)
                              refine g_iinc X.1.1 X.1.2.1 (nI (t + 1)) hl 4 d_Model_inner_164 rfl (nI_1 _) rfl (fun ls hl => ?_)
                              refine lv_goto X.1.1 X.1.2.1 d_Model_inner_167 rfl ?_
                              exact ih21 (t + 1) (y0 + 1) locs ls (by omega) (by omega) (by
                                have e4 : d_cl x (d_fan kk (n 1) g t) = true := by
                                  rw [hxx]
                                  first
                                  | exact decide_eq_true (by omega)
                                  | exact decide_eq_false (by omega)
                                have e5 : (if (fun t => d_cl x (d_fan kk (n 1) g t)) t = true then 1 else 0) = 1 := by
                                  show (if d_cl x (d_fan kk (n 1) g t) = true then 1 else 0) = 1
                                  rw [e4]
                                  rfl
                                rw [v_cnt_s0, e5]
                                omega) hL (gl_forget (gl_forget hl 5) 6)
                    · omega
                  · omega
                · omega
              · refine lv_iload_n X.1.1 X.1.2.1 d_Model_inner_43 rfl (gl_at hl rfl) ?_
                refine g_top (nI 4) (by rw [hxx]) ?_
                refine gn_ne0 X.1.1 X.1.2.1 4 (by omega) d_Model_inner_44 rfl (fun hc44 => ?_) (fun hc44 => ?_)
                · refine lv_iload_n X.1.1 X.1.2.1 d_Model_inner_60 rfl (gl_at hl rfl) ?_
                  refine g_top (nI 4) (by rw [hxx]) ?_
                  refine lv_iconst (v := nI 1) X.1.1 X.1.2.1 d_Model_inner_61 (by decide) ?_
                  refine gn_ne X.1.1 X.1.2.1 4 1 (by omega) (by omega) d_Model_inner_62 rfl (fun hc62 => ?_) (fun hc62 => ?_)
                  · refine lv_iload_n X.1.1 X.1.2.1 d_Model_inner_84 rfl (gl_at hl rfl) ?_
                    refine g_top (nI 4) (by rw [hxx]) ?_
                    refine lv_iconst (v := nI 2) X.1.1 X.1.2.1 d_Model_inner_85 (by decide) ?_
                    refine gn_ne X.1.1 X.1.2.1 4 2 (by omega) (by omega) d_Model_inner_86 rfl (fun hc86 => ?_) (fun hc86 => ?_)
                    · refine lv_iload_n X.1.1 X.1.2.1 d_Model_inner_110 rfl (gl_at hl rfl) ?_
                      refine g_top (nI 4) (by rw [hxx]) ?_
                      refine lv_iconst (v := nI 3) X.1.1 X.1.2.1 d_Model_inner_111 (by decide) ?_
                      refine gn_ne X.1.1 X.1.2.1 4 3 (by omega) (by omega) d_Model_inner_112 rfl (fun hc112 => ?_) (fun hc112 => ?_)
                      · refine lv_iload X.1.1 X.1.2.1 d_Model_inner_137 (gl_at hl rfl) ?_
                        refine lv_bipush (v := nI 48) X.1.1 X.1.2.1 d_Model_inner_139 (by decide) ?_
                        refine gn_le X.1.1 X.1.2.1 (d_fan kk (n 1) g t) 48 (by omega) (by omega) d_Model_inner_141 rfl (fun hc141 => ?_) (fun hc141 => ?_)
                        · refine lv_iconst (v := nI 0) X.1.1 X.1.2.1 d_Model_inner_148 (by decide) ?_
                          refine g_ist X.1.1 X.1.2.1 hl 6 d_Model_inner_149 (Nat.le_of_ble_eq_true rfl) rfl (fun ls hl => ?_)
                          refine lv_iload_n X.1.1 X.1.2.1 d_Model_inner_151 rfl (gl_at hl rfl) ?_
                          refine lv_iload X.1.1 X.1.2.1 d_Model_inner_152 (gl_at hl rfl) ?_
                          refine gn_eq0 X.1.1 X.1.2.1 0 (by omega) d_Model_inner_154 rfl (fun hc154 => ?_) (fun hc154 => ?_)
                          · refine lv_iconst (v := nI 0) X.1.1 X.1.2.1 d_Model_inner_161 (by decide) ?_
                            refine lv_iadd X.1.1 X.1.2.1 d_Model_inner_162 ?_
                            refine g_top (nI (y0 + 0)) (nI_add _ _) ?_
                            refine g_istn X.1.1 X.1.2.1 hl 2 d_Model_inner_163 rfl (Nat.le_of_ble_eq_true rfl) rfl (fun ls hl => ?_)
                            refine g_iinc X.1.1 X.1.2.1 (nI (t + 1)) hl 4 d_Model_inner_164 rfl (nI_1 _) rfl (fun ls hl => ?_)
                            refine lv_goto X.1.1 X.1.2.1 d_Model_inner_167 rfl ?_
                            exact ih21 (t + 1) (y0 + 0) locs ls (by omega) (by omega) (by
                              have e4 : d_cl x (d_fan kk (n 1) g t) = false := by
                                rw [hxx]
                                first
                                | exact decide_eq_true (by omega)
                                | exact decide_eq_false (by omega)
                              have e5 : (if (fun t => d_cl x (d_fan kk (n 1) g t)) t = true then 1 else 0) = 0 := by
                                show (if d_cl x (d_fan kk (n 1) g t) = true then 1 else 0) = 0
                                rw [e4]
                                rfl
                              rw [v_cnt_s0, e5]
                              omega) hL (gl_forget (gl_forget hl 5) 6)
                          · omega
                        · refine lv_iconst (v := nI 1) X.1.1 X.1.2.1 d_Model_inner_144 (by decide) ?_
                          refine lv_goto X.1.1 X.1.2.1 d_Model_inner_145 rfl ?_
                          refine g_ist X.1.1 X.1.2.1 hl 6 d_Model_inner_149 (Nat.le_of_ble_eq_true rfl) rfl (fun ls hl => ?_)
                          refine lv_iload_n X.1.1 X.1.2.1 d_Model_inner_151 rfl (gl_at hl rfl) ?_
                          refine lv_iload X.1.1 X.1.2.1 d_Model_inner_152 (gl_at hl rfl) ?_
                          refine gn_eq0 X.1.1 X.1.2.1 1 (by omega) d_Model_inner_154 rfl (fun hc154 => ?_) (fun hc154 => ?_)
                          · omega
                          · refine lv_iconst (v := nI 1) X.1.1 X.1.2.1 d_Model_inner_157 (by decide) ?_
                            refine lv_goto X.1.1 X.1.2.1 d_Model_inner_158 rfl ?_
                            refine lv_iadd X.1.1 X.1.2.1 d_Model_inner_162 ?_
                            refine g_top (nI (y0 + 1)) (nI_add _ _) ?_
                            refine g_istn X.1.1 X.1.2.1 hl 2 d_Model_inner_163 rfl (Nat.le_of_ble_eq_true rfl) rfl (fun ls hl => ?_)
                            refine g_iinc X.1.1 X.1.2.1 (nI (t + 1)) hl 4 d_Model_inner_164 rfl (nI_1 _) rfl (fun ls hl => ?_)
                            refine lv_goto X.1.1 X.1.2.1 d_Model_inner_167 rfl ?_
                            exact ih21 (t + 1) (y0 + 1) locs ls (by omega) (by omega) (by
                              have e4 : d_cl x (d_fan kk (n 1) g t) = true := by
                                rw [hxx]
                                first
                                | exact decide_eq_true (by omega)
                                | exact decide_eq_false (by omega)
                              have e5 : (if (fun t => d_cl x (d_fan kk (n 1) g t)) t = true then 1 else 0) = 1 := by
                                show (if d_cl x (d_fan kk (n 1) g t) = true then 1 else 0) = 1
                                rw [e4]
                                rfl
                              rw [v_cnt_s0, e5]
                              omega) hL (gl_forget (gl_forget hl 5) 6)
                      · omega
                    · omega
                  · omega
                · omega
        exact loop21 _ 0 z0 locs ls (Nat.lt_succ_self _) (by omega) (by rw [← hi5_1]; rfl) hL hl
  exact loop5 _ 64 0 [] ls (Nat.lt_succ_self _) (by omega) rfl (fun _ h => by cases h) hl

set_option maxHeartbeats 4000000 in
set_option maxRecDepth 100000 in
/-- bit -/
theorem c_Model_bit (l : Launch) (D : va_G) (q : Nat → ClassId) (H : Heap) (d : Nat) (w : Nat → Int32) (ar : Nat → Nat → Int32) (hR : dR D q H d w ar) (kk : Nat → List Nat) (hk : pK ar kk) (j : Nat) (hj : j < 192) (i : Nat) (hi : i < 2 ^ 31) : gC l y_Model_bit (Cond.code y_Model_bit b_Model_bit 4 (some .int) :: gWS) (gR 0 0 0 0) D CL (gY q) (fun _ => True) [.ref d, .int (nI j), .int (nI i)] H (fun v1 H1 => v1 = some (.int (nI (d_bt (kk j) i))) ∧ H1 = H) 0 0 (fun _ => False) := by
  refine gC.ofW R_Model "bit" (by decide) rfl rfl ?_
  intro p e s m below meth c hadm X hE hH B hne
  refine g_entry [some (.ref d), some (.int (nI j)), some (.int (nI i)), none] rfl rfl (Nat.le_of_ble_eq_true rfl) (fun ls hl => ?_)
  obtain ⟨hk1, hk2, hk3, hk4⟩ := hk j hj
  have e1 := t_lt hk4 (i / 17)
  refine lv_iload_n X.1.1 X.1.2.1 d_Model_bit_0 rfl (gl_at hl rfl) ?_
  refine lv_bipush (v := nI 17) X.1.1 X.1.2.1 d_Model_bit_1 (by decide) ?_
  refine lv_idiv X.1.1 X.1.2.1 d_Model_bit_3 (by decide) ?_
  refine g_top (nI (i / 17)) (pk_div (by omega) (by decide) (by decide)) ?_
  refine g_istn X.1.1 X.1.2.1 hl 3 d_Model_bit_4 rfl (Nat.le_of_ble_eq_true rfl) rfl (fun ls hl => ?_)
  refine lv_iload_n X.1.1 X.1.2.1 d_Model_bit_5 rfl (gl_at hl rfl) ?_
  refine lv_aload_n X.1.1 X.1.2.1 d_Model_bit_6 rfl (gl_at hl rfl) ?_
  have mo1 : va_at D CL (d, .inr (10, [.int (w 0), .ref (d + 1), .int (w 2), .ref (d + 2), .ref (d + 3), .ref (d + 4), .ref (d + 5), .ref (d + 6), .int (w 8), .ref (d + 7), .ref (d + 8), .ref (d + 9), .ref (d + 10), .ref (d + 11), .ref (d + 12), .ref (d + 13), .ref (d + 14), .ref (d + 15), .ref (d + 16), .ref (d + 17), .int (w 20), .ref (d + 18), .int (w 22), .ref (d + 19), .ref (d + 20), .ref (d + 21), .int (w 26), .int (w 27), .int (w 28), .ref (d + 22), .ref (d + 23), .ref (d + 24), .ref (d + 25), .ref (d + 26), .int (w 34), .ref (d + 27), .ref (d + 28), .int (w 37), .int (w 38)])) H := hR.1
  refine g_get X kc_Model mo1 6 (by decide) lk_Model_22 rfl d_Model_bit_7 ?_
  refine lv_iload_n X.1.1 X.1.2.1 d_Model_bit_10 rfl (gl_at hl rfl) ?_
  have ma2 : va_at D CL (d + 5, .inl (q 0, 192, .inl (ar 5))) H := hR.a5
  refine g_iald X 0 ma2 rfl j (by omega) (by omega) d_Model_bit_11 ?_
  refine g_top (nI ((kk j).length)) hk2 ?_
  refine gn_lt X.1.1 X.1.2.1 (i / 17) ((kk j).length) (by omega) (by omega) d_Model_bit_12 rfl (fun hc12 => ?_) (fun hc12 => ?_)
  · refine lv_iload_n X.1.1 X.1.2.1 d_Model_bit_19 rfl (gl_at hl rfl) ?_
    refine lv_bipush (v := nI 17) X.1.1 X.1.2.1 d_Model_bit_20 (by decide) ?_
    refine lv_irem X.1.1 X.1.2.1 d_Model_bit_22 (by decide) ?_
    refine g_top (nI (i % 17)) (pk_rem (by omega) (by decide) (by decide)) ?_
    refine gn_ne0 X.1.1 X.1.2.1 (i % 17) (by omega) d_Model_bit_23 rfl (fun hc23 => ?_) (fun hc23 => ?_)
    · refine lv_aload_n X.1.1 X.1.2.1 d_Model_bit_30 rfl (gl_at hl rfl) ?_
      refine g_get X kc_Model mo1 5 (by decide) lk_Model_19 rfl d_Model_bit_31 ?_
      refine lv_bipush (v := nI 8) X.1.1 X.1.2.1 d_Model_bit_34 (by decide) ?_
      refine lv_iload_n X.1.1 X.1.2.1 d_Model_bit_36 rfl (gl_at hl rfl) ?_
      refine lv_imul X.1.1 X.1.2.1 d_Model_bit_37 ?_
      refine g_top (nI (8 * j)) (pk_mul _ _) ?_
      refine lv_iload_n X.1.1 X.1.2.1 d_Model_bit_38 rfl (gl_at hl rfl) ?_
      refine lv_iadd X.1.1 X.1.2.1 d_Model_bit_39 ?_
      refine g_top (nI ((8 * j) + (i / 17))) (nI_add _ _) ?_
      have ma3 : va_at D CL (d + 4, .inl (q 0, 1536, .inl (ar 4))) H := hR.a4
      refine g_iald X 0 ma3 rfl ((8 * j) + (i / 17)) (by omega) (by omega) d_Model_bit_40 ?_
      refine g_top (nI ((kk j).getD (i / 17) 0)) (hk1 (i / 17) (by omega)) ?_
      refine lv_bipush (v := nI 16) X.1.1 X.1.2.1 d_Model_bit_41 (by decide) ?_
      refine lv_iload_n X.1.1 X.1.2.1 d_Model_bit_43 rfl (gl_at hl rfl) ?_
      refine lv_bipush (v := nI 17) X.1.1 X.1.2.1 d_Model_bit_44 (by decide) ?_
      refine lv_irem X.1.1 X.1.2.1 d_Model_bit_46 (by decide) ?_
      refine g_top (nI (i % 17)) (pk_rem (by omega) (by decide) (by decide)) ?_
      refine lv_isub X.1.1 X.1.2.1 d_Model_bit_47 ?_
      refine g_top (nI (16 - (i % 17))) (pk_sub (by omega)) ?_
      refine lv_ishr X.1.1 X.1.2.1 d_Model_bit_48 ?_
      have e2 := Nat.div_le_self ((kk j).getD (i / 17) 0) (2 ^ (16 - i % 17))
      refine g_top (nI ((kk j).getD (i / 17) 0 / 2 ^ (16 - i % 17))) (ex_shr (a := (kk j).getD (i / 17) 0) (s := 16 - i % 17) (by omega) (by omega)) ?_
      refine lv_iconst (v := nI 1) X.1.1 X.1.2.1 d_Model_bit_49 (by decide) ?_
      refine lv_iand X.1.1 X.1.2.1 d_Model_bit_50 ?_
      refine g_top (nI ((kk j).getD (i / 17) 0 / 2 ^ (16 - i % 17) % 2)) (pk_andN (by omega) 1 (by decide)) ?_
      exact g_iret X B ⟨by
        unfold d_bt
        rw [if_neg (by omega), if_neg hc23], rfl⟩ (fun _ h => by cases h) d_Model_bit_51 (by omega) (by omega)
    · refine lv_iconst (v := nI 1) X.1.1 X.1.2.1 d_Model_bit_26 (by decide) ?_
      refine lv_goto X.1.1 X.1.2.1 d_Model_bit_27 rfl ?_
      exact g_iret X B ⟨by
        unfold d_bt
        rw [if_neg (by omega), if_pos hc23], rfl⟩ (fun _ h => by cases h) d_Model_bit_51 (by omega) (by omega)
  · refine lv_iconst (v := nI 0) X.1.1 X.1.2.1 d_Model_bit_15 (by decide) ?_
    refine lv_goto X.1.1 X.1.2.1 d_Model_bit_16 rfl ?_
    exact g_iret X B ⟨by
      unfold d_bt
      rw [if_pos (by omega)], rfl⟩ (fun _ h => by cases h) d_Model_bit_51 (by omega) (by omega)

/-- whether one of the first m keys first differs from key g at bit x -/
def d_hs (kk : Nat → List Nat) (g x : Nat) : Nat → Bool
  | 0 => false
  | m + 1 => d_hs kk g x m || (!decide (m = g) && decide (e_fdb (kk g) (kk m) = x))

set_option maxHeartbeats 4000000 in
set_option maxRecDepth 100000 in
/-- depth -/
theorem c_Model_depth (l : Launch) (D : va_G) (q : Nat → ClassId) (H : Heap) (d : Nat) (w : Nat → Int32) (ar : Nat → Nat → Int32) (hR : dR D q H d w ar) (kk : Nat → List Nat) (hk : pK ar kk) (n chg : Nat → Nat) (hm : pM ar n chg) (g : Nat) (hg : g < n 0) (hdi : ∀ k, k < n 0 → k ≠ g → kk k ≠ kk g) : gC l y_Model_depth (Cond.code y_Model_depth b_Model_depth 4 (some .int) :: gWS) (gR 1 23 0 0) D CL (gY q) (fun _ => True) [.ref d, .int (nI g)] H (fun v1 H1 => ∃ F : Nat → Int32, (v1 = some (.int (nI (v_cnt (fun x => d_hs kk g x (n 0)) 0 140)))) ∧ dR D q H1 d w (va_up ar 18 F) ∧ H1.size = H.size ∧ ∀ p : Nat, (p < d ∨ d + 28 < p) → H1[p]? = H[p]?) 0 0 (fun p => d ≤ p ∧ p ≤ d + 28) := by
  refine gC.ofW R_Model "depth" (by decide) rfl rfl ?_
  intro p e s m below meth c hadm X hE hH B hne
  refine g_entry [some (.ref d), some (.int (nI g)), none, none] rfl rfl (Nat.le_of_ble_eq_true rfl) (fun ls hl => ?_)
  obtain ⟨hm1a, hm2, hm3⟩ := hm 0 (by decide)
  obtain ⟨hg1, hg2, hg3, hg4⟩ := hk g (by omega)
  refine lv_iconst (v := nI 0) X.1.1 X.1.2.1 d_Model_depth_0 (by decide) ?_
  refine g_istn X.1.1 X.1.2.1 hl 2 d_Model_depth_1 rfl (Nat.le_of_ble_eq_true rfl) rfl (fun ls hl => ?_)
  have loop2 : ∀ (fu : Nat) (i : Nat) (E : Nat → Int32) (Hn : Heap) (locs : List Loc) (ls : Array Slot), 140 - i < fu → (i ≤ 140) → (∀ x, x < i → E x = nI 0) → (dR D q Hn d w (va_up ar 18 E)) → (Hn.size = H.size) → (∀ p : Nat, (p < d ∨ d + 28 < p) → Hn[p]? = H[p]?) → (∀ x ∈ locs, (fun p => d ≤ p ∧ p ≤ d + 28) x.base) → gl ls [some (.ref d), some (.int (nI g)), some (.int (nI i)), none] → W p l e (gR 1 23 0 0) s m ([.ref d, .int (nI g)] : List Value).toArray below meth c Hn locs 0 0 (gQ below ([.ref d, .int (nI g)] : List Value).toArray s (fun v1 H1 => ∃ F : Nat → Int32, (v1 = some (.int (nI (v_cnt (fun x => d_hs kk g x (n 0)) 0 140)))) ∧ dR D q H1 d w (va_up ar 18 F) ∧ H1.size = H.size ∧ ∀ p : Nat, (p < d ∨ d + 28 < p) → H1[p]? = H[p]?) 0 0 (fun p => d ≤ p ∧ p ≤ d + 28)) (F0 m 2 ls []) := by
    intro fu
    induction fu with
    | zero => intro i E Hn locs ls hmu; omega
    | succ fu ih2 =>
      intro i E Hn locs ls hmu2 hi2_0 hi2_1 hRl hzl frl hL hl
      refine lv_iload_n X.1.1 X.1.2.1 d_Model_depth_2 rfl (gl_at hl rfl) ?_
      refine lv_sipush (v := nI 140) X.1.1 X.1.2.1 d_Model_depth_3 (by decide) ?_
      refine gn_ge X.1.1 X.1.2.1 i 140 (by omega) (by omega) d_Model_depth_6 rfl (fun hc6 => ?_) (fun hc6 => ?_)
      · refine lv_iconst (v := nI 0) X.1.1 X.1.2.1 d_Model_depth_22 (by decide) ?_
        refine g_istn X.1.1 X.1.2.1 hl 2 d_Model_depth_23 rfl (Nat.le_of_ble_eq_true rfl) rfl (fun ls hl => ?_)
        have loop24 : ∀ (fu : Nat) (k : Nat) (F : Nat → Int32) (Hn : Heap) (locs : List Loc) (ls : Array Slot), n 0 - k < fu → (k ≤ n 0) → (∀ x, x < 140 → F x = nI (if d_hs kk g x k = true then 1 else 0)) → (dR D q Hn d w (va_up ar 18 F)) → (Hn.size = H.size) → (∀ p : Nat, (p < d ∨ d + 28 < p) → Hn[p]? = H[p]?) → (∀ x ∈ locs, (fun p => d ≤ p ∧ p ≤ d + 28) x.base) → gl ls [some (.ref d), some (.int (nI g)), some (.int (nI k)), none] → W p l e (gR 1 23 0 0) s m ([.ref d, .int (nI g)] : List Value).toArray below meth c Hn locs 0 0 (gQ below ([.ref d, .int (nI g)] : List Value).toArray s (fun v1 H1 => ∃ F : Nat → Int32, (v1 = some (.int (nI (v_cnt (fun x => d_hs kk g x (n 0)) 0 140)))) ∧ dR D q H1 d w (va_up ar 18 F) ∧ H1.size = H.size ∧ ∀ p : Nat, (p < d ∨ d + 28 < p) → H1[p]? = H[p]?) 0 0 (fun p => d ≤ p ∧ p ≤ d + 28)) (F0 m 24 ls []) := by
          intro fu
          induction fu with
          | zero => intro k F Hn locs ls hmu; omega
          | succ fu ih24 =>
            intro k F Hn locs ls hmu24 hi24_0 hi24_1 hRl hzl frl hL hl
            refine lv_iload_n X.1.1 X.1.2.1 d_Model_depth_24 rfl (gl_at hl rfl) ?_
            refine lv_aload_n X.1.1 X.1.2.1 d_Model_depth_25 rfl (gl_at hl rfl) ?_
            have mo1 : va_at D CL (d, .inr (10, [.int (w 0), .ref (d + 1), .int (w 2), .ref (d + 2), .ref (d + 3), .ref (d + 4), .ref (d + 5), .ref (d + 6), .int (w 8), .ref (d + 7), .ref (d + 8), .ref (d + 9), .ref (d + 10), .ref (d + 11), .ref (d + 12), .ref (d + 13), .ref (d + 14), .ref (d + 15), .ref (d + 16), .ref (d + 17), .int (w 20), .ref (d + 18), .int (w 22), .ref (d + 19), .ref (d + 20), .ref (d + 21), .int (w 26), .int (w 27), .int (w 28), .ref (d + 22), .ref (d + 23), .ref (d + 24), .ref (d + 25), .ref (d + 26), .int (w 34), .ref (d + 27), .ref (d + 28), .int (w 37), .int (w 38)])) Hn := hRl.1
            refine g_get X kc_Model mo1 3 (by decide) lk_Model_13 rfl d_Model_depth_26 ?_
            refine lv_iconst (v := nI 0) X.1.1 X.1.2.1 d_Model_depth_29 (by decide) ?_
            have ma2 : va_at D CL (d + 2, .inl (q 0, 3, .inl (ar 2))) Hn := hRl.a2
            refine g_iald X 0 ma2 rfl 0 (by omega) (by omega) d_Model_depth_30 ?_
            refine g_top (nI (n 0)) hm1a ?_
            refine gn_ge X.1.1 X.1.2.1 k (n 0) (by omega) (by omega) d_Model_depth_31 rfl (fun hc31 => ?_) (fun hc31 => ?_)
            · refine lv_iconst (v := nI 0) X.1.1 X.1.2.1 d_Model_depth_78 (by decide) ?_
              refine g_istn X.1.1 X.1.2.1 hl 2 d_Model_depth_79 rfl (Nat.le_of_ble_eq_true rfl) rfl (fun ls hl => ?_)
              refine lv_iconst (v := nI 0) X.1.1 X.1.2.1 d_Model_depth_80 (by decide) ?_
              refine g_istn X.1.1 X.1.2.1 hl 3 d_Model_depth_81 rfl (Nat.le_of_ble_eq_true rfl) rfl (fun ls hl => ?_)
              have loop82 : ∀ (fu : Nat) (i : Nat) (y0 : Nat) (ls : Array Slot), 140 - i < fu → (i ≤ 140) → (y0 = v_cnt (fun x => d_hs kk g x k) 0 i) →  gl ls [some (.ref d), some (.int (nI g)), some (.int (nI y0)), some (.int (nI i))] → W p l e (gR 1 23 0 0) s m ([.ref d, .int (nI g)] : List Value).toArray below meth c Hn locs 0 0 (gQ below ([.ref d, .int (nI g)] : List Value).toArray s (fun v1 H1 => ∃ F : Nat → Int32, (v1 = some (.int (nI (v_cnt (fun x => d_hs kk g x (n 0)) 0 140)))) ∧ dR D q H1 d w (va_up ar 18 F) ∧ H1.size = H.size ∧ ∀ p : Nat, (p < d ∨ d + 28 < p) → H1[p]? = H[p]?) 0 0 (fun p => d ≤ p ∧ p ≤ d + 28)) (F0 m 82 ls []) := by
                intro fu
                induction fu with
                | zero => intro i y0 ls hmu; omega
                | succ fu ih82 =>
                  intro i y0 ls hmu82 hi82_0 hi82_1 hl
                  have hy9 := v_cnt_le (fun x => d_hs kk g x k) 0 i
                  refine lv_iload_n X.1.1 X.1.2.1 d_Model_depth_82 rfl (gl_at hl rfl) ?_
                  refine lv_sipush (v := nI 140) X.1.1 X.1.2.1 d_Model_depth_83 (by decide) ?_
                  refine gn_ge X.1.1 X.1.2.1 i 140 (by omega) (by omega) d_Model_depth_86 rfl (fun hc86 => ?_) (fun hc86 => ?_)
                  · refine lv_iload_n X.1.1 X.1.2.1 d_Model_depth_112 rfl (gl_at hl rfl) ?_
                    exact g_iret X B ⟨F, by rw [hi82_1, show i = 140 by omega, show k = n 0 by omega], hRl, hzl, fun p hp => (frl p (by omega))⟩ hL d_Model_depth_113 (by omega) (by omega)
                  · refine lv_iload_n X.1.1 X.1.2.1 d_Model_depth_89 rfl (gl_at hl rfl) ?_
                    refine lv_aload_n X.1.1 X.1.2.1 d_Model_depth_90 rfl (gl_at hl rfl) ?_
                    refine g_get X kc_Model mo1 21 (by decide) lk_Model_66 rfl d_Model_depth_91 ?_
                    refine lv_iload_n X.1.1 X.1.2.1 d_Model_depth_94 rfl (gl_at hl rfl) ?_
                    have ma3 : va_at D CL (d + 18, .inl (q 1, 140, .inl F)) Hn := hRl.a18
                    refine g_zald X 1 ma3 rfl i (by omega) (by omega) d_Model_depth_95 ?_
                    refine g_top (nI (if d_hs kk g i k = true then 1 else 0)) (hi24_1 i (by omega)) ?_
                    refine lv_if_eq X.1.1 X.1.2.1 d_Model_depth_96 rfl (fun hc96 => ?_) (fun hc96 => ?_)
                    · replace hc96 := gz_f hc96
                      refine lv_iconst (v := nI 0) X.1.1 X.1.2.1 d_Model_depth_103 (by decide) ?_
                      refine lv_iadd X.1.1 X.1.2.1 d_Model_depth_104 ?_
                      refine g_top (nI (y0 + 0)) (nI_add _ _) ?_
                      refine g_istn X.1.1 X.1.2.1 hl 2 d_Model_depth_105 rfl (Nat.le_of_ble_eq_true rfl) rfl (fun ls hl => ?_)
                      refine g_iinc X.1.1 X.1.2.1 (nI (i + 1)) hl 3 d_Model_depth_106 rfl (nI_1 _) rfl (fun ls hl => ?_)
                      refine lv_goto X.1.1 X.1.2.1 d_Model_depth_109 rfl ?_
                      exact ih82 (i + 1) (y0 + 0) ls (by omega) (by omega) (by
                        show _ = v_cnt _ 0 i + _
                        rw [Nat.zero_add]
                        first
                        | rw [if_pos hc96, ← hi82_1]
                        | rw [if_neg hc96, ← hi82_1]) hl
                    · replace hc96 := gz_t hc96
                      refine lv_iconst (v := nI 1) X.1.1 X.1.2.1 d_Model_depth_99 (by decide) ?_
                      refine lv_goto X.1.1 X.1.2.1 d_Model_depth_100 rfl ?_
                      refine lv_iadd X.1.1 X.1.2.1 d_Model_depth_104 ?_
                      refine g_top (nI (y0 + 1)) (nI_add _ _) ?_
                      refine g_istn X.1.1 X.1.2.1 hl 2 d_Model_depth_105 rfl (Nat.le_of_ble_eq_true rfl) rfl (fun ls hl => ?_)
                      refine g_iinc X.1.1 X.1.2.1 (nI (i + 1)) hl 3 d_Model_depth_106 rfl (nI_1 _) rfl (fun ls hl => ?_)
                      refine lv_goto X.1.1 X.1.2.1 d_Model_depth_109 rfl ?_
                      exact ih82 (i + 1) (y0 + 1) ls (by omega) (by omega) (by
                        show _ = v_cnt _ 0 i + _
                        rw [Nat.zero_add]
                        first
                        | rw [if_pos hc96, ← hi82_1]
                        | rw [if_neg hc96, ← hi82_1]) hl
              exact loop82 _ 0 0 ls (Nat.lt_succ_self _) (by omega) rfl hl
            · refine lv_iload_n X.1.1 X.1.2.1 d_Model_depth_34 rfl (gl_at hl rfl) ?_
              refine lv_iload_n X.1.1 X.1.2.1 d_Model_depth_35 rfl (gl_at hl rfl) ?_
              refine gn_ne X.1.1 X.1.2.1 k g (by omega) (by omega) d_Model_depth_36 rfl (fun hc36 => ?_) (fun hc36 => ?_)
              · obtain ⟨hx1, hx2, hx3, hx4⟩ := hk k (by omega)
                have hnk := hdi k (by omega) (by omega)
                have hfd := e_fdb_lt hg3 hx3 (fun h9 => hnk h9.symm)
                refine lv_iconst (v := nI 0) X.1.1 X.1.2.1 d_Model_depth_42 (by decide) ?_
                refine g_istn X.1.1 X.1.2.1 hl 3 d_Model_depth_43 rfl (Nat.le_of_ble_eq_true rfl) rfl (fun ls hl => ?_)
                have loop44 : ∀ (fu : Nat) (i : Nat) (locs : List Loc) (ls : Array Slot), 140 - i < fu → (i ≤ e_fdb (kk g) (kk k)) → (∀ x ∈ locs, (fun p => d ≤ p ∧ p ≤ d + 28) x.base) → gl ls [some (.ref d), some (.int (nI g)), some (.int (nI k)), some (.int (nI i))] → W p l e (gR 1 23 0 0) s m ([.ref d, .int (nI g)] : List Value).toArray below meth c Hn locs 0 0 (gQ below ([.ref d, .int (nI g)] : List Value).toArray s (fun v1 H1 => ∃ F : Nat → Int32, (v1 = some (.int (nI (v_cnt (fun x => d_hs kk g x (n 0)) 0 140)))) ∧ dR D q H1 d w (va_up ar 18 F) ∧ H1.size = H.size ∧ ∀ p : Nat, (p < d ∨ d + 28 < p) → H1[p]? = H[p]?) 0 0 (fun p => d ≤ p ∧ p ≤ d + 28)) (F0 m 44 ls []) := by
                  intro fu
                  induction fu with
                  | zero => intro i locs ls hmu; omega
                  | succ fu ih44 =>
                    intro i locs ls hmu44 hi44_0 hL hl
                    refine lv_aload_n X.1.1 X.1.2.1 d_Model_depth_44 rfl (gl_at hl rfl) ?_
                    refine lv_iload_n X.1.1 X.1.2.1 d_Model_depth_45 rfl (gl_at hl rfl) ?_
                    refine lv_iload_n X.1.1 X.1.2.1 d_Model_depth_46 rfl (gl_at hl rfl) ?_
                    refine g_cv (A := (fun p => d ≤ p ∧ p ≤ d + 28)) X gWS_good mw_Model_184 kc_Model mo1 (c_Model_bit l D q Hn d w (va_up ar 18 F) hRl kk hk g (by omega) i (by omega)) (fun _ _ _ => trivial) gBlind.tt rfl rfl hl.1 (Nat.le_of_ble_eq_true rfl) rfl rfl ⟨by decide, by decide⟩ ⟨by decide, by decide⟩ d_Model_depth_47 (fun _ h => h.elim) hL (fun v4 H5 locs hp6 hL => ?_)
                    obtain ⟨rfl, hHe⟩ := hp6
                    rw [hHe]
                    refine lv_aload_n X.1.1 X.1.2.1 d_Model_depth_50 rfl (gl_at hl rfl) ?_
                    refine lv_iload_n X.1.1 X.1.2.1 d_Model_depth_51 rfl (gl_at hl rfl) ?_
                    refine lv_iload_n X.1.1 X.1.2.1 d_Model_depth_52 rfl (gl_at hl rfl) ?_
                    refine g_cv (A := (fun p => d ≤ p ∧ p ≤ d + 28)) X gWS_good mw_Model_184 kc_Model mo1 (c_Model_bit l D q Hn d w (va_up ar 18 F) hRl kk hk k (by omega) i (by omega)) (fun _ _ _ => trivial) gBlind.tt rfl rfl hl.1 (Nat.le_of_ble_eq_true rfl) rfl rfl ⟨by decide, by decide⟩ ⟨by decide, by decide⟩ d_Model_depth_53 (fun _ h => h.elim) hL (fun v7 H8 locs hp9 hL => ?_)
                    obtain ⟨rfl, hHe⟩ := hp9
                    rw [hHe]
                    have e1 := d_bt_lt (kk g) i
                    have e2 := d_bt_lt (kk k) i
                    refine gn_ne X.1.1 X.1.2.1 (d_bt (kk g) i) (d_bt (kk k) i) (by omega) (by omega) d_Model_depth_56 rfl (fun hc56 => ?_) (fun hc56 => ?_)
                    · refine lv_aload_n X.1.1 X.1.2.1 d_Model_depth_65 rfl (gl_at hl rfl) ?_
                      refine g_get X kc_Model mo1 21 (by decide) lk_Model_66 rfl d_Model_depth_66 ?_
                      refine lv_iload_n X.1.1 X.1.2.1 d_Model_depth_69 rfl (gl_at hl rfl) ?_
                      refine lv_iconst (v := nI 1) X.1.1 X.1.2.1 d_Model_depth_70 (by decide) ?_
                      have ma10 : va_at D CL (d + 18, .inl (q 1, 140, .inl F)) Hn := hRl.a18
                      refine g_zast (A := (fun p => d ≤ p ∧ p ≤ d + 28)) X 1 ma10 rfl i (by omega) (by decide) (by decide) d_Model_depth_71 ⟨by omega, by omega⟩ hL (fun H11 locs h12 z13 oq14 hL => ?_)
                      have hR15 : dR D q H11 d w (va_up ar 18 (upd F i (nI 1))) := hRl.putB 18 (by decide) h12 oq14 rfl (fun j hj => by simp only [va_up, if_neg hj])
                      refine g_iinc X.1.1 X.1.2.1 (nI (k + 1)) hl 2 d_Model_depth_72 rfl (nI_1 _) rfl (fun ls hl => ?_)
                      refine lv_goto X.1.1 X.1.2.1 d_Model_depth_75 rfl ?_
                      exact ih24 (k + 1) (upd F i (nI 1)) H11 locs ls (by omega) (by omega) (fun x hx => by
                        have e6 : i = e_fdb (kk g) (kk k) := by
                          by_cases e7 : i = e_fdb (kk g) (kk k)
                          · exact e7
                          · exact absurd (d_bt_same hg4 hx4 (by omega)) hc56
                        show _ = nI (if (d_hs kk g x k || (!decide (k = g) && decide (e_fdb (kk g) (kk k) = x))) = true then 1 else 0)
                        rw [decide_eq_false hc36, ← e6]
                        by_cases e8 : x = i
                        · rw [e8, pk_us, decide_eq_true rfl]
                          simp
                        · rw [pk_un e8, hi24_1 x hx, decide_eq_false (fun h => e8 h.symm)]
                          simp) hR15 (z13.trans hzl) (fun p hp => ((oq14 p (by omega)).trans (frl p (by omega)))) hL (gl_forget hl 3)
                    · refine g_iinc X.1.1 X.1.2.1 (nI (i + 1)) hl 3 d_Model_depth_59 rfl (nI_1 _) rfl (fun ls hl => ?_)
                      refine lv_goto X.1.1 X.1.2.1 d_Model_depth_62 rfl ?_
                      exact ih44 (i + 1) locs ls (by omega) (by
                        by_cases e7 : i = e_fdb (kk g) (kk k)
                        · exact absurd (by rw [← e7]; exact hc56) (d_bt_diff hg4 hx4 (fun h9 => hnk h9.symm))
                        · omega) hL hl
                exact loop44 _ 0 locs ls (Nat.lt_succ_self _) (Nat.zero_le _) hL hl
              · refine lv_goto X.1.1 X.1.2.1 d_Model_depth_39 rfl ?_
                refine g_iinc X.1.1 X.1.2.1 (nI (k + 1)) hl 2 d_Model_depth_72 rfl (nI_1 _) rfl (fun ls hl => ?_)
                refine lv_goto X.1.1 X.1.2.1 d_Model_depth_75 rfl ?_
                exact ih24 (k + 1) F Hn locs ls (by omega) (by omega) (fun x hx => by
                  rw [hi24_1 x hx]
                  show _ = nI (if (d_hs kk g x k || _) = true then 1 else 0)
                  rw [decide_eq_true hc36]
                  simp) hRl hzl (fun p hp => (frl p (by omega))) hL hl
        exact loop24 _ 0 E Hn locs ls (Nat.lt_succ_self _) (Nat.zero_le _) (fun x hx => hi2_1 x (by omega)) hRl hzl (fun p hp => (frl p (by omega))) hL hl
      · refine lv_aload_n X.1.1 X.1.2.1 d_Model_depth_9 rfl (gl_at hl rfl) ?_
        have mo16 : va_at D CL (d, .inr (10, [.int (w 0), .ref (d + 1), .int (w 2), .ref (d + 2), .ref (d + 3), .ref (d + 4), .ref (d + 5), .ref (d + 6), .int (w 8), .ref (d + 7), .ref (d + 8), .ref (d + 9), .ref (d + 10), .ref (d + 11), .ref (d + 12), .ref (d + 13), .ref (d + 14), .ref (d + 15), .ref (d + 16), .ref (d + 17), .int (w 20), .ref (d + 18), .int (w 22), .ref (d + 19), .ref (d + 20), .ref (d + 21), .int (w 26), .int (w 27), .int (w 28), .ref (d + 22), .ref (d + 23), .ref (d + 24), .ref (d + 25), .ref (d + 26), .int (w 34), .ref (d + 27), .ref (d + 28), .int (w 37), .int (w 38)])) Hn := hRl.1
        refine g_get X kc_Model mo16 21 (by decide) lk_Model_66 rfl d_Model_depth_10 ?_
        refine lv_iload_n X.1.1 X.1.2.1 d_Model_depth_13 rfl (gl_at hl rfl) ?_
        refine lv_iconst (v := nI 0) X.1.1 X.1.2.1 d_Model_depth_14 (by decide) ?_
        have ma17 : va_at D CL (d + 18, .inl (q 1, 140, .inl E)) Hn := hRl.a18
        refine g_zast (A := (fun p => d ≤ p ∧ p ≤ d + 28)) X 1 ma17 rfl i (by omega) (by decide) (by decide) d_Model_depth_15 ⟨by omega, by omega⟩ hL (fun H18 locs h19 z20 oq21 hL => ?_)
        have hR22 : dR D q H18 d w (va_up ar 18 (upd E i (nI 0))) := hRl.putB 18 (by decide) h19 oq21 rfl (fun j hj => by simp only [va_up, if_neg hj])
        refine g_iinc X.1.1 X.1.2.1 (nI (i + 1)) hl 2 d_Model_depth_16 rfl (nI_1 _) rfl (fun ls hl => ?_)
        refine lv_goto X.1.1 X.1.2.1 d_Model_depth_19 rfl ?_
        exact ih2 (i + 1) (upd E i (nI 0)) H18 locs ls (by omega) (by omega) (fun x hx => by
          by_cases e : x = i
          · rw [e, pk_us]
          · rw [pk_un e]
            exact hi2_1 x (by omega)) hR22 (z20.trans hzl) (fun p hp => ((oq21 p (by omega)).trans (frl p (by omega)))) hL hl
  exact loop2 _ 0 (ar 18) H [] ls (Nat.lt_succ_self _) (by omega) (fun x hx => absurd hx (Nat.not_lt_zero x)) (hR.as (fun j => by first | rfl | (simp only [upd]; (repeat' split) <;> first | rfl | omega | (subst_vars; rfl))) (fun j => by first | rfl | (simp only [va_up]; (repeat' split) <;> first | rfl | omega | (subst_vars; rfl)))) rfl (fun p hp => rfl) (fun _ h => by cases h) hl

set_option maxHeartbeats 4000000 in
set_option maxRecDepth 100000 in
/-- edges: refused -/
theorem c_Model_edgesB (l : Launch) (D : va_G) (q : Nat → ClassId) (H : Heap) (d : Nat) (w : Nat → Int32) (ar : Nat → Nat → Int32) (hR : dR D q H d w ar) (x : Int32) (hbad : ¬ (¬ x < 0 ∧ x ≤ nI 5)) : gC l y_Model_edges (Cond.code y_Model_edges b_Model_edges 4 (some .int) :: gWS) (gR 4 99 0 0) D CL (gY q) (fun _ => True) [.ref d, .int x] H (fun v1 H1 => v1 = some (.int 0) ∧ dR D q H1 d (upd w 0 (nI 1)) ar ∧ H1.size = H.size ∧ ∀ p : Nat, (p < d ∨ d + 28 < p) → H1[p]? = H[p]?) 0 0 (fun p => d ≤ p ∧ p ≤ d + 28) := by
  refine gC.ofW R_Model "edges" (by decide) rfl rfl ?_
  intro p e s m below meth c hadm X hE hH B hne
  refine g_entry [some (.ref d), some (.int x), none, none] rfl rfl (Nat.le_of_ble_eq_true rfl) (fun ls hl => ?_)
  refine lv_iload_n X.1.1 X.1.2.1 d_Model_edges_0 rfl (gl_at hl rfl) ?_
  refine lv_if_lt X.1.1 X.1.2.1 d_Model_edges_1 rfl (fun hc1 => ?_) (fun hc1 => ?_)
  · refine lv_aload_n X.1.1 X.1.2.1 d_Model_edges_9 rfl (gl_at hl rfl) ?_
    refine lv_iconst (v := nI 1) X.1.1 X.1.2.1 d_Model_edges_10 (by decide) ?_
    have mo1 : va_at D CL (d, .inr (10, [.int (w 0), .ref (d + 1), .int (w 2), .ref (d + 2), .ref (d + 3), .ref (d + 4), .ref (d + 5), .ref (d + 6), .int (w 8), .ref (d + 7), .ref (d + 8), .ref (d + 9), .ref (d + 10), .ref (d + 11), .ref (d + 12), .ref (d + 13), .ref (d + 14), .ref (d + 15), .ref (d + 16), .ref (d + 17), .int (w 20), .ref (d + 18), .int (w 22), .ref (d + 19), .ref (d + 20), .ref (d + 21), .int (w 26), .int (w 27), .int (w 28), .ref (d + 22), .ref (d + 23), .ref (d + 24), .ref (d + 25), .ref (d + 26), .int (w 34), .ref (d + 27), .ref (d + 28), .int (w 37), .int (w 38)])) H := hR.1
    refine g_cv (A := (fun p => d ≤ p ∧ p ≤ d + 28)) X gWS_good mw_Model_126 kc_Model mo1 (c_Model_raise l D q H d w ar hR (nI 1)) (fun _ _ _ => trivial) gBlind.tt rfl rfl hl.1 (Nat.le_of_ble_eq_true rfl) rfl rfl ⟨by decide, by decide⟩ ⟨by decide, by decide⟩ d_Model_edges_11 (fun _ h => h) (fun _ h => by cases h) (fun v2 H3 locs hp4 hL => ?_)
    obtain ⟨rfl, hR5, z6, fr7⟩ := hp4
    exact g_iret X B ⟨rfl, hR5, z6, fun p hp => (fr7 p (by omega))⟩ hL d_Model_edges_14 (by omega) (by omega)
  · refine lv_iload_n X.1.1 X.1.2.1 d_Model_edges_4 rfl (gl_at hl rfl) ?_
    refine lv_iconst (v := nI 5) X.1.1 X.1.2.1 d_Model_edges_5 (by decide) ?_
    refine lv_icmp_le X.1.1 X.1.2.1 d_Model_edges_6 rfl (fun hc6 => ?_) (fun hc6 => ?_)
    · exact absurd ⟨hc1, hc6⟩ hbad
    · refine lv_aload_n X.1.1 X.1.2.1 d_Model_edges_9 rfl (gl_at hl rfl) ?_
      refine lv_iconst (v := nI 1) X.1.1 X.1.2.1 d_Model_edges_10 (by decide) ?_
      have mo8 : va_at D CL (d, .inr (10, [.int (w 0), .ref (d + 1), .int (w 2), .ref (d + 2), .ref (d + 3), .ref (d + 4), .ref (d + 5), .ref (d + 6), .int (w 8), .ref (d + 7), .ref (d + 8), .ref (d + 9), .ref (d + 10), .ref (d + 11), .ref (d + 12), .ref (d + 13), .ref (d + 14), .ref (d + 15), .ref (d + 16), .ref (d + 17), .int (w 20), .ref (d + 18), .int (w 22), .ref (d + 19), .ref (d + 20), .ref (d + 21), .int (w 26), .int (w 27), .int (w 28), .ref (d + 22), .ref (d + 23), .ref (d + 24), .ref (d + 25), .ref (d + 26), .int (w 34), .ref (d + 27), .ref (d + 28), .int (w 37), .int (w 38)])) H := hR.1
      refine g_cv (A := (fun p => d ≤ p ∧ p ≤ d + 28)) X gWS_good mw_Model_126 kc_Model mo8 (c_Model_raise l D q H d w ar hR (nI 1)) (fun _ _ _ => trivial) gBlind.tt rfl rfl hl.1 (Nat.le_of_ble_eq_true rfl) rfl rfl ⟨by decide, by decide⟩ ⟨by decide, by decide⟩ d_Model_edges_11 (fun _ h => h) (fun _ h => by cases h) (fun v9 H10 locs hp11 hL => ?_)
      obtain ⟨rfl, hR12, z13, fr14⟩ := hp11
      exact g_iret X B ⟨rfl, hR12, z13, fun p hp => (fr14 p (by omega))⟩ hL d_Model_edges_14 (by omega) (by omega)

set_option maxHeartbeats 4000000 in
set_option maxRecDepth 100000 in
/-- edges: nodes -/
theorem c_Model_edges (l : Launch) (D : va_G) (q : Nat → ClassId) (H : Heap) (d : Nat) (w : Nat → Int32) (ar : Nat → Nat → Int32) (hR : dR D q H d w ar) (kk : Nat → List Nat) (hk : pK ar kk) (n chg : Nat → Nat) (hm : pM ar n chg) (x : Nat) (hx : x ≤ 4) : gC l y_Model_edges (Cond.code y_Model_edges b_Model_edges 4 (some .int) :: gWS) (gR 4 99 0 0) D CL (gY q) (fun _ => True) [.ref d, .int (nI x)] H (fun v1 H1 => v1 = some (.int (nI (d_inn kk (n 1) x (n 1)))) ∧ dR D q H1 d (upd w 0 (nI 0)) ar ∧ H1.size = H.size ∧ ∀ p : Nat, (p < d ∨ d + 28 < p) → H1[p]? = H[p]?) 0 0 (fun p => d ≤ p ∧ p ≤ d + 28) := by
  refine gC.ofW R_Model "edges" (by decide) rfl rfl ?_
  intro p e s m below meth c hadm X hE hH B hne
  refine g_entry [some (.ref d), some (.int (nI x)), none, none] rfl rfl (Nat.le_of_ble_eq_true rfl) (fun ls hl => ?_)
  refine lv_iload_n X.1.1 X.1.2.1 d_Model_edges_0 rfl (gl_at hl rfl) ?_
  refine lv_if_lt X.1.1 X.1.2.1 d_Model_edges_1 rfl (fun hc1 => ?_) (fun hc1 => ?_)
  · exact absurd hc1 (nI_nneg (by omega))
  · refine lv_iload_n X.1.1 X.1.2.1 d_Model_edges_4 rfl (gl_at hl rfl) ?_
    refine lv_iconst (v := nI 5) X.1.1 X.1.2.1 d_Model_edges_5 (by decide) ?_
    refine gn_le X.1.1 X.1.2.1 x 5 (by omega) (by omega) d_Model_edges_6 rfl (fun hc6 => ?_) (fun hc6 => ?_)
    · refine lv_aload_n X.1.1 X.1.2.1 d_Model_edges_15 rfl (gl_at hl rfl) ?_
      refine lv_iconst (v := nI 0) X.1.1 X.1.2.1 d_Model_edges_16 (by decide) ?_
      have mo1 : va_at D CL (d, .inr (10, [.int (w 0), .ref (d + 1), .int (w 2), .ref (d + 2), .ref (d + 3), .ref (d + 4), .ref (d + 5), .ref (d + 6), .int (w 8), .ref (d + 7), .ref (d + 8), .ref (d + 9), .ref (d + 10), .ref (d + 11), .ref (d + 12), .ref (d + 13), .ref (d + 14), .ref (d + 15), .ref (d + 16), .ref (d + 17), .int (w 20), .ref (d + 18), .int (w 22), .ref (d + 19), .ref (d + 20), .ref (d + 21), .int (w 26), .int (w 27), .int (w 28), .ref (d + 22), .ref (d + 23), .ref (d + 24), .ref (d + 25), .ref (d + 26), .int (w 34), .ref (d + 27), .ref (d + 28), .int (w 37), .int (w 38)])) H := hR.1
      refine g_put (A := (fun p => d ≤ p ∧ p ≤ d + 28)) X kc_Model mo1 0 (by decide) lk_Model_99 rfl rfl rfl (Nat.le_of_ble_eq_true rfl) d_Model_edges_17 ⟨by omega, by omega⟩ (fun _ h => by cases h) (fun H2 locs h3 z4 oq5 hL => ?_)
      have hR6 : dR D q H2 d (upd w 0 (nI 0)) ar := hR.putO h3 oq5
      refine lv_iload_n X.1.1 X.1.2.1 d_Model_edges_20 rfl (gl_at hl rfl) ?_
      refine lv_iconst (v := nI 5) X.1.1 X.1.2.1 d_Model_edges_21 (by decide) ?_
      refine gn_ge X.1.1 X.1.2.1 x 5 (by omega) (by omega) d_Model_edges_22 rfl (fun hc22 => ?_) (fun hc22 => ?_)
      · omega
      · refine lv_aload_n X.1.1 X.1.2.1 d_Model_edges_25 rfl (gl_at hl rfl) ?_
        refine lv_iload_n X.1.1 X.1.2.1 d_Model_edges_26 rfl (gl_at hl rfl) ?_
        have mo7 : va_at D CL (d, .inr (10, [.int (nI 0), .ref (d + 1), .int (w 2), .ref (d + 2), .ref (d + 3), .ref (d + 4), .ref (d + 5), .ref (d + 6), .int (w 8), .ref (d + 7), .ref (d + 8), .ref (d + 9), .ref (d + 10), .ref (d + 11), .ref (d + 12), .ref (d + 13), .ref (d + 14), .ref (d + 15), .ref (d + 16), .ref (d + 17), .int (w 20), .ref (d + 18), .int (w 22), .ref (d + 19), .ref (d + 20), .ref (d + 21), .int (w 26), .int (w 27), .int (w 28), .ref (d + 22), .ref (d + 23), .ref (d + 24), .ref (d + 25), .ref (d + 26), .int (w 34), .ref (d + 27), .ref (d + 28), .int (w 37), .int (w 38)])) H2 := hR6.1
        refine g_cv (A := (fun p => d ≤ p ∧ p ≤ d + 28)) X gWS_good mw_Model_187 kc_Model mo7 (c_Model_inner l D q H2 d (upd w 0 (nI 0)) ar hR6 kk hk n chg hm x hx) (fun _ _ _ => trivial) gBlind.tt rfl rfl hl.1 (Nat.le_of_ble_eq_true rfl) rfl rfl ⟨by decide, by decide⟩ ⟨by decide, by decide⟩ d_Model_edges_27 (fun _ h => h.elim) hL (fun v8 H9 locs hp10 hL => ?_)
        obtain ⟨rfl, hHe⟩ := hp10
        rw [hHe]
        exact g_iret X B ⟨rfl, hR6, z4, fun p hp => (oq5 p (by omega))⟩ hL d_Model_edges_30 (by omega) (by omega)
    · omega

set_option maxHeartbeats 4000000 in
set_option maxRecDepth 100000 in
/-- edges: no such key -/
theorem c_Model_edges5N (l : Launch) (D : va_G) (q : Nat → ClassId) (H : Heap) (d : Nat) (w : Nat → Int32) (ar : Nat → Nat → Int32) (hR : dR D q H d w ar) (kk : Nat → List Nat) (hk : pK ar kk) (n chg : Nat → Nat) (hm : pM ar n chg) (tp : List Nat) (ht : pT w ar tp) (hno : ∀ j, j < n 0 → kk j ≠ tp) : gC l y_Model_edges (Cond.code y_Model_edges b_Model_edges 4 (some .int) :: gWS) (gR 4 99 0 0) D CL (gY q) (fun _ => True) [.ref d, .int (nI 5)] H (fun v1 H1 => v1 = some (.int (-1)) ∧ dR D q H1 d (upd (upd w 0 (nI 0)) 2 (nI 0)) ar ∧ H1.size = H.size ∧ ∀ p : Nat, (p < d ∨ d + 28 < p) → H1[p]? = H[p]?) 0 0 (fun p => d ≤ p ∧ p ≤ d + 28) := by
  refine gC.ofW R_Model "edges" (by decide) rfl rfl ?_
  intro p e s m below meth c hadm X hE hH B hne
  refine g_entry [some (.ref d), some (.int (nI 5)), none, none] rfl rfl (Nat.le_of_ble_eq_true rfl) (fun ls hl => ?_)
  have ht8 := ht.2.2.1
  refine lv_iload_n X.1.1 X.1.2.1 d_Model_edges_0 rfl (gl_at hl rfl) ?_
  refine lv_if_lt X.1.1 X.1.2.1 d_Model_edges_1 rfl (fun hc1 => ?_) (fun hc1 => ?_)
  · exact absurd hc1 (nI_nneg (by omega))
  · refine lv_iload_n X.1.1 X.1.2.1 d_Model_edges_4 rfl (gl_at hl rfl) ?_
    refine lv_iconst (v := nI 5) X.1.1 X.1.2.1 d_Model_edges_5 (by decide) ?_
    refine gn_le X.1.1 X.1.2.1 5 5 (by omega) (by omega) d_Model_edges_6 rfl (fun hc6 => ?_) (fun hc6 => ?_)
    · refine lv_aload_n X.1.1 X.1.2.1 d_Model_edges_15 rfl (gl_at hl rfl) ?_
      refine lv_iconst (v := nI 0) X.1.1 X.1.2.1 d_Model_edges_16 (by decide) ?_
      have mo1 : va_at D CL (d, .inr (10, [.int (w 0), .ref (d + 1), .int (w 2), .ref (d + 2), .ref (d + 3), .ref (d + 4), .ref (d + 5), .ref (d + 6), .int (w 8), .ref (d + 7), .ref (d + 8), .ref (d + 9), .ref (d + 10), .ref (d + 11), .ref (d + 12), .ref (d + 13), .ref (d + 14), .ref (d + 15), .ref (d + 16), .ref (d + 17), .int (w 20), .ref (d + 18), .int (w 22), .ref (d + 19), .ref (d + 20), .ref (d + 21), .int (w 26), .int (w 27), .int (w 28), .ref (d + 22), .ref (d + 23), .ref (d + 24), .ref (d + 25), .ref (d + 26), .int (w 34), .ref (d + 27), .ref (d + 28), .int (w 37), .int (w 38)])) H := hR.1
      refine g_put (A := (fun p => d ≤ p ∧ p ≤ d + 28)) X kc_Model mo1 0 (by decide) lk_Model_99 rfl rfl rfl (Nat.le_of_ble_eq_true rfl) d_Model_edges_17 ⟨by omega, by omega⟩ (fun _ h => by cases h) (fun H2 locs h3 z4 oq5 hL => ?_)
      have hR6 : dR D q H2 d (upd w 0 (nI 0)) ar := hR.putO h3 oq5
      refine lv_iload_n X.1.1 X.1.2.1 d_Model_edges_20 rfl (gl_at hl rfl) ?_
      refine lv_iconst (v := nI 5) X.1.1 X.1.2.1 d_Model_edges_21 (by decide) ?_
      refine gn_ge X.1.1 X.1.2.1 5 5 (by omega) (by omega) d_Model_edges_22 rfl (fun hc22 => ?_) (fun hc22 => ?_)
      · refine lv_aload_n X.1.1 X.1.2.1 d_Model_edges_31 rfl (gl_at hl rfl) ?_
        have mo7 : va_at D CL (d, .inr (10, [.int (nI 0), .ref (d + 1), .int (w 2), .ref (d + 2), .ref (d + 3), .ref (d + 4), .ref (d + 5), .ref (d + 6), .int (w 8), .ref (d + 7), .ref (d + 8), .ref (d + 9), .ref (d + 10), .ref (d + 11), .ref (d + 12), .ref (d + 13), .ref (d + 14), .ref (d + 15), .ref (d + 16), .ref (d + 17), .int (w 20), .ref (d + 18), .int (w 22), .ref (d + 19), .ref (d + 20), .ref (d + 21), .int (w 26), .int (w 27), .int (w 28), .ref (d + 22), .ref (d + 23), .ref (d + 24), .ref (d + 25), .ref (d + 26), .int (w 34), .ref (d + 27), .ref (d + 28), .int (w 37), .int (w 38)])) H2 := hR6.1
        refine g_get X kc_Model mo7 2 (by decide) lk_Model_102 rfl d_Model_edges_32 ?_
        refine g_top (nI tp.length) ht.1 ?_
        refine g_istn X.1.1 X.1.2.1 hl 2 d_Model_edges_35 rfl (Nat.le_of_ble_eq_true rfl) rfl (fun ls hl => ?_)
        refine lv_aload_n X.1.1 X.1.2.1 d_Model_edges_36 rfl (gl_at hl rfl) ?_
        refine lv_iconst (v := nI 0) X.1.1 X.1.2.1 d_Model_edges_37 (by decide) ?_
        refine g_put (A := (fun p => d ≤ p ∧ p ≤ d + 28)) X kc_Model mo7 2 (by decide) lk_Model_102 rfl rfl rfl (Nat.le_of_ble_eq_true rfl) d_Model_edges_38 ⟨by omega, by omega⟩ hL (fun H8 locs h9 z10 oq11 hL => ?_)
        have hR12 : dR D q H8 d (upd (upd w 0 (nI 0)) 2 (nI 0)) ar := hR6.putO h9 oq11
        refine lv_aload_n X.1.1 X.1.2.1 d_Model_edges_41 rfl (gl_at hl rfl) ?_
        refine lv_iconst (v := nI 0) X.1.1 X.1.2.1 d_Model_edges_42 (by decide) ?_
        refine lv_aload_n X.1.1 X.1.2.1 d_Model_edges_43 rfl (gl_at hl rfl) ?_
        have mo13 : va_at D CL (d, .inr (10, [.int (nI 0), .ref (d + 1), .int (nI 0), .ref (d + 2), .ref (d + 3), .ref (d + 4), .ref (d + 5), .ref (d + 6), .int (w 8), .ref (d + 7), .ref (d + 8), .ref (d + 9), .ref (d + 10), .ref (d + 11), .ref (d + 12), .ref (d + 13), .ref (d + 14), .ref (d + 15), .ref (d + 16), .ref (d + 17), .int (w 20), .ref (d + 18), .int (w 22), .ref (d + 19), .ref (d + 20), .ref (d + 21), .int (w 26), .int (w 27), .int (w 28), .ref (d + 22), .ref (d + 23), .ref (d + 24), .ref (d + 25), .ref (d + 26), .int (w 34), .ref (d + 27), .ref (d + 28), .int (w 37), .int (w 38)])) H8 := hR12.1
        refine g_get X kc_Model mo13 1 (by decide) lk_Model_7 rfl d_Model_edges_44 ?_
        refine lv_iconst (v := nI 0) X.1.1 X.1.2.1 d_Model_edges_47 (by decide) ?_
        refine lv_iload_n X.1.1 X.1.2.1 d_Model_edges_48 rfl (gl_at hl rfl) ?_
        refine g_cv (A := (fun p => d ≤ p ∧ p ≤ d + 28)) X gWS_good mw_Model_133 kc_Model mo13 (c_Model_keyOf l D q H8 d (upd (upd w 0 (nI 0)) 2 (nI 0)) ar hR12 kk hk n chg hm 0 (by decide) (d + 1) 8 (ar 1) hR12.a1 0 _ tp rfl ht.2.1 (by omega) (by omega) ht.2.2.2) (fun _ _ _ => trivial) gBlind.tt rfl rfl hl.1 (Nat.le_of_ble_eq_true rfl) rfl rfl ⟨by decide, by decide⟩ ⟨by decide, by decide⟩ d_Model_edges_49 (fun _ h => h.elim) hL (fun v14 H15 locs hp16 hL => ?_)
        obtain ⟨⟨o, rfl, ho⟩, hHe⟩ := hp16
        rw [hHe]
        obtain rfl : o = none := by
          cases o with
          | none => rfl
          | some g => obtain ⟨j, h1, h2, h3⟩ := ho; exact absurd (by rw [← h3, h2, Nat.mul_zero, Nat.zero_add]) (hno j h1)
        refine g_istn X.1.1 X.1.2.1 hl 3 d_Model_edges_52 rfl (Nat.le_of_ble_eq_true rfl) rfl (fun ls hl => ?_)
        refine lv_iload_n X.1.1 X.1.2.1 d_Model_edges_53 rfl (gl_at hl rfl) ?_
        refine lv_iconst (v := (-1)) X.1.1 X.1.2.1 d_Model_edges_54 (by decide) ?_
        refine lv_icmp_ne X.1.1 X.1.2.1 d_Model_edges_55 rfl (fun hc55 => ?_) (fun hc55 => ?_)
        · exact absurd rfl hc55
        · refine lv_iconst (v := (-1)) X.1.1 X.1.2.1 d_Model_edges_58 (by decide) ?_
          refine lv_goto X.1.1 X.1.2.1 d_Model_edges_59 rfl ?_
          exact g_iret X B ⟨rfl, hR12, (z10.trans z4), fun p hp => ((oq11 p (by omega)).trans (oq5 p (by omega)))⟩ hL d_Model_edges_67 (by omega) (by omega)
      · omega
    · omega

set_option maxHeartbeats 4000000 in
set_option maxRecDepth 100000 in
/-- edges: depth -/
theorem c_Model_edges5 (l : Launch) (D : va_G) (q : Nat → ClassId) (H : Heap) (d : Nat) (w : Nat → Int32) (ar : Nat → Nat → Int32) (hR : dR D q H d w ar) (kk : Nat → List Nat) (hk : pK ar kk) (n chg : Nat → Nat) (hm : pM ar n chg) (tp : List Nat) (ht : pT w ar tp) (hex : ∃ j, j < n 0 ∧ kk j = tp) (hdi : ∀ a b, a < n 0 → b < n 0 → a ≠ b → kk a ≠ kk b) : gC l y_Model_edges (Cond.code y_Model_edges b_Model_edges 4 (some .int) :: gWS) (gR 4 99 0 0) D CL (gY q) (fun _ => True) [.ref d, .int (nI 5)] H (fun v1 H1 => ∃ g F, (g < n 0 ∧ kk g = tp ∧ v1 = some (.int (nI (v_cnt (fun x => d_hs kk g x (n 0)) 0 140)))) ∧ dR D q H1 d (upd (upd w 0 (nI 0)) 2 (nI 0)) (va_up ar 18 F) ∧ H1.size = H.size ∧ ∀ p : Nat, (p < d ∨ d + 28 < p) → H1[p]? = H[p]?) 0 0 (fun p => d ≤ p ∧ p ≤ d + 28) := by
  refine gC.ofW R_Model "edges" (by decide) rfl rfl ?_
  intro p e s m below meth c hadm X hE hH B hne
  refine g_entry [some (.ref d), some (.int (nI 5)), none, none] rfl rfl (Nat.le_of_ble_eq_true rfl) (fun ls hl => ?_)
  have ht8 := ht.2.2.1
  have hm2 := (hm 0 (by decide)).2.1
  refine lv_iload_n X.1.1 X.1.2.1 d_Model_edges_0 rfl (gl_at hl rfl) ?_
  refine lv_if_lt X.1.1 X.1.2.1 d_Model_edges_1 rfl (fun hc1 => ?_) (fun hc1 => ?_)
  · exact absurd hc1 (nI_nneg (by omega))
  · refine lv_iload_n X.1.1 X.1.2.1 d_Model_edges_4 rfl (gl_at hl rfl) ?_
    refine lv_iconst (v := nI 5) X.1.1 X.1.2.1 d_Model_edges_5 (by decide) ?_
    refine gn_le X.1.1 X.1.2.1 5 5 (by omega) (by omega) d_Model_edges_6 rfl (fun hc6 => ?_) (fun hc6 => ?_)
    · refine lv_aload_n X.1.1 X.1.2.1 d_Model_edges_15 rfl (gl_at hl rfl) ?_
      refine lv_iconst (v := nI 0) X.1.1 X.1.2.1 d_Model_edges_16 (by decide) ?_
      have mo1 : va_at D CL (d, .inr (10, [.int (w 0), .ref (d + 1), .int (w 2), .ref (d + 2), .ref (d + 3), .ref (d + 4), .ref (d + 5), .ref (d + 6), .int (w 8), .ref (d + 7), .ref (d + 8), .ref (d + 9), .ref (d + 10), .ref (d + 11), .ref (d + 12), .ref (d + 13), .ref (d + 14), .ref (d + 15), .ref (d + 16), .ref (d + 17), .int (w 20), .ref (d + 18), .int (w 22), .ref (d + 19), .ref (d + 20), .ref (d + 21), .int (w 26), .int (w 27), .int (w 28), .ref (d + 22), .ref (d + 23), .ref (d + 24), .ref (d + 25), .ref (d + 26), .int (w 34), .ref (d + 27), .ref (d + 28), .int (w 37), .int (w 38)])) H := hR.1
      refine g_put (A := (fun p => d ≤ p ∧ p ≤ d + 28)) X kc_Model mo1 0 (by decide) lk_Model_99 rfl rfl rfl (Nat.le_of_ble_eq_true rfl) d_Model_edges_17 ⟨by omega, by omega⟩ (fun _ h => by cases h) (fun H2 locs h3 z4 oq5 hL => ?_)
      have hR6 : dR D q H2 d (upd w 0 (nI 0)) ar := hR.putO h3 oq5
      refine lv_iload_n X.1.1 X.1.2.1 d_Model_edges_20 rfl (gl_at hl rfl) ?_
      refine lv_iconst (v := nI 5) X.1.1 X.1.2.1 d_Model_edges_21 (by decide) ?_
      refine gn_ge X.1.1 X.1.2.1 5 5 (by omega) (by omega) d_Model_edges_22 rfl (fun hc22 => ?_) (fun hc22 => ?_)
      · refine lv_aload_n X.1.1 X.1.2.1 d_Model_edges_31 rfl (gl_at hl rfl) ?_
        have mo7 : va_at D CL (d, .inr (10, [.int (nI 0), .ref (d + 1), .int (w 2), .ref (d + 2), .ref (d + 3), .ref (d + 4), .ref (d + 5), .ref (d + 6), .int (w 8), .ref (d + 7), .ref (d + 8), .ref (d + 9), .ref (d + 10), .ref (d + 11), .ref (d + 12), .ref (d + 13), .ref (d + 14), .ref (d + 15), .ref (d + 16), .ref (d + 17), .int (w 20), .ref (d + 18), .int (w 22), .ref (d + 19), .ref (d + 20), .ref (d + 21), .int (w 26), .int (w 27), .int (w 28), .ref (d + 22), .ref (d + 23), .ref (d + 24), .ref (d + 25), .ref (d + 26), .int (w 34), .ref (d + 27), .ref (d + 28), .int (w 37), .int (w 38)])) H2 := hR6.1
        refine g_get X kc_Model mo7 2 (by decide) lk_Model_102 rfl d_Model_edges_32 ?_
        refine g_top (nI tp.length) ht.1 ?_
        refine g_istn X.1.1 X.1.2.1 hl 2 d_Model_edges_35 rfl (Nat.le_of_ble_eq_true rfl) rfl (fun ls hl => ?_)
        refine lv_aload_n X.1.1 X.1.2.1 d_Model_edges_36 rfl (gl_at hl rfl) ?_
        refine lv_iconst (v := nI 0) X.1.1 X.1.2.1 d_Model_edges_37 (by decide) ?_
        refine g_put (A := (fun p => d ≤ p ∧ p ≤ d + 28)) X kc_Model mo7 2 (by decide) lk_Model_102 rfl rfl rfl (Nat.le_of_ble_eq_true rfl) d_Model_edges_38 ⟨by omega, by omega⟩ hL (fun H8 locs h9 z10 oq11 hL => ?_)
        have hR12 : dR D q H8 d (upd (upd w 0 (nI 0)) 2 (nI 0)) ar := hR6.putO h9 oq11
        refine lv_aload_n X.1.1 X.1.2.1 d_Model_edges_41 rfl (gl_at hl rfl) ?_
        refine lv_iconst (v := nI 0) X.1.1 X.1.2.1 d_Model_edges_42 (by decide) ?_
        refine lv_aload_n X.1.1 X.1.2.1 d_Model_edges_43 rfl (gl_at hl rfl) ?_
        have mo13 : va_at D CL (d, .inr (10, [.int (nI 0), .ref (d + 1), .int (nI 0), .ref (d + 2), .ref (d + 3), .ref (d + 4), .ref (d + 5), .ref (d + 6), .int (w 8), .ref (d + 7), .ref (d + 8), .ref (d + 9), .ref (d + 10), .ref (d + 11), .ref (d + 12), .ref (d + 13), .ref (d + 14), .ref (d + 15), .ref (d + 16), .ref (d + 17), .int (w 20), .ref (d + 18), .int (w 22), .ref (d + 19), .ref (d + 20), .ref (d + 21), .int (w 26), .int (w 27), .int (w 28), .ref (d + 22), .ref (d + 23), .ref (d + 24), .ref (d + 25), .ref (d + 26), .int (w 34), .ref (d + 27), .ref (d + 28), .int (w 37), .int (w 38)])) H8 := hR12.1
        refine g_get X kc_Model mo13 1 (by decide) lk_Model_7 rfl d_Model_edges_44 ?_
        refine lv_iconst (v := nI 0) X.1.1 X.1.2.1 d_Model_edges_47 (by decide) ?_
        refine lv_iload_n X.1.1 X.1.2.1 d_Model_edges_48 rfl (gl_at hl rfl) ?_
        refine g_cv (A := (fun p => d ≤ p ∧ p ≤ d + 28)) X gWS_good mw_Model_133 kc_Model mo13 (c_Model_keyOf l D q H8 d (upd (upd w 0 (nI 0)) 2 (nI 0)) ar hR12 kk hk n chg hm 0 (by decide) (d + 1) 8 (ar 1) hR12.a1 0 _ tp rfl ht.2.1 (by omega) (by omega) ht.2.2.2) (fun _ _ _ => trivial) gBlind.tt rfl rfl hl.1 (Nat.le_of_ble_eq_true rfl) rfl rfl ⟨by decide, by decide⟩ ⟨by decide, by decide⟩ d_Model_edges_49 (fun _ h => h.elim) hL (fun v14 H15 locs hp16 hL => ?_)
        obtain ⟨⟨o, rfl, ho⟩, hHe⟩ := hp16
        rw [hHe]
        obtain ⟨g, rfl⟩ : ∃ g, o = some g := by
          cases o with
          | none => obtain ⟨j, h1, h2⟩ := hex; exact absurd (by rw [Nat.mul_zero, Nat.zero_add]; exact h2) (ho j h1)
          | some g => exact ⟨g, rfl⟩
        have hg0 := ho.lt
        refine g_istn X.1.1 X.1.2.1 hl 3 d_Model_edges_52 rfl (Nat.le_of_ble_eq_true rfl) rfl (fun ls hl => ?_)
        refine lv_iload_n X.1.1 X.1.2.1 d_Model_edges_53 rfl (gl_at hl rfl) ?_
        refine lv_iconst (v := (-1)) X.1.1 X.1.2.1 d_Model_edges_54 (by decide) ?_
        refine lv_icmp_ne X.1.1 X.1.2.1 d_Model_edges_55 rfl (fun hc55 => ?_) (fun hc55 => ?_)
        · refine lv_aload_n X.1.1 X.1.2.1 d_Model_edges_62 rfl (gl_at hl rfl) ?_
          refine lv_iload_n X.1.1 X.1.2.1 d_Model_edges_63 rfl (gl_at hl rfl) ?_
          refine g_cv (A := (fun p => d ≤ p ∧ p ≤ d + 28)) X gWS_good mw_Model_190 kc_Model mo13 (c_Model_depth l D q H8 d (upd (upd w 0 (nI 0)) 2 (nI 0)) ar hR12 kk hk n chg hm g (by omega) (fun k h1 h2 => hdi k g h1 (by omega) h2)) (fun _ _ _ => trivial) gBlind.tt rfl rfl hl.1 (Nat.le_of_ble_eq_true rfl) rfl rfl ⟨by decide, by decide⟩ ⟨by decide, by decide⟩ d_Model_edges_64 (fun _ h => h) hL (fun v17 H18 locs hp19 hL => ?_)
          obtain ⟨F, rfl, hp9⟩ := hp19
          obtain ⟨hR20, z21, fr22⟩ := hp9
          exact g_iret X B ⟨g, F, ⟨by omega, by obtain ⟨j, h1, h2, h3⟩ := ho; exact h3, rfl⟩, hR20, (z21.trans (z10.trans z4)), fun p hp => ((fr22 p (by omega)).trans ((oq11 p (by omega)).trans (oq5 p (by omega))))⟩ hL d_Model_edges_67 (by omega) (by omega)
        · exact absurd hc55 (d_m1 (by omega))
      · omega
    · omega
