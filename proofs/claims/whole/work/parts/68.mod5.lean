/-! the class KeyHallModel, 5: printed by wip/specs/m5.py -/
/-- the rows of the texts that are kept -/
def pH (f27 f28 : Nat → Int32) (us : List (List Nat)) (ed : Nat) : Prop := us.length ≤ 20 ∧ us.length ≤ ed ∧ ∀ i, i < us.length → f28 ((ed - 1 - i) % 21) = nI (us.getD i []).length ∧ (us.getD i []).length ≤ 120 ∧ t16 (us.getD i []) ∧ tXo f27 (120 * ((ed - 1 - i) % 21)) (us.getD i [])
/-- the text and what is kept of it -/
def pP (w : Nat → Int32) (ar : Nat → Nat → Int32) (xs : List Nat) (us : List (List Nat)) (ed : Nat) : Prop := w 34 = nI xs.length ∧ tXo (ar 26) 0 xs ∧ xs.length ≤ 120 ∧ t16 xs ∧ w 37 = nI ed ∧ w 38 = nI us.length ∧ ed < 2 ^ 30 ∧ pH (ar 27) (ar 28) us ed
theorem pH.push {f27 f28 F : Nat → Int32} {us : List (List Nat)} {ed : Nat} {xs : List Nat} (h : pH f27 f28 us ed) (hx : xs.length ≤ 120) (hc : t16 xs) (hF : tCp F f27 (120 * (ed % 21)) xs xs.length) : pH F (upd f28 (ed % 21) (nI xs.length)) ((xs :: us).take 20) (ed + 1) := by
  obtain ⟨h1, h2, h3⟩ := h
  have hl : ((xs :: us).take 20).length ≤ 20 := by rw [List.length_take]; omega
  have hl2 : ((xs :: us).take 20).length ≤ us.length + 1 := by rw [List.length_take, List.length_cons]; omega
  refine ⟨hl, by omega, fun i hi => ?_⟩
  have hi20 : i < 20 := by omega
  cases i with
  | zero =>
    have e0 : ((xs :: us).take 20).getD 0 [] = xs := rfl
    rw [e0, show ed + 1 - 1 - 0 = ed by omega, pk_us]
    exact ⟨rfl, hx, hc, fun j hj => hF.1 j hj⟩
  | succ i =>
    have e1 : ((xs :: us).take 20).getD (i + 1) [] = us.getD i [] := by
      rw [List.getD_eq_getElem?_getD, List.getD_eq_getElem?_getD, List.getElem?_take_of_lt (by omega), List.getElem?_cons_succ]
    obtain ⟨a1, a2, a3, a4⟩ := h3 i (by omega)
    have er : ed + 1 - 1 - (i + 1) = ed - 1 - i := by omega
    have hne : (ed - 1 - i) % 21 ≠ ed % 21 := by omega
    rw [e1, er, pk_un hne]
    exact ⟨a1, a2, a3, fun j hj => by rw [hF.2 _ (by omega)]; exact a4 j hj⟩
theorem pH.pop {f27 f28 : Nat → Int32} {u : List Nat} {us : List (List Nat)} {ed : Nat} (h : pH f27 f28 (u :: us) ed) : pH f27 f28 us (ed - 1) := by
  obtain ⟨h1, h2, h3⟩ := h
  rw [List.length_cons] at h1 h2
  refine ⟨by omega, by omega, fun i hi => ?_⟩
  have h4 := h3 (i + 1) (by rw [List.length_cons]; omega)
  rw [show ed - 1 - (i + 1) = ed - 1 - 1 - i by omega] at h4
  exact h4
theorem tXo_drop {f : Nat → Int32} {xs : List Nat} (h : tXo f 0 xs) (j : Nat) : tXo f j (xs.drop j) := by
  intro i hi
  rw [List.length_drop] at hi
  have h1 := h (j + i) (by omega)
  rw [Nat.zero_add] at h1
  rw [h1, List.getD_eq_getElem?_getD, List.getD_eq_getElem?_getD, List.getElem?_drop]
theorem t16_drop {xs : List Nat} (h : t16 xs) (n : Nat) : t16 (xs.drop n) := fun z hz => h z (List.mem_of_mem_drop hz)
theorem gs_lti {k i : Nat} (hk : k < 2 ^ 30) (hi : i < 2 ^ 30) (h : nI k - 1 < nI i) : k ≤ i := by
  have h1 := Int32.lt_iff_toInt_lt.mp h
  rw [show nI k - 1 = nI k - nI 1 from rfl, pk_sub_toInt hk (by decide), nI_toInt (by omega)] at h1
  omega
theorem gs_nlti {k i : Nat} (hk : k < 2 ^ 30) (hi : i < 2 ^ 30) (h : ¬ nI k - 1 < nI i) : i < k := by
  have h1 := mt Int32.lt_iff_toInt_lt.mpr h
  rw [show nI k - 1 = nI k - nI 1 from rfl, pk_sub_toInt hk (by decide), nI_toInt (by omega)] at h1
  omega
/-- a text into which another was put -/
theorem tXo_ins {f F G : Nat → Int32} {xs tp : List Nat} {ii : Nat} (hx : tXo f 0 xs) (hi : ii ≤ xs.length) (hF : ∀ x, F x = if ii + tp.length ≤ x ∧ x < xs.length + tp.length then f (x - tp.length) else f x) (hG : tCp G F ii tp tp.length) : tXo G 0 (xs.take ii ++ tp ++ xs.drop ii) := by
  intro j hj
  rw [List.length_append, List.length_append, List.length_take, List.length_drop] at hj
  rw [Nat.zero_add, List.getD_eq_getElem?_getD]
  have hg : ∀ k, f k = nI (xs.getD k 0) ∨ xs.length ≤ k := fun k => by
    by_cases h : k < xs.length
    · have := hx k h
      rw [Nat.zero_add] at this
      exact Or.inl this
    · exact Or.inr (by omega)
  by_cases h1 : j < ii
  · rw [hG.2 j (by omega), hF j, if_neg (by omega), List.getElem?_append_left (by rw [List.length_append, List.length_take]; omega), List.getElem?_append_left (by rw [List.length_take]; omega), List.getElem?_take_of_lt h1]
    rcases hg j with h | h
    · rw [h, List.getD_eq_getElem?_getD]
    · omega
  · by_cases h2 : j < ii + tp.length
    · rw [show j = ii + (j - ii) by omega, hG.1 (j - ii) (by omega), List.getElem?_append_left (by rw [List.length_append, List.length_take]; omega), List.getElem?_append_right (by rw [List.length_take]; omega), List.length_take, show ii + (j - ii) - min ii xs.length = j - ii by omega, List.getD_eq_getElem?_getD]
    · rw [hG.2 j (by omega), hF j, if_pos (by omega), List.getElem?_append_right (by rw [List.length_append, List.length_take]; omega), List.length_append, List.length_take, List.getElem?_drop, show ii + (j - (min ii xs.length + tp.length)) = j - tp.length by omega]
      rcases hg (j - tp.length) with h | h
      · rw [h, List.getD_eq_getElem?_getD]
      · omega
/-- a text out of which a piece was taken -/
theorem tXo_del {f F : Nat → Int32} {xs : List Nat} {ii kx : Nat} (hx : tXo f 0 xs) (hi : ii ≤ kx) (hk : kx ≤ xs.length) (hF : ∀ x, F x = if ii ≤ x ∧ x < ii + (xs.length - kx) then f (x - ii + kx) else f x) : tXo F 0 (xs.take ii ++ xs.drop kx) := by
  intro j hj
  rw [List.length_append, List.length_take, List.length_drop] at hj
  rw [Nat.zero_add, List.getD_eq_getElem?_getD]
  have hg : ∀ k, k < xs.length → f k = nI (xs.getD k 0) := fun k h => by
    have := hx k h
    rw [Nat.zero_add] at this
    exact this
  by_cases h1 : j < ii
  · rw [hF j, if_neg (by omega), List.getElem?_append_left (by rw [List.length_take]; omega), List.getElem?_take_of_lt h1, hg j (by omega), List.getD_eq_getElem?_getD]
  · rw [hF j, if_pos (by omega), List.getElem?_append_right (by rw [List.length_take]; omega), List.length_take, List.getElem?_drop, show kx + (j - min ii xs.length) = j - ii + kx by omega, hg _ (by omega), List.getD_eq_getElem?_getD]

set_option maxHeartbeats 4000000 in
set_option maxRecDepth 100000 in
/-- keep -/
theorem c_Model_keep (l : Launch) (D : va_G) (q : Nat → ClassId) (H : Heap) (d : Nat) (w : Nat → Int32) (ar : Nat → Nat → Int32) (hR : dR D q H d w ar) (xs : List Nat) (us : List (List Nat)) (ed : Nat) (hP : pP w ar xs us ed) : gC l y_Model_keep (Cond.code y_Model_keep b_Model_keep 3 none :: gWS) (gR 0 0 0 0) D CL (gY q) (fun _ => True) [.ref d] H (fun v1 H1 => ∃ F : Nat → Int32, (v1 = none ∧ tCp F (ar 27) (120 * (ed % 21)) xs xs.length) ∧ dR D q H1 d (upd (upd w 37 (nI (ed + 1))) 38 (nI (((xs :: us).take 20).length))) (va_up (va_up ar 27 F) 28 (upd (ar 28) (ed % 21) (nI xs.length))) ∧ H1.size = H.size ∧ ∀ p : Nat, (p < d ∨ d + 28 < p) → H1[p]? = H[p]?) 0 0 (fun p => d ≤ p ∧ p ≤ d + 28) := by
  refine gC.ofW R_Model "keep" (by decide) rfl rfl ?_
  intro p e s m below meth c hadm X hE hH B hne
  refine g_entry [some (.ref d), none, none] rfl rfl (Nat.le_of_ble_eq_true rfl) (fun ls hl => ?_)
  obtain ⟨hp1, hp2, hp3, hp4, hp5, hp6, hp7, hp8⟩ := hP
  have hp9 := hp8.1
  refine lv_aload_n X.1.1 X.1.2.1 d_Model_keep_0 rfl (gl_at hl rfl) ?_
  have mo1 : va_at D CL (d, .inr (10, [.int (w 0), .ref (d + 1), .int (w 2), .ref (d + 2), .ref (d + 3), .ref (d + 4), .ref (d + 5), .ref (d + 6), .int (w 8), .ref (d + 7), .ref (d + 8), .ref (d + 9), .ref (d + 10), .ref (d + 11), .ref (d + 12), .ref (d + 13), .ref (d + 14), .ref (d + 15), .ref (d + 16), .ref (d + 17), .int (w 20), .ref (d + 18), .int (w 22), .ref (d + 19), .ref (d + 20), .ref (d + 21), .int (w 26), .int (w 27), .int (w 28), .ref (d + 22), .ref (d + 23), .ref (d + 24), .ref (d + 25), .ref (d + 26), .int (w 34), .ref (d + 27), .ref (d + 28), .int (w 37), .int (w 38)])) H := hR.1
  refine g_get X kc_Model mo1 37 (by decide) lk_Model_229 rfl d_Model_keep_1 ?_
  refine g_top (nI ed) hp5 ?_
  refine lv_bipush (v := nI 21) X.1.1 X.1.2.1 d_Model_keep_4 (by decide) ?_
  refine lv_irem X.1.1 X.1.2.1 d_Model_keep_6 (by decide) ?_
  refine g_top (nI (ed % 21)) (pk_rem (by omega) (by decide) (by decide)) ?_
  refine g_istn X.1.1 X.1.2.1 hl 1 d_Model_keep_7 rfl (Nat.le_of_ble_eq_true rfl) rfl (fun ls hl => ?_)
  refine lv_iconst (v := nI 0) X.1.1 X.1.2.1 d_Model_keep_8 (by decide) ?_
  refine g_istn X.1.1 X.1.2.1 hl 2 d_Model_keep_9 rfl (Nat.le_of_ble_eq_true rfl) rfl (fun ls hl => ?_)
  have loop10 : ∀ (fu : Nat) (i : Nat) (F : Nat → Int32) (Hn : Heap) (locs : List Loc) (ls : Array Slot), xs.length - i < fu → (i ≤ xs.length) → (tCp F (ar 27) (120 * (ed % 21)) xs i) → (dR D q Hn d w (va_up ar 27 F)) → (Hn.size = H.size) → (∀ p : Nat, (p < d ∨ d + 28 < p) → Hn[p]? = H[p]?) → (∀ x ∈ locs, (fun p => d ≤ p ∧ p ≤ d + 28) x.base) → gl ls [some (.ref d), some (.int (nI (ed % 21))), some (.int (nI i))] → W p l e (gR 0 0 0 0) s m ([.ref d] : List Value).toArray below meth c Hn locs 0 0 (gQ below ([.ref d] : List Value).toArray s (fun v1 H1 => ∃ F : Nat → Int32, (v1 = none ∧ tCp F (ar 27) (120 * (ed % 21)) xs xs.length) ∧ dR D q H1 d (upd (upd w 37 (nI (ed + 1))) 38 (nI (((xs :: us).take 20).length))) (va_up (va_up ar 27 F) 28 (upd (ar 28) (ed % 21) (nI xs.length))) ∧ H1.size = H.size ∧ ∀ p : Nat, (p < d ∨ d + 28 < p) → H1[p]? = H[p]?) 0 0 (fun p => d ≤ p ∧ p ≤ d + 28)) (F0 m 10 ls []) := by
    intro fu
    induction fu with
    | zero => intro i F Hn locs ls hmu; omega
    | succ fu ih10 =>
      intro i F Hn locs ls hmu10 hi10_0 hi10_1 hRl hzl frl hL hl
      refine lv_iload_n X.1.1 X.1.2.1 d_Model_keep_10 rfl (gl_at hl rfl) ?_
      refine lv_aload_n X.1.1 X.1.2.1 d_Model_keep_11 rfl (gl_at hl rfl) ?_
      have mo2 : va_at D CL (d, .inr (10, [.int (w 0), .ref (d + 1), .int (w 2), .ref (d + 2), .ref (d + 3), .ref (d + 4), .ref (d + 5), .ref (d + 6), .int (w 8), .ref (d + 7), .ref (d + 8), .ref (d + 9), .ref (d + 10), .ref (d + 11), .ref (d + 12), .ref (d + 13), .ref (d + 14), .ref (d + 15), .ref (d + 16), .ref (d + 17), .int (w 20), .ref (d + 18), .int (w 22), .ref (d + 19), .ref (d + 20), .ref (d + 21), .int (w 26), .int (w 27), .int (w 28), .ref (d + 22), .ref (d + 23), .ref (d + 24), .ref (d + 25), .ref (d + 26), .int (w 34), .ref (d + 27), .ref (d + 28), .int (w 37), .int (w 38)])) Hn := hRl.1
      refine g_get X kc_Model mo2 34 (by decide) lk_Model_232 rfl d_Model_keep_12 ?_
      refine g_top (nI xs.length) hp1 ?_
      refine gn_ge X.1.1 X.1.2.1 i xs.length (by omega) (by omega) d_Model_keep_15 rfl (fun hc15 => ?_) (fun hc15 => ?_)
      · refine lv_aload_n X.1.1 X.1.2.1 d_Model_keep_41 rfl (gl_at hl rfl) ?_
        refine g_get X kc_Model mo2 36 (by decide) lk_Model_96 rfl d_Model_keep_42 ?_
        refine lv_iload_n X.1.1 X.1.2.1 d_Model_keep_45 rfl (gl_at hl rfl) ?_
        refine lv_aload_n X.1.1 X.1.2.1 d_Model_keep_46 rfl (gl_at hl rfl) ?_
        refine g_get X kc_Model mo2 34 (by decide) lk_Model_232 rfl d_Model_keep_47 ?_
        refine g_top (nI xs.length) hp1 ?_
        have ma3 : va_at D CL (d + 28, .inl (q 0, 21, .inl (ar 28))) Hn := hRl.a28
        refine g_iast (A := (fun p => d ≤ p ∧ p ≤ d + 28)) X 0 ma3 rfl (ed % 21) (by omega) (by decide) d_Model_keep_50 ⟨by omega, by omega⟩ hL (fun H4 locs h5 z6 oq7 hL => ?_)
        have hR8 : dR D q H4 d w (va_up (va_up ar 27 F) 28 (upd (ar 28) (ed % 21) (nI xs.length))) := hRl.putB 28 (by decide) h5 oq7 rfl (fun j hj => by simp only [va_up, if_neg hj])
        refine lv_aload_n X.1.1 X.1.2.1 d_Model_keep_51 rfl (gl_at hl rfl) ?_
        refine lv_dup X.1.1 X.1.2.1 d_Model_keep_52 rfl ?_
        have mo9 : va_at D CL (d, .inr (10, [.int (w 0), .ref (d + 1), .int (w 2), .ref (d + 2), .ref (d + 3), .ref (d + 4), .ref (d + 5), .ref (d + 6), .int (w 8), .ref (d + 7), .ref (d + 8), .ref (d + 9), .ref (d + 10), .ref (d + 11), .ref (d + 12), .ref (d + 13), .ref (d + 14), .ref (d + 15), .ref (d + 16), .ref (d + 17), .int (w 20), .ref (d + 18), .int (w 22), .ref (d + 19), .ref (d + 20), .ref (d + 21), .int (w 26), .int (w 27), .int (w 28), .ref (d + 22), .ref (d + 23), .ref (d + 24), .ref (d + 25), .ref (d + 26), .int (w 34), .ref (d + 27), .ref (d + 28), .int (w 37), .int (w 38)])) H4 := hR8.1
        refine g_get X kc_Model mo9 37 (by decide) lk_Model_229 rfl d_Model_keep_53 ?_
        refine g_top (nI ed) hp5 ?_
        refine lv_iconst (v := nI 1) X.1.1 X.1.2.1 d_Model_keep_56 (by decide) ?_
        refine lv_iadd X.1.1 X.1.2.1 d_Model_keep_57 ?_
        refine g_top (nI (ed + 1)) (nI_add _ _) ?_
        refine g_put (A := (fun p => d ≤ p ∧ p ≤ d + 28)) X kc_Model mo9 37 (by decide) lk_Model_229 rfl rfl rfl (Nat.le_of_ble_eq_true rfl) d_Model_keep_58 ⟨by omega, by omega⟩ hL (fun H10 locs h11 z12 oq13 hL => ?_)
        have hR14 : dR D q H10 d (upd w 37 (nI (ed + 1))) (va_up (va_up ar 27 F) 28 (upd (ar 28) (ed % 21) (nI xs.length))) := hR8.putO h11 oq13
        refine lv_aload_n X.1.1 X.1.2.1 d_Model_keep_61 rfl (gl_at hl rfl) ?_
        refine lv_aload_n X.1.1 X.1.2.1 d_Model_keep_62 rfl (gl_at hl rfl) ?_
        have mo15 : va_at D CL (d, .inr (10, [.int (w 0), .ref (d + 1), .int (w 2), .ref (d + 2), .ref (d + 3), .ref (d + 4), .ref (d + 5), .ref (d + 6), .int (w 8), .ref (d + 7), .ref (d + 8), .ref (d + 9), .ref (d + 10), .ref (d + 11), .ref (d + 12), .ref (d + 13), .ref (d + 14), .ref (d + 15), .ref (d + 16), .ref (d + 17), .int (w 20), .ref (d + 18), .int (w 22), .ref (d + 19), .ref (d + 20), .ref (d + 21), .int (w 26), .int (w 27), .int (w 28), .ref (d + 22), .ref (d + 23), .ref (d + 24), .ref (d + 25), .ref (d + 26), .int (w 34), .ref (d + 27), .ref (d + 28), .int (nI (ed + 1)), .int (w 38)])) H10 := hR14.1
        refine g_get X kc_Model mo15 38 (by decide) lk_Model_234 rfl d_Model_keep_63 ?_
        refine g_top (nI us.length) hp6 ?_
        refine lv_bipush (v := nI 20) X.1.1 X.1.2.1 d_Model_keep_66 (by decide) ?_
        refine gn_ge X.1.1 X.1.2.1 us.length 20 (by omega) (by omega) d_Model_keep_68 rfl (fun hc68 => ?_) (fun hc68 => ?_)
        · refine lv_bipush (v := nI 20) X.1.1 X.1.2.1 d_Model_keep_80 (by decide) ?_
          refine g_put (A := (fun p => d ≤ p ∧ p ≤ d + 28)) X kc_Model mo15 38 (by decide) lk_Model_234 rfl rfl rfl (Nat.le_of_ble_eq_true rfl) d_Model_keep_82 ⟨by omega, by omega⟩ hL (fun H16 locs h17 z18 oq19 hL => ?_)
          have hR20 : dR D q H16 d (upd (upd w 37 (nI (ed + 1))) 38 (nI 20)) (va_up (va_up ar 27 F) 28 (upd (ar 28) (ed % 21) (nI xs.length))) := hR14.putO h17 oq19
          exact g_vret X B ⟨F, ⟨rfl, by rw [show xs.length = i by omega]; exact hi10_1⟩, (by rw [show ((xs :: us).take 20).length = 20 by rw [his_len]; split <;> omega]; exact hR20), (z18.trans (z12.trans (z6.trans hzl))), fun p hp => ((oq19 p (by omega)).trans ((oq13 p (by omega)).trans ((oq7 p (by omega)).trans (frl p (by omega)))))⟩ hL d_Model_keep_85 (by omega) (by omega)
        · refine lv_aload_n X.1.1 X.1.2.1 d_Model_keep_71 rfl (gl_at hl rfl) ?_
          refine g_get X kc_Model mo15 38 (by decide) lk_Model_234 rfl d_Model_keep_72 ?_
          refine g_top (nI us.length) hp6 ?_
          refine lv_iconst (v := nI 1) X.1.1 X.1.2.1 d_Model_keep_75 (by decide) ?_
          refine lv_iadd X.1.1 X.1.2.1 d_Model_keep_76 ?_
          refine g_top (nI (us.length + 1)) (nI_add _ _) ?_
          refine lv_goto X.1.1 X.1.2.1 d_Model_keep_77 rfl ?_
          refine g_put (A := (fun p => d ≤ p ∧ p ≤ d + 28)) X kc_Model mo15 38 (by decide) lk_Model_234 rfl rfl rfl (Nat.le_of_ble_eq_true rfl) d_Model_keep_82 ⟨by omega, by omega⟩ hL (fun H21 locs h22 z23 oq24 hL => ?_)
          have hR25 : dR D q H21 d (upd (upd w 37 (nI (ed + 1))) 38 (nI (us.length + 1))) (va_up (va_up ar 27 F) 28 (upd (ar 28) (ed % 21) (nI xs.length))) := hR14.putO h22 oq24
          exact g_vret X B ⟨F, ⟨rfl, by rw [show xs.length = i by omega]; exact hi10_1⟩, (by rw [show ((xs :: us).take 20).length = us.length + 1 by rw [his_len]; split <;> omega]; exact hR25), (z23.trans (z12.trans (z6.trans hzl))), fun p hp => ((oq24 p (by omega)).trans ((oq13 p (by omega)).trans ((oq7 p (by omega)).trans (frl p (by omega)))))⟩ hL d_Model_keep_85 (by omega) (by omega)
      · refine lv_aload_n X.1.1 X.1.2.1 d_Model_keep_18 rfl (gl_at hl rfl) ?_
        refine g_get X kc_Model mo2 35 (by decide) lk_Model_93 rfl d_Model_keep_19 ?_
        refine lv_bipush (v := nI 120) X.1.1 X.1.2.1 d_Model_keep_22 (by decide) ?_
        refine lv_iload_n X.1.1 X.1.2.1 d_Model_keep_24 rfl (gl_at hl rfl) ?_
        refine lv_imul X.1.1 X.1.2.1 d_Model_keep_25 ?_
        refine g_top (nI (120 * (ed % 21))) (pk_mul _ _) ?_
        refine lv_iload_n X.1.1 X.1.2.1 d_Model_keep_26 rfl (gl_at hl rfl) ?_
        refine lv_iadd X.1.1 X.1.2.1 d_Model_keep_27 ?_
        refine g_top (nI ((120 * (ed % 21)) + i)) (nI_add _ _) ?_
        refine lv_aload_n X.1.1 X.1.2.1 d_Model_keep_28 rfl (gl_at hl rfl) ?_
        refine g_get X kc_Model mo2 33 (by decide) lk_Model_90 rfl d_Model_keep_29 ?_
        refine lv_iload_n X.1.1 X.1.2.1 d_Model_keep_32 rfl (gl_at hl rfl) ?_
        have ma26 : va_at D CL (d + 26, .inl (q 0, 120, .inl (ar 26))) Hn := hRl.a26
        refine g_iald X 0 ma26 rfl i (by omega) (by omega) d_Model_keep_33 ?_
        refine g_top (nI (xs.getD i 0)) ((congrArg (ar 26) (by omega)).trans (hp2 i (by omega))) ?_
        have ma27 : va_at D CL (d + 27, .inl (q 0, 2520, .inl F)) Hn := hRl.a27
        refine g_iast (A := (fun p => d ≤ p ∧ p ≤ d + 28)) X 0 ma27 rfl ((120 * (ed % 21)) + i) (by omega) (by decide) d_Model_keep_34 ⟨by omega, by omega⟩ hL (fun H28 locs h29 z30 oq31 hL => ?_)
        have hR32 : dR D q H28 d w (va_up ar 27 (upd F ((120 * (ed % 21)) + i) (nI (xs.getD i 0)))) := hRl.putB 27 (by decide) h29 oq31 rfl (fun j hj => by simp only [va_up, if_neg hj])
        refine g_iinc X.1.1 X.1.2.1 (nI (i + 1)) hl 2 d_Model_keep_35 rfl (nI_1 _) rfl (fun ls hl => ?_)
        refine lv_goto X.1.1 X.1.2.1 d_Model_keep_38 rfl ?_
        exact ih10 (i + 1) (upd F ((120 * (ed % 21)) + i) (nI (xs.getD i 0))) H28 locs ls (by omega) (by omega) (hi10_1.step rfl) hR32 (z30.trans hzl) (fun p hp => ((oq31 p (by omega)).trans (frl p (by omega)))) hL hl
  exact loop10 _ 0 (ar 27) H [] ls (Nat.lt_succ_self _) (Nat.zero_le _) tCp.zero (hR.as (fun j => by first | rfl | (simp only [upd]; (repeat' split) <;> first | rfl | omega | (subst_vars; rfl))) (fun j => by first | rfl | (simp only [va_up]; (repeat' split) <;> first | rfl | omega | (subst_vars; rfl)))) rfl (fun p hp => rfl) (fun _ h => by cases h) hl

set_option maxHeartbeats 4000000 in
set_option maxRecDepth 100000 in
/-- insert: refused -/
theorem c_Model_insertB (l : Launch) (D : va_G) (q : Nat → ClassId) (H : Heap) (d : Nat) (w : Nat → Int32) (ar : Nat → Nat → Int32) (hR : dR D q H d w ar) (xs : List Nat) (us : List (List Nat)) (ed : Nat) (hP : pP w ar xs us ed) (x : Int32) (hbad : ¬ (¬ x < 0 ∧ x ≤ nI xs.length)) : gC l y_Model_insert (Cond.code y_Model_insert b_Model_insert 4 (some .int) :: gWS) (gR 1 22 0 0) D CL (gY q) (fun _ => True) [.ref d, .int x] H (fun v1 H1 => v1 = some (.int 0) ∧ dR D q H1 d (upd w 0 (nI 1)) ar ∧ H1.size = H.size ∧ ∀ p : Nat, (p < d ∨ d + 28 < p) → H1[p]? = H[p]?) 0 0 (fun p => d ≤ p ∧ p ≤ d + 28) := by
  refine gC.ofW R_Model "insert" (by decide) rfl rfl ?_
  intro p e s m below meth c hadm X hE hH B hne
  refine g_entry [some (.ref d), some (.int x), none, none] rfl rfl (Nat.le_of_ble_eq_true rfl) (fun ls hl => ?_)
  obtain ⟨hp1, hp2, hp3, hp4, hp5, hp6, hp7, hp8⟩ := hP
  have hp9 := hp8.1
  refine lv_iload_n X.1.1 X.1.2.1 d_Model_insert_0 rfl (gl_at hl rfl) ?_
  refine lv_if_lt X.1.1 X.1.2.1 d_Model_insert_1 rfl (fun hc1 => ?_) (fun hc1 => ?_)
  · refine lv_aload_n X.1.1 X.1.2.1 d_Model_insert_12 rfl (gl_at hl rfl) ?_
    refine lv_iconst (v := nI 1) X.1.1 X.1.2.1 d_Model_insert_13 (by decide) ?_
    have mo1 : va_at D CL (d, .inr (10, [.int (w 0), .ref (d + 1), .int (w 2), .ref (d + 2), .ref (d + 3), .ref (d + 4), .ref (d + 5), .ref (d + 6), .int (w 8), .ref (d + 7), .ref (d + 8), .ref (d + 9), .ref (d + 10), .ref (d + 11), .ref (d + 12), .ref (d + 13), .ref (d + 14), .ref (d + 15), .ref (d + 16), .ref (d + 17), .int (w 20), .ref (d + 18), .int (w 22), .ref (d + 19), .ref (d + 20), .ref (d + 21), .int (w 26), .int (w 27), .int (w 28), .ref (d + 22), .ref (d + 23), .ref (d + 24), .ref (d + 25), .ref (d + 26), .int (w 34), .ref (d + 27), .ref (d + 28), .int (w 37), .int (w 38)])) H := hR.1
    refine g_cv (A := (fun p => d ≤ p ∧ p ≤ d + 28)) X gWS_good mw_Model_126 kc_Model mo1 (c_Model_raise l D q H d w ar hR (nI 1)) (fun _ _ _ => trivial) gBlind.tt rfl rfl hl.1 (Nat.le_of_ble_eq_true rfl) rfl rfl ⟨by decide, by decide⟩ ⟨by decide, by decide⟩ d_Model_insert_14 (fun _ h => h) (fun _ h => by cases h) (fun v2 H3 locs hp4 hL => ?_)
    obtain ⟨rfl, hR5, z6, fr7⟩ := hp4
    exact g_iret X B ⟨rfl, hR5, z6, fun p hp => (fr7 p (by omega))⟩ hL d_Model_insert_17 (by omega) (by omega)
  · refine lv_iload_n X.1.1 X.1.2.1 d_Model_insert_4 rfl (gl_at hl rfl) ?_
    refine lv_aload_n X.1.1 X.1.2.1 d_Model_insert_5 rfl (gl_at hl rfl) ?_
    have mo8 : va_at D CL (d, .inr (10, [.int (w 0), .ref (d + 1), .int (w 2), .ref (d + 2), .ref (d + 3), .ref (d + 4), .ref (d + 5), .ref (d + 6), .int (w 8), .ref (d + 7), .ref (d + 8), .ref (d + 9), .ref (d + 10), .ref (d + 11), .ref (d + 12), .ref (d + 13), .ref (d + 14), .ref (d + 15), .ref (d + 16), .ref (d + 17), .int (w 20), .ref (d + 18), .int (w 22), .ref (d + 19), .ref (d + 20), .ref (d + 21), .int (w 26), .int (w 27), .int (w 28), .ref (d + 22), .ref (d + 23), .ref (d + 24), .ref (d + 25), .ref (d + 26), .int (w 34), .ref (d + 27), .ref (d + 28), .int (w 37), .int (w 38)])) H := hR.1
    refine g_get X kc_Model mo8 34 (by decide) lk_Model_232 rfl d_Model_insert_6 ?_
    refine g_top (nI xs.length) hp1 ?_
    refine lv_icmp_le X.1.1 X.1.2.1 d_Model_insert_9 rfl (fun hc9 => ?_) (fun hc9 => ?_)
    · exact absurd ⟨hc1, hc9⟩ hbad
    · refine lv_aload_n X.1.1 X.1.2.1 d_Model_insert_12 rfl (gl_at hl rfl) ?_
      refine lv_iconst (v := nI 1) X.1.1 X.1.2.1 d_Model_insert_13 (by decide) ?_
      refine g_cv (A := (fun p => d ≤ p ∧ p ≤ d + 28)) X gWS_good mw_Model_126 kc_Model mo8 (c_Model_raise l D q H d w ar hR (nI 1)) (fun _ _ _ => trivial) gBlind.tt rfl rfl hl.1 (Nat.le_of_ble_eq_true rfl) rfl rfl ⟨by decide, by decide⟩ ⟨by decide, by decide⟩ d_Model_insert_14 (fun _ h => h) (fun _ h => by cases h) (fun v9 H10 locs hp11 hL => ?_)
      obtain ⟨rfl, hR12, z13, fr14⟩ := hp11
      exact g_iret X B ⟨rfl, hR12, z13, fun p hp => (fr14 p (by omega))⟩ hL d_Model_insert_17 (by omega) (by omega)

set_option maxHeartbeats 4000000 in
set_option maxRecDepth 100000 in
/-- insert: no room -/
theorem c_Model_insertF (l : Launch) (D : va_G) (q : Nat → ClassId) (H : Heap) (d : Nat) (w : Nat → Int32) (ar : Nat → Nat → Int32) (hR : dR D q H d w ar) (xs : List Nat) (us : List (List Nat)) (ed : Nat) (hP : pP w ar xs us ed) (tp : List Nat) (ht : pT w ar tp) (ii : Nat) (hii : ii ≤ xs.length) (hlen : 120 < xs.length + tp.length) : gC l y_Model_insert (Cond.code y_Model_insert b_Model_insert 4 (some .int) :: gWS) (gR 1 22 0 0) D CL (gY q) (fun _ => True) [.ref d, .int (nI ii)] H (fun v1 H1 => v1 = some (.int 0) ∧ dR D q H1 d (upd (upd w 0 (nI 2)) 2 (nI 0)) ar ∧ H1.size = H.size ∧ ∀ p : Nat, (p < d ∨ d + 28 < p) → H1[p]? = H[p]?) 0 0 (fun p => d ≤ p ∧ p ≤ d + 28) := by
  refine gC.ofW R_Model "insert" (by decide) rfl rfl ?_
  intro p e s m below meth c hadm X hE hH B hne
  refine g_entry [some (.ref d), some (.int (nI ii)), none, none] rfl rfl (Nat.le_of_ble_eq_true rfl) (fun ls hl => ?_)
  obtain ⟨hp1, hp2, hp3, hp4, hp5, hp6, hp7, hp8⟩ := hP
  have hp9 := hp8.1
  have ht8 := ht.2.2.1
  refine lv_iload_n X.1.1 X.1.2.1 d_Model_insert_0 rfl (gl_at hl rfl) ?_
  refine lv_if_lt X.1.1 X.1.2.1 d_Model_insert_1 rfl (fun hc1 => ?_) (fun hc1 => ?_)
  · exact absurd hc1 (nI_nneg (by omega))
  · refine lv_iload_n X.1.1 X.1.2.1 d_Model_insert_4 rfl (gl_at hl rfl) ?_
    refine lv_aload_n X.1.1 X.1.2.1 d_Model_insert_5 rfl (gl_at hl rfl) ?_
    have mo1 : va_at D CL (d, .inr (10, [.int (w 0), .ref (d + 1), .int (w 2), .ref (d + 2), .ref (d + 3), .ref (d + 4), .ref (d + 5), .ref (d + 6), .int (w 8), .ref (d + 7), .ref (d + 8), .ref (d + 9), .ref (d + 10), .ref (d + 11), .ref (d + 12), .ref (d + 13), .ref (d + 14), .ref (d + 15), .ref (d + 16), .ref (d + 17), .int (w 20), .ref (d + 18), .int (w 22), .ref (d + 19), .ref (d + 20), .ref (d + 21), .int (w 26), .int (w 27), .int (w 28), .ref (d + 22), .ref (d + 23), .ref (d + 24), .ref (d + 25), .ref (d + 26), .int (w 34), .ref (d + 27), .ref (d + 28), .int (w 37), .int (w 38)])) H := hR.1
    refine g_get X kc_Model mo1 34 (by decide) lk_Model_232 rfl d_Model_insert_6 ?_
    refine g_top (nI xs.length) hp1 ?_
    refine gn_le X.1.1 X.1.2.1 ii xs.length (by omega) (by omega) d_Model_insert_9 rfl (fun hc9 => ?_) (fun hc9 => ?_)
    · refine lv_aload_n X.1.1 X.1.2.1 d_Model_insert_18 rfl (gl_at hl rfl) ?_
      refine g_get X kc_Model mo1 2 (by decide) lk_Model_102 rfl d_Model_insert_19 ?_
      refine g_top (nI tp.length) ht.1 ?_
      refine g_istn X.1.1 X.1.2.1 hl 2 d_Model_insert_22 rfl (Nat.le_of_ble_eq_true rfl) rfl (fun ls hl => ?_)
      refine lv_aload_n X.1.1 X.1.2.1 d_Model_insert_23 rfl (gl_at hl rfl) ?_
      refine lv_iconst (v := nI 0) X.1.1 X.1.2.1 d_Model_insert_24 (by decide) ?_
      refine g_put (A := (fun p => d ≤ p ∧ p ≤ d + 28)) X kc_Model mo1 2 (by decide) lk_Model_102 rfl rfl rfl (Nat.le_of_ble_eq_true rfl) d_Model_insert_25 ⟨by omega, by omega⟩ (fun _ h => by cases h) (fun H2 locs h3 z4 oq5 hL => ?_)
      have hR6 : dR D q H2 d (upd w 2 (nI 0)) ar := hR.putO h3 oq5
      refine lv_aload_n X.1.1 X.1.2.1 d_Model_insert_28 rfl (gl_at hl rfl) ?_
      have mo7 : va_at D CL (d, .inr (10, [.int (w 0), .ref (d + 1), .int (nI 0), .ref (d + 2), .ref (d + 3), .ref (d + 4), .ref (d + 5), .ref (d + 6), .int (w 8), .ref (d + 7), .ref (d + 8), .ref (d + 9), .ref (d + 10), .ref (d + 11), .ref (d + 12), .ref (d + 13), .ref (d + 14), .ref (d + 15), .ref (d + 16), .ref (d + 17), .int (w 20), .ref (d + 18), .int (w 22), .ref (d + 19), .ref (d + 20), .ref (d + 21), .int (w 26), .int (w 27), .int (w 28), .ref (d + 22), .ref (d + 23), .ref (d + 24), .ref (d + 25), .ref (d + 26), .int (w 34), .ref (d + 27), .ref (d + 28), .int (w 37), .int (w 38)])) H2 := hR6.1
      refine g_get X kc_Model mo7 34 (by decide) lk_Model_232 rfl d_Model_insert_29 ?_
      refine g_top (nI xs.length) hp1 ?_
      refine lv_iload_n X.1.1 X.1.2.1 d_Model_insert_32 rfl (gl_at hl rfl) ?_
      refine lv_iadd X.1.1 X.1.2.1 d_Model_insert_33 ?_
      refine g_top (nI (xs.length + tp.length)) (nI_add _ _) ?_
      refine lv_bipush (v := nI 120) X.1.1 X.1.2.1 d_Model_insert_34 (by decide) ?_
      refine gn_le X.1.1 X.1.2.1 (xs.length + tp.length) 120 (by omega) (by omega) d_Model_insert_36 rfl (fun hc36 => ?_) (fun hc36 => ?_)
      · omega
      · refine lv_aload_n X.1.1 X.1.2.1 d_Model_insert_39 rfl (gl_at hl rfl) ?_
        refine lv_iconst (v := nI 2) X.1.1 X.1.2.1 d_Model_insert_40 (by decide) ?_
        refine g_cv (A := (fun p => d ≤ p ∧ p ≤ d + 28)) X gWS_good mw_Model_126 kc_Model mo7 (c_Model_raise l D q H2 d (upd w 2 (nI 0)) ar hR6 (nI 2)) (fun _ _ _ => trivial) gBlind.tt rfl rfl hl.1 (Nat.le_of_ble_eq_true rfl) rfl rfl ⟨by decide, by decide⟩ ⟨by decide, by decide⟩ d_Model_insert_41 (fun _ h => h) hL (fun v8 H9 locs hp10 hL => ?_)
        obtain ⟨rfl, hR11, z12, fr13⟩ := hp10
        exact g_iret X B ⟨rfl, hR11, (z12.trans z4), fun p hp => ((fr13 p (by omega)).trans (oq5 p (by omega)))⟩ hL d_Model_insert_44 (by omega) (by omega)
    · omega

set_option maxHeartbeats 4000000 in
set_option maxRecDepth 100000 in
/-- insert -/
theorem c_Model_insert (l : Launch) (D : va_G) (q : Nat → ClassId) (H : Heap) (d : Nat) (w : Nat → Int32) (ar : Nat → Nat → Int32) (hR : dR D q H d w ar) (xs : List Nat) (us : List (List Nat)) (ed : Nat) (hP : pP w ar xs us ed) (tp : List Nat) (ht : pT w ar tp) (ii : Nat) (hii : ii ≤ xs.length) (hlen : xs.length + tp.length ≤ 120) : gC l y_Model_insert (Cond.code y_Model_insert b_Model_insert 4 (some .int) :: gWS) (gR 1 22 0 0) D CL (gY q) (fun _ => True) [.ref d, .int (nI ii)] H (fun v1 H1 => ∃ F G : Nat → Int32, (v1 = some (.int (nI (xs.length + tp.length))) ∧ tCp F (ar 27) (120 * (ed % 21)) xs xs.length ∧ tXo G 0 (xs.take ii ++ tp ++ xs.drop ii)) ∧ dR D q H1 d (upd (upd (upd (upd (upd w 0 (nI 0)) 2 (nI 0)) 34 (nI (xs.length + tp.length))) 37 (nI (ed + 1))) 38 (nI (((xs :: us).take 20).length))) (va_up (va_up (va_up ar 26 G) 27 F) 28 (upd (ar 28) (ed % 21) (nI xs.length))) ∧ H1.size = H.size ∧ ∀ p : Nat, (p < d ∨ d + 28 < p) → H1[p]? = H[p]?) 0 0 (fun p => d ≤ p ∧ p ≤ d + 28) := by
  refine gC.ofW R_Model "insert" (by decide) rfl rfl ?_
  intro p e s m below meth c hadm X hE hH B hne
  refine g_entry [some (.ref d), some (.int (nI ii)), none, none] rfl rfl (Nat.le_of_ble_eq_true rfl) (fun ls hl => ?_)
  have hP0 := hP
  obtain ⟨hp1, hp2, hp3, hp4, hp5, hp6, hp7, hp8⟩ := hP
  have hp9 := hp8.1
  have hP := hP0
  have ht8 := ht.2.2.1
  refine lv_iload_n X.1.1 X.1.2.1 d_Model_insert_0 rfl (gl_at hl rfl) ?_
  refine lv_if_lt X.1.1 X.1.2.1 d_Model_insert_1 rfl (fun hc1 => ?_) (fun hc1 => ?_)
  · exact absurd hc1 (nI_nneg (by omega))
  · refine lv_iload_n X.1.1 X.1.2.1 d_Model_insert_4 rfl (gl_at hl rfl) ?_
    refine lv_aload_n X.1.1 X.1.2.1 d_Model_insert_5 rfl (gl_at hl rfl) ?_
    have mo1 : va_at D CL (d, .inr (10, [.int (w 0), .ref (d + 1), .int (w 2), .ref (d + 2), .ref (d + 3), .ref (d + 4), .ref (d + 5), .ref (d + 6), .int (w 8), .ref (d + 7), .ref (d + 8), .ref (d + 9), .ref (d + 10), .ref (d + 11), .ref (d + 12), .ref (d + 13), .ref (d + 14), .ref (d + 15), .ref (d + 16), .ref (d + 17), .int (w 20), .ref (d + 18), .int (w 22), .ref (d + 19), .ref (d + 20), .ref (d + 21), .int (w 26), .int (w 27), .int (w 28), .ref (d + 22), .ref (d + 23), .ref (d + 24), .ref (d + 25), .ref (d + 26), .int (w 34), .ref (d + 27), .ref (d + 28), .int (w 37), .int (w 38)])) H := hR.1
    refine g_get X kc_Model mo1 34 (by decide) lk_Model_232 rfl d_Model_insert_6 ?_
    refine g_top (nI xs.length) hp1 ?_
    refine gn_le X.1.1 X.1.2.1 ii xs.length (by omega) (by omega) d_Model_insert_9 rfl (fun hc9 => ?_) (fun hc9 => ?_)
    · refine lv_aload_n X.1.1 X.1.2.1 d_Model_insert_18 rfl (gl_at hl rfl) ?_
      refine g_get X kc_Model mo1 2 (by decide) lk_Model_102 rfl d_Model_insert_19 ?_
      refine g_top (nI tp.length) ht.1 ?_
      refine g_istn X.1.1 X.1.2.1 hl 2 d_Model_insert_22 rfl (Nat.le_of_ble_eq_true rfl) rfl (fun ls hl => ?_)
      refine lv_aload_n X.1.1 X.1.2.1 d_Model_insert_23 rfl (gl_at hl rfl) ?_
      refine lv_iconst (v := nI 0) X.1.1 X.1.2.1 d_Model_insert_24 (by decide) ?_
      refine g_put (A := (fun p => d ≤ p ∧ p ≤ d + 28)) X kc_Model mo1 2 (by decide) lk_Model_102 rfl rfl rfl (Nat.le_of_ble_eq_true rfl) d_Model_insert_25 ⟨by omega, by omega⟩ (fun _ h => by cases h) (fun H2 locs h3 z4 oq5 hL => ?_)
      have hR6 : dR D q H2 d (upd w 2 (nI 0)) ar := hR.putO h3 oq5
      refine lv_aload_n X.1.1 X.1.2.1 d_Model_insert_28 rfl (gl_at hl rfl) ?_
      have mo7 : va_at D CL (d, .inr (10, [.int (w 0), .ref (d + 1), .int (nI 0), .ref (d + 2), .ref (d + 3), .ref (d + 4), .ref (d + 5), .ref (d + 6), .int (w 8), .ref (d + 7), .ref (d + 8), .ref (d + 9), .ref (d + 10), .ref (d + 11), .ref (d + 12), .ref (d + 13), .ref (d + 14), .ref (d + 15), .ref (d + 16), .ref (d + 17), .int (w 20), .ref (d + 18), .int (w 22), .ref (d + 19), .ref (d + 20), .ref (d + 21), .int (w 26), .int (w 27), .int (w 28), .ref (d + 22), .ref (d + 23), .ref (d + 24), .ref (d + 25), .ref (d + 26), .int (w 34), .ref (d + 27), .ref (d + 28), .int (w 37), .int (w 38)])) H2 := hR6.1
      refine g_get X kc_Model mo7 34 (by decide) lk_Model_232 rfl d_Model_insert_29 ?_
      refine g_top (nI xs.length) hp1 ?_
      refine lv_iload_n X.1.1 X.1.2.1 d_Model_insert_32 rfl (gl_at hl rfl) ?_
      refine lv_iadd X.1.1 X.1.2.1 d_Model_insert_33 ?_
      refine g_top (nI (xs.length + tp.length)) (nI_add _ _) ?_
      refine lv_bipush (v := nI 120) X.1.1 X.1.2.1 d_Model_insert_34 (by decide) ?_
      refine gn_le X.1.1 X.1.2.1 (xs.length + tp.length) 120 (by omega) (by omega) d_Model_insert_36 rfl (fun hc36 => ?_) (fun hc36 => ?_)
      · refine lv_aload_n X.1.1 X.1.2.1 d_Model_insert_45 rfl (gl_at hl rfl) ?_
        refine lv_iconst (v := nI 0) X.1.1 X.1.2.1 d_Model_insert_46 (by decide) ?_
        refine g_put (A := (fun p => d ≤ p ∧ p ≤ d + 28)) X kc_Model mo7 0 (by decide) lk_Model_99 rfl rfl rfl (Nat.le_of_ble_eq_true rfl) d_Model_insert_47 ⟨by omega, by omega⟩ hL (fun H8 locs h9 z10 oq11 hL => ?_)
        have hR12 : dR D q H8 d (upd (upd w 0 (nI 0)) 2 (nI 0)) ar := hR6.putO h9 oq11
        refine lv_aload_n X.1.1 X.1.2.1 d_Model_insert_50 rfl (gl_at hl rfl) ?_
        have mo13 : va_at D CL (d, .inr (10, [.int (nI 0), .ref (d + 1), .int (nI 0), .ref (d + 2), .ref (d + 3), .ref (d + 4), .ref (d + 5), .ref (d + 6), .int (w 8), .ref (d + 7), .ref (d + 8), .ref (d + 9), .ref (d + 10), .ref (d + 11), .ref (d + 12), .ref (d + 13), .ref (d + 14), .ref (d + 15), .ref (d + 16), .ref (d + 17), .int (w 20), .ref (d + 18), .int (w 22), .ref (d + 19), .ref (d + 20), .ref (d + 21), .int (w 26), .int (w 27), .int (w 28), .ref (d + 22), .ref (d + 23), .ref (d + 24), .ref (d + 25), .ref (d + 26), .int (w 34), .ref (d + 27), .ref (d + 28), .int (w 37), .int (w 38)])) H8 := hR12.1
        refine g_cv (A := (fun p => d ≤ p ∧ p ≤ d + 28)) X gWS_good mw_Model_237 kc_Model mo13 (c_Model_keep l D q H8 d (upd (upd w 0 (nI 0)) 2 (nI 0)) ar hR12 xs us ed hP) (fun _ _ _ => trivial) gBlind.tt rfl rfl hl.1 (Nat.le_of_ble_eq_true rfl) rfl rfl ⟨by decide, by decide⟩ ⟨by decide, by decide⟩ d_Model_insert_51 (fun _ h => h) hL (fun v14 H15 locs hp16 hL => ?_)
        obtain ⟨F, ⟨rfl, hF⟩, hp99⟩ := hp16
        obtain ⟨hR17, z18, fr19⟩ := hp99
        refine lv_aload_n X.1.1 X.1.2.1 d_Model_insert_54 rfl (gl_at hl rfl) ?_
        have mo20 : va_at D CL (d, .inr (10, [.int (nI 0), .ref (d + 1), .int (nI 0), .ref (d + 2), .ref (d + 3), .ref (d + 4), .ref (d + 5), .ref (d + 6), .int (w 8), .ref (d + 7), .ref (d + 8), .ref (d + 9), .ref (d + 10), .ref (d + 11), .ref (d + 12), .ref (d + 13), .ref (d + 14), .ref (d + 15), .ref (d + 16), .ref (d + 17), .int (w 20), .ref (d + 18), .int (w 22), .ref (d + 19), .ref (d + 20), .ref (d + 21), .int (w 26), .int (w 27), .int (w 28), .ref (d + 22), .ref (d + 23), .ref (d + 24), .ref (d + 25), .ref (d + 26), .int (w 34), .ref (d + 27), .ref (d + 28), .int (nI (ed + 1)), .int (nI (((xs :: us).take 20).length))])) H15 := hR17.1
        refine g_get X kc_Model mo20 34 (by decide) lk_Model_232 rfl d_Model_insert_55 ?_
        refine g_top (nI xs.length) hp1 ?_
        refine lv_iconst (v := nI 1) X.1.1 X.1.2.1 d_Model_insert_58 (by decide) ?_
        refine lv_isub X.1.1 X.1.2.1 d_Model_insert_59 ?_
        refine g_istn X.1.1 X.1.2.1 hl 3 d_Model_insert_60 rfl (Nat.le_of_ble_eq_true rfl) rfl (fun ls hl => ?_)
        have loop61 : ∀ (fu : Nat) (k : Nat) (E : Nat → Int32) (Hn : Heap) (locs : List Loc) (ls : Array Slot), k < fu → (ii ≤ k) → (k ≤ xs.length) → (∀ x, E x = if k + tp.length ≤ x ∧ x < xs.length + tp.length then ar 26 (x - tp.length) else ar 26 x) → (dR D q Hn d (upd (upd (upd (upd w 0 (nI 0)) 2 (nI 0)) 37 (nI (ed + 1))) 38 (nI (((xs :: us).take 20).length))) (va_up (va_up (va_up ar 26 E) 27 F) 28 (upd (ar 28) (ed % 21) (nI xs.length)))) → (Hn.size = H.size) → (∀ p : Nat, (p < d ∨ d + 28 < p) → Hn[p]? = H[p]?) → (∀ x ∈ locs, (fun p => d ≤ p ∧ p ≤ d + 28) x.base) → gl ls [some (.ref d), some (.int (nI ii)), some (.int (nI tp.length)), some (.int (nI k - 1))] → W p l e (gR 1 22 0 0) s m ([.ref d, .int (nI ii)] : List Value).toArray below meth c Hn locs 0 0 (gQ below ([.ref d, .int (nI ii)] : List Value).toArray s (fun v1 H1 => ∃ F G : Nat → Int32, (v1 = some (.int (nI (xs.length + tp.length))) ∧ tCp F (ar 27) (120 * (ed % 21)) xs xs.length ∧ tXo G 0 (xs.take ii ++ tp ++ xs.drop ii)) ∧ dR D q H1 d (upd (upd (upd (upd (upd w 0 (nI 0)) 2 (nI 0)) 34 (nI (xs.length + tp.length))) 37 (nI (ed + 1))) 38 (nI (((xs :: us).take 20).length))) (va_up (va_up (va_up ar 26 G) 27 F) 28 (upd (ar 28) (ed % 21) (nI xs.length))) ∧ H1.size = H.size ∧ ∀ p : Nat, (p < d ∨ d + 28 < p) → H1[p]? = H[p]?) 0 0 (fun p => d ≤ p ∧ p ≤ d + 28)) (F0 m 61 ls []) := by
          intro fu
          induction fu with
          | zero => intro k E Hn locs ls hmu; omega
          | succ fu ih61 =>
            intro k E Hn locs ls hmu61 hi61_0 hi61_1 hi61_2 hRl hzl frl hL hl
            refine lv_iload_n X.1.1 X.1.2.1 d_Model_insert_61 rfl (gl_at hl rfl) ?_
            refine lv_iload_n X.1.1 X.1.2.1 d_Model_insert_62 rfl (gl_at hl rfl) ?_
            refine lv_icmp_lt X.1.1 X.1.2.1 d_Model_insert_63 rfl (fun hc63 => ?_) (fun hc63 => ?_)
            · have hk0 := gs_lti (by omega) (by omega) hc63
              obtain rfl : ii = k := by omega
              refine lv_iconst (v := nI 0) X.1.1 X.1.2.1 d_Model_insert_86 (by decide) ?_
              refine g_istn X.1.1 X.1.2.1 hl 3 d_Model_insert_87 rfl (Nat.le_of_ble_eq_true rfl) rfl (fun ls hl => ?_)
              have loop88 : ∀ (fu : Nat) (t : Nat) (G : Nat → Int32) (Hn : Heap) (locs : List Loc) (ls : Array Slot), tp.length - t < fu → (t ≤ tp.length) → (tCp G E ii tp t) → (dR D q Hn d (upd (upd (upd (upd w 0 (nI 0)) 2 (nI 0)) 37 (nI (ed + 1))) 38 (nI (((xs :: us).take 20).length))) (va_up (va_up (va_up ar 26 G) 27 F) 28 (upd (ar 28) (ed % 21) (nI xs.length)))) → (Hn.size = H.size) → (∀ p : Nat, (p < d ∨ d + 28 < p) → Hn[p]? = H[p]?) → (∀ x ∈ locs, (fun p => d ≤ p ∧ p ≤ d + 28) x.base) → gl ls [some (.ref d), some (.int (nI ii)), some (.int (nI tp.length)), some (.int (nI t))] → W p l e (gR 1 22 0 0) s m ([.ref d, .int (nI ii)] : List Value).toArray below meth c Hn locs 0 0 (gQ below ([.ref d, .int (nI ii)] : List Value).toArray s (fun v1 H1 => ∃ F G : Nat → Int32, (v1 = some (.int (nI (xs.length + tp.length))) ∧ tCp F (ar 27) (120 * (ed % 21)) xs xs.length ∧ tXo G 0 (xs.take ii ++ tp ++ xs.drop ii)) ∧ dR D q H1 d (upd (upd (upd (upd (upd w 0 (nI 0)) 2 (nI 0)) 34 (nI (xs.length + tp.length))) 37 (nI (ed + 1))) 38 (nI (((xs :: us).take 20).length))) (va_up (va_up (va_up ar 26 G) 27 F) 28 (upd (ar 28) (ed % 21) (nI xs.length))) ∧ H1.size = H.size ∧ ∀ p : Nat, (p < d ∨ d + 28 < p) → H1[p]? = H[p]?) 0 0 (fun p => d ≤ p ∧ p ≤ d + 28)) (F0 m 88 ls []) := by
                intro fu
                induction fu with
                | zero => intro t G Hn locs ls hmu; omega
                | succ fu ih88 =>
                  intro t G Hn locs ls hmu88 hi88_0 hi88_1 hRl hzl frl hL hl
                  refine lv_iload_n X.1.1 X.1.2.1 d_Model_insert_88 rfl (gl_at hl rfl) ?_
                  refine lv_iload_n X.1.1 X.1.2.1 d_Model_insert_89 rfl (gl_at hl rfl) ?_
                  refine gn_ge X.1.1 X.1.2.1 t tp.length (by omega) (by omega) d_Model_insert_90 rfl (fun hc90 => ?_) (fun hc90 => ?_)
                  · refine lv_aload_n X.1.1 X.1.2.1 d_Model_insert_113 rfl (gl_at hl rfl) ?_
                    refine lv_dup X.1.1 X.1.2.1 d_Model_insert_114 rfl ?_
                    have mo21 : va_at D CL (d, .inr (10, [.int (nI 0), .ref (d + 1), .int (nI 0), .ref (d + 2), .ref (d + 3), .ref (d + 4), .ref (d + 5), .ref (d + 6), .int (w 8), .ref (d + 7), .ref (d + 8), .ref (d + 9), .ref (d + 10), .ref (d + 11), .ref (d + 12), .ref (d + 13), .ref (d + 14), .ref (d + 15), .ref (d + 16), .ref (d + 17), .int (w 20), .ref (d + 18), .int (w 22), .ref (d + 19), .ref (d + 20), .ref (d + 21), .int (w 26), .int (w 27), .int (w 28), .ref (d + 22), .ref (d + 23), .ref (d + 24), .ref (d + 25), .ref (d + 26), .int (w 34), .ref (d + 27), .ref (d + 28), .int (nI (ed + 1)), .int (nI (((xs :: us).take 20).length))])) Hn := hRl.1
                    refine g_get X kc_Model mo21 34 (by decide) lk_Model_232 rfl d_Model_insert_115 ?_
                    refine g_top (nI xs.length) hp1 ?_
                    refine lv_iload_n X.1.1 X.1.2.1 d_Model_insert_118 rfl (gl_at hl rfl) ?_
                    refine lv_iadd X.1.1 X.1.2.1 d_Model_insert_119 ?_
                    refine g_top (nI (xs.length + tp.length)) (nI_add _ _) ?_
                    refine g_put (A := (fun p => d ≤ p ∧ p ≤ d + 28)) X kc_Model mo21 34 (by decide) lk_Model_232 rfl rfl rfl (Nat.le_of_ble_eq_true rfl) d_Model_insert_120 ⟨by omega, by omega⟩ hL (fun H22 locs h23 z24 oq25 hL => ?_)
                    have hR26 : dR D q H22 d (upd (upd (upd (upd (upd w 0 (nI 0)) 2 (nI 0)) 34 (nI (xs.length + tp.length))) 37 (nI (ed + 1))) 38 (nI (((xs :: us).take 20).length))) (va_up (va_up (va_up ar 26 G) 27 F) 28 (upd (ar 28) (ed % 21) (nI xs.length))) := hRl.putO h23 oq25
                    refine lv_aload_n X.1.1 X.1.2.1 d_Model_insert_123 rfl (gl_at hl rfl) ?_
                    have mo27 : va_at D CL (d, .inr (10, [.int (nI 0), .ref (d + 1), .int (nI 0), .ref (d + 2), .ref (d + 3), .ref (d + 4), .ref (d + 5), .ref (d + 6), .int (w 8), .ref (d + 7), .ref (d + 8), .ref (d + 9), .ref (d + 10), .ref (d + 11), .ref (d + 12), .ref (d + 13), .ref (d + 14), .ref (d + 15), .ref (d + 16), .ref (d + 17), .int (w 20), .ref (d + 18), .int (w 22), .ref (d + 19), .ref (d + 20), .ref (d + 21), .int (w 26), .int (w 27), .int (w 28), .ref (d + 22), .ref (d + 23), .ref (d + 24), .ref (d + 25), .ref (d + 26), .int (nI (xs.length + tp.length)), .ref (d + 27), .ref (d + 28), .int (nI (ed + 1)), .int (nI (((xs :: us).take 20).length))])) H22 := hR26.1
                    refine g_get X kc_Model mo27 34 (by decide) lk_Model_232 rfl d_Model_insert_124 ?_
                    exact g_iret X B ⟨F, G, ⟨rfl, hF, tXo_ins hp2 hi61_1 hi61_2 (by rw [show tp.length = t by omega]; exact hi88_1)⟩, hR26, (z24.trans hzl), fun p hp => ((oq25 p (by omega)).trans (frl p (by omega)))⟩ hL d_Model_insert_127 (by omega) (by omega)
                  · refine lv_aload_n X.1.1 X.1.2.1 d_Model_insert_93 rfl (gl_at hl rfl) ?_
                    have mo28 : va_at D CL (d, .inr (10, [.int (nI 0), .ref (d + 1), .int (nI 0), .ref (d + 2), .ref (d + 3), .ref (d + 4), .ref (d + 5), .ref (d + 6), .int (w 8), .ref (d + 7), .ref (d + 8), .ref (d + 9), .ref (d + 10), .ref (d + 11), .ref (d + 12), .ref (d + 13), .ref (d + 14), .ref (d + 15), .ref (d + 16), .ref (d + 17), .int (w 20), .ref (d + 18), .int (w 22), .ref (d + 19), .ref (d + 20), .ref (d + 21), .int (w 26), .int (w 27), .int (w 28), .ref (d + 22), .ref (d + 23), .ref (d + 24), .ref (d + 25), .ref (d + 26), .int (w 34), .ref (d + 27), .ref (d + 28), .int (nI (ed + 1)), .int (nI (((xs :: us).take 20).length))])) Hn := hRl.1
                    refine g_get X kc_Model mo28 33 (by decide) lk_Model_90 rfl d_Model_insert_94 ?_
                    refine lv_iload_n X.1.1 X.1.2.1 d_Model_insert_97 rfl (gl_at hl rfl) ?_
                    refine lv_iload_n X.1.1 X.1.2.1 d_Model_insert_98 rfl (gl_at hl rfl) ?_
                    refine lv_iadd X.1.1 X.1.2.1 d_Model_insert_99 ?_
                    refine g_top (nI (ii + t)) (nI_add _ _) ?_
                    refine lv_aload_n X.1.1 X.1.2.1 d_Model_insert_100 rfl (gl_at hl rfl) ?_
                    refine g_get X kc_Model mo28 1 (by decide) lk_Model_7 rfl d_Model_insert_101 ?_
                    refine lv_iload_n X.1.1 X.1.2.1 d_Model_insert_104 rfl (gl_at hl rfl) ?_
                    have ma29 : va_at D CL (d + 1, .inl (q 0, 8, .inl (ar 1))) Hn := hRl.a1
                    refine g_iald X 0 ma29 rfl t (by omega) (by omega) d_Model_insert_105 ?_
                    refine g_top (nI (tp.getD t 0)) ((congrArg (ar 1) (by omega)).trans (ht.2.1 t (by omega))) ?_
                    have ma30 : va_at D CL (d + 26, .inl (q 0, 120, .inl G)) Hn := hRl.a26
                    refine g_iast (A := (fun p => d ≤ p ∧ p ≤ d + 28)) X 0 ma30 rfl (ii + t) (by omega) (by decide) d_Model_insert_106 ⟨by omega, by omega⟩ hL (fun H31 locs h32 z33 oq34 hL => ?_)
                    have hR35 : dR D q H31 d (upd (upd (upd (upd w 0 (nI 0)) 2 (nI 0)) 37 (nI (ed + 1))) 38 (nI (((xs :: us).take 20).length))) (va_up (va_up (va_up ar 26 (upd G (ii + t) (nI (tp.getD t 0)))) 27 F) 28 (upd (ar 28) (ed % 21) (nI xs.length))) := hRl.putB 26 (by decide) h32 oq34 rfl (fun j hj => by simp only [va_up, if_neg hj])
                    refine g_iinc X.1.1 X.1.2.1 (nI (t + 1)) hl 3 d_Model_insert_107 rfl (nI_1 _) rfl (fun ls hl => ?_)
                    refine lv_goto X.1.1 X.1.2.1 d_Model_insert_110 rfl ?_
                    exact ih88 (t + 1) (upd G (ii + t) (nI (tp.getD t 0))) H31 locs ls (by omega) (by omega) (hi88_1.step rfl) hR35 (z33.trans hzl) (fun p hp => ((oq34 p (by omega)).trans (frl p (by omega)))) hL hl
              exact loop88 _ 0 E Hn locs ls (Nat.lt_succ_self _) (Nat.zero_le _) tCp.zero hRl hzl (fun p hp => (frl p (by omega))) hL hl
            · have hk0 := gs_nlti (by omega) (by omega) hc63
              rw [gs_pos (by omega)] at hl
              refine lv_aload_n X.1.1 X.1.2.1 d_Model_insert_66 rfl (gl_at hl rfl) ?_
              have mo36 : va_at D CL (d, .inr (10, [.int (nI 0), .ref (d + 1), .int (nI 0), .ref (d + 2), .ref (d + 3), .ref (d + 4), .ref (d + 5), .ref (d + 6), .int (w 8), .ref (d + 7), .ref (d + 8), .ref (d + 9), .ref (d + 10), .ref (d + 11), .ref (d + 12), .ref (d + 13), .ref (d + 14), .ref (d + 15), .ref (d + 16), .ref (d + 17), .int (w 20), .ref (d + 18), .int (w 22), .ref (d + 19), .ref (d + 20), .ref (d + 21), .int (w 26), .int (w 27), .int (w 28), .ref (d + 22), .ref (d + 23), .ref (d + 24), .ref (d + 25), .ref (d + 26), .int (w 34), .ref (d + 27), .ref (d + 28), .int (nI (ed + 1)), .int (nI (((xs :: us).take 20).length))])) Hn := hRl.1
              refine g_get X kc_Model mo36 33 (by decide) lk_Model_90 rfl d_Model_insert_67 ?_
              refine lv_iload_n X.1.1 X.1.2.1 d_Model_insert_70 rfl (gl_at hl rfl) ?_
              refine lv_iload_n X.1.1 X.1.2.1 d_Model_insert_71 rfl (gl_at hl rfl) ?_
              refine lv_iadd X.1.1 X.1.2.1 d_Model_insert_72 ?_
              refine g_top (nI ((k - 1) + tp.length)) (nI_add _ _) ?_
              refine lv_aload_n X.1.1 X.1.2.1 d_Model_insert_73 rfl (gl_at hl rfl) ?_
              refine g_get X kc_Model mo36 33 (by decide) lk_Model_90 rfl d_Model_insert_74 ?_
              refine lv_iload_n X.1.1 X.1.2.1 d_Model_insert_77 rfl (gl_at hl rfl) ?_
              have ma37 : va_at D CL (d + 26, .inl (q 0, 120, .inl E)) Hn := hRl.a26
              refine g_iald X 0 ma37 rfl (k - 1) (by omega) (by omega) d_Model_insert_78 ?_
              refine g_iast (A := (fun p => d ≤ p ∧ p ≤ d + 28)) X 0 ma37 rfl ((k - 1) + tp.length) (by omega) (by decide) d_Model_insert_79 ⟨by omega, by omega⟩ hL (fun H38 locs h39 z40 oq41 hL => ?_)
              have hR42 : dR D q H38 d (upd (upd (upd (upd w 0 (nI 0)) 2 (nI 0)) 37 (nI (ed + 1))) 38 (nI (((xs :: us).take 20).length))) (va_up (va_up (va_up ar 26 (upd E ((k - 1) + tp.length) (E (k - 1)))) 27 F) 28 (upd (ar 28) (ed % 21) (nI xs.length))) := hRl.putB 26 (by decide) h39 oq41 rfl (fun j hj => by simp only [va_up, if_neg hj])
              refine g_iinc X.1.1 X.1.2.1 (nI (k - 1) - 1) hl 3 d_Model_insert_80 rfl (gs_inc _) rfl (fun ls hl => ?_)
              refine lv_goto X.1.1 X.1.2.1 d_Model_insert_83 rfl ?_
              exact ih61 (k - 1) (upd E ((k - 1) + tp.length) (E (k - 1))) H38 locs ls (by omega) (by omega) (by omega) (fun x => by
                by_cases e : x = k - 1 + tp.length
                · rw [e, pk_us, hi61_2, if_neg (by omega), if_pos (by omega)]
                  congr 1
                  omega
                · rw [pk_un e, hi61_2 x]
                  by_cases e1 : k + tp.length ≤ x ∧ x < xs.length + tp.length
                  · rw [if_pos e1, if_pos (by omega)]
                  · rw [if_neg e1, if_neg (by omega)]) hR42 (z40.trans hzl) (fun p hp => ((oq41 p (by omega)).trans (frl p (by omega)))) hL hl
        exact loop61 _ xs.length (ar 26) H15 locs ls (Nat.lt_succ_self _) hii (Nat.le_refl _) (fun x => by rw [if_neg (by omega)]) (hR17.as (fun j => by first | rfl | (simp only [upd]; (repeat' split) <;> first | rfl | omega | (subst_vars; rfl))) (fun j => by first | rfl | (simp only [va_up]; (repeat' split) <;> first | rfl | omega | (subst_vars; rfl)))) (z18.trans (z10.trans z4)) (fun p hp => ((fr19 p (by omega)).trans ((oq11 p (by omega)).trans (oq5 p (by omega))))) hL hl
      · omega
    · omega

set_option maxHeartbeats 4000000 in
set_option maxRecDepth 100000 in
/-- delete: refused -/
theorem c_Model_deleteB (l : Launch) (D : va_G) (q : Nat → ClassId) (H : Heap) (d : Nat) (w : Nat → Int32) (ar : Nat → Nat → Int32) (hR : dR D q H d w ar) (xs : List Nat) (us : List (List Nat)) (ed : Nat) (hP : pP w ar xs us ed) (x y : Int32) (hbad : ¬ (¬ x < 0 ∧ ¬ y < x ∧ y ≤ nI xs.length)) : gC l y_Model_delete (Cond.code y_Model_delete b_Model_delete 4 (some .int) :: gWS) (gR 1 22 0 0) D CL (gY q) (fun _ => True) [.ref d, .int x, .int y] H (fun v1 H1 => v1 = some (.int 0) ∧ dR D q H1 d (upd w 0 (nI 1)) ar ∧ H1.size = H.size ∧ ∀ p : Nat, (p < d ∨ d + 28 < p) → H1[p]? = H[p]?) 0 0 (fun p => d ≤ p ∧ p ≤ d + 28) := by
  refine gC.ofW R_Model "delete" (by decide) rfl rfl ?_
  intro p e s m below meth c hadm X hE hH B hne
  refine g_entry [some (.ref d), some (.int x), some (.int y), none] rfl rfl (Nat.le_of_ble_eq_true rfl) (fun ls hl => ?_)
  obtain ⟨hp1, hp2, hp3, hp4, hp5, hp6, hp7, hp8⟩ := hP
  have hp9 := hp8.1
  refine lv_iload_n X.1.1 X.1.2.1 d_Model_delete_0 rfl (gl_at hl rfl) ?_
  refine lv_if_lt X.1.1 X.1.2.1 d_Model_delete_1 rfl (fun hc1 => ?_) (fun hc1 => ?_)
  · refine lv_aload_n X.1.1 X.1.2.1 d_Model_delete_17 rfl (gl_at hl rfl) ?_
    refine lv_iconst (v := nI 1) X.1.1 X.1.2.1 d_Model_delete_18 (by decide) ?_
    have mo1 : va_at D CL (d, .inr (10, [.int (w 0), .ref (d + 1), .int (w 2), .ref (d + 2), .ref (d + 3), .ref (d + 4), .ref (d + 5), .ref (d + 6), .int (w 8), .ref (d + 7), .ref (d + 8), .ref (d + 9), .ref (d + 10), .ref (d + 11), .ref (d + 12), .ref (d + 13), .ref (d + 14), .ref (d + 15), .ref (d + 16), .ref (d + 17), .int (w 20), .ref (d + 18), .int (w 22), .ref (d + 19), .ref (d + 20), .ref (d + 21), .int (w 26), .int (w 27), .int (w 28), .ref (d + 22), .ref (d + 23), .ref (d + 24), .ref (d + 25), .ref (d + 26), .int (w 34), .ref (d + 27), .ref (d + 28), .int (w 37), .int (w 38)])) H := hR.1
    refine g_cv (A := (fun p => d ≤ p ∧ p ≤ d + 28)) X gWS_good mw_Model_126 kc_Model mo1 (c_Model_raise l D q H d w ar hR (nI 1)) (fun _ _ _ => trivial) gBlind.tt rfl rfl hl.1 (Nat.le_of_ble_eq_true rfl) rfl rfl ⟨by decide, by decide⟩ ⟨by decide, by decide⟩ d_Model_delete_19 (fun _ h => h) (fun _ h => by cases h) (fun v2 H3 locs hp4 hL => ?_)
    obtain ⟨rfl, hR5, z6, fr7⟩ := hp4
    exact g_iret X B ⟨rfl, hR5, z6, fun p hp => (fr7 p (by omega))⟩ hL d_Model_delete_22 (by omega) (by omega)
  · refine lv_iload_n X.1.1 X.1.2.1 d_Model_delete_4 rfl (gl_at hl rfl) ?_
    refine lv_iload_n X.1.1 X.1.2.1 d_Model_delete_5 rfl (gl_at hl rfl) ?_
    refine lv_icmp_lt X.1.1 X.1.2.1 d_Model_delete_6 rfl (fun hc6 => ?_) (fun hc6 => ?_)
    · refine lv_aload_n X.1.1 X.1.2.1 d_Model_delete_17 rfl (gl_at hl rfl) ?_
      refine lv_iconst (v := nI 1) X.1.1 X.1.2.1 d_Model_delete_18 (by decide) ?_
      have mo8 : va_at D CL (d, .inr (10, [.int (w 0), .ref (d + 1), .int (w 2), .ref (d + 2), .ref (d + 3), .ref (d + 4), .ref (d + 5), .ref (d + 6), .int (w 8), .ref (d + 7), .ref (d + 8), .ref (d + 9), .ref (d + 10), .ref (d + 11), .ref (d + 12), .ref (d + 13), .ref (d + 14), .ref (d + 15), .ref (d + 16), .ref (d + 17), .int (w 20), .ref (d + 18), .int (w 22), .ref (d + 19), .ref (d + 20), .ref (d + 21), .int (w 26), .int (w 27), .int (w 28), .ref (d + 22), .ref (d + 23), .ref (d + 24), .ref (d + 25), .ref (d + 26), .int (w 34), .ref (d + 27), .ref (d + 28), .int (w 37), .int (w 38)])) H := hR.1
      refine g_cv (A := (fun p => d ≤ p ∧ p ≤ d + 28)) X gWS_good mw_Model_126 kc_Model mo8 (c_Model_raise l D q H d w ar hR (nI 1)) (fun _ _ _ => trivial) gBlind.tt rfl rfl hl.1 (Nat.le_of_ble_eq_true rfl) rfl rfl ⟨by decide, by decide⟩ ⟨by decide, by decide⟩ d_Model_delete_19 (fun _ h => h) (fun _ h => by cases h) (fun v9 H10 locs hp11 hL => ?_)
      obtain ⟨rfl, hR12, z13, fr14⟩ := hp11
      exact g_iret X B ⟨rfl, hR12, z13, fun p hp => (fr14 p (by omega))⟩ hL d_Model_delete_22 (by omega) (by omega)
    · refine lv_iload_n X.1.1 X.1.2.1 d_Model_delete_9 rfl (gl_at hl rfl) ?_
      refine lv_aload_n X.1.1 X.1.2.1 d_Model_delete_10 rfl (gl_at hl rfl) ?_
      have mo15 : va_at D CL (d, .inr (10, [.int (w 0), .ref (d + 1), .int (w 2), .ref (d + 2), .ref (d + 3), .ref (d + 4), .ref (d + 5), .ref (d + 6), .int (w 8), .ref (d + 7), .ref (d + 8), .ref (d + 9), .ref (d + 10), .ref (d + 11), .ref (d + 12), .ref (d + 13), .ref (d + 14), .ref (d + 15), .ref (d + 16), .ref (d + 17), .int (w 20), .ref (d + 18), .int (w 22), .ref (d + 19), .ref (d + 20), .ref (d + 21), .int (w 26), .int (w 27), .int (w 28), .ref (d + 22), .ref (d + 23), .ref (d + 24), .ref (d + 25), .ref (d + 26), .int (w 34), .ref (d + 27), .ref (d + 28), .int (w 37), .int (w 38)])) H := hR.1
      refine g_get X kc_Model mo15 34 (by decide) lk_Model_232 rfl d_Model_delete_11 ?_
      refine g_top (nI xs.length) hp1 ?_
      refine lv_icmp_le X.1.1 X.1.2.1 d_Model_delete_14 rfl (fun hc14 => ?_) (fun hc14 => ?_)
      · exact absurd ⟨hc1, hc6, hc14⟩ hbad
      · refine lv_aload_n X.1.1 X.1.2.1 d_Model_delete_17 rfl (gl_at hl rfl) ?_
        refine lv_iconst (v := nI 1) X.1.1 X.1.2.1 d_Model_delete_18 (by decide) ?_
        refine g_cv (A := (fun p => d ≤ p ∧ p ≤ d + 28)) X gWS_good mw_Model_126 kc_Model mo15 (c_Model_raise l D q H d w ar hR (nI 1)) (fun _ _ _ => trivial) gBlind.tt rfl rfl hl.1 (Nat.le_of_ble_eq_true rfl) rfl rfl ⟨by decide, by decide⟩ ⟨by decide, by decide⟩ d_Model_delete_19 (fun _ h => h) (fun _ h => by cases h) (fun v16 H17 locs hp18 hL => ?_)
        obtain ⟨rfl, hR19, z20, fr21⟩ := hp18
        exact g_iret X B ⟨rfl, hR19, z20, fun p hp => (fr21 p (by omega))⟩ hL d_Model_delete_22 (by omega) (by omega)

set_option maxHeartbeats 4000000 in
set_option maxRecDepth 100000 in
/-- delete -/
theorem c_Model_delete (l : Launch) (D : va_G) (q : Nat → ClassId) (H : Heap) (d : Nat) (w : Nat → Int32) (ar : Nat → Nat → Int32) (hR : dR D q H d w ar) (xs : List Nat) (us : List (List Nat)) (ed : Nat) (hP : pP w ar xs us ed) (ii kx : Nat) (hik : ii ≤ kx) (hkx : kx ≤ xs.length) : gC l y_Model_delete (Cond.code y_Model_delete b_Model_delete 4 (some .int) :: gWS) (gR 1 22 0 0) D CL (gY q) (fun _ => True) [.ref d, .int (nI ii), .int (nI kx)] H (fun v1 H1 => ∃ F G : Nat → Int32, (v1 = some (.int (nI (xs.length - (kx - ii)))) ∧ tCp F (ar 27) (120 * (ed % 21)) xs xs.length ∧ tXo G 0 (xs.take ii ++ xs.drop kx)) ∧ dR D q H1 d (upd (upd (upd (upd w 0 (nI 0)) 34 (nI (xs.length - (kx - ii)))) 37 (nI (ed + 1))) 38 (nI (((xs :: us).take 20).length))) (va_up (va_up (va_up ar 26 G) 27 F) 28 (upd (ar 28) (ed % 21) (nI xs.length))) ∧ H1.size = H.size ∧ ∀ p : Nat, (p < d ∨ d + 28 < p) → H1[p]? = H[p]?) 0 0 (fun p => d ≤ p ∧ p ≤ d + 28) := by
  refine gC.ofW R_Model "delete" (by decide) rfl rfl ?_
  intro p e s m below meth c hadm X hE hH B hne
  refine g_entry [some (.ref d), some (.int (nI ii)), some (.int (nI kx)), none] rfl rfl (Nat.le_of_ble_eq_true rfl) (fun ls hl => ?_)
  have hP0 := hP
  obtain ⟨hp1, hp2, hp3, hp4, hp5, hp6, hp7, hp8⟩ := hP
  have hp9 := hp8.1
  have hP := hP0
  refine lv_iload_n X.1.1 X.1.2.1 d_Model_delete_0 rfl (gl_at hl rfl) ?_
  refine lv_if_lt X.1.1 X.1.2.1 d_Model_delete_1 rfl (fun hc1 => ?_) (fun hc1 => ?_)
  · exact absurd hc1 (nI_nneg (by omega))
  · refine lv_iload_n X.1.1 X.1.2.1 d_Model_delete_4 rfl (gl_at hl rfl) ?_
    refine lv_iload_n X.1.1 X.1.2.1 d_Model_delete_5 rfl (gl_at hl rfl) ?_
    refine gn_lt X.1.1 X.1.2.1 kx ii (by omega) (by omega) d_Model_delete_6 rfl (fun hc6 => ?_) (fun hc6 => ?_)
    · omega
    · refine lv_iload_n X.1.1 X.1.2.1 d_Model_delete_9 rfl (gl_at hl rfl) ?_
      refine lv_aload_n X.1.1 X.1.2.1 d_Model_delete_10 rfl (gl_at hl rfl) ?_
      have mo1 : va_at D CL (d, .inr (10, [.int (w 0), .ref (d + 1), .int (w 2), .ref (d + 2), .ref (d + 3), .ref (d + 4), .ref (d + 5), .ref (d + 6), .int (w 8), .ref (d + 7), .ref (d + 8), .ref (d + 9), .ref (d + 10), .ref (d + 11), .ref (d + 12), .ref (d + 13), .ref (d + 14), .ref (d + 15), .ref (d + 16), .ref (d + 17), .int (w 20), .ref (d + 18), .int (w 22), .ref (d + 19), .ref (d + 20), .ref (d + 21), .int (w 26), .int (w 27), .int (w 28), .ref (d + 22), .ref (d + 23), .ref (d + 24), .ref (d + 25), .ref (d + 26), .int (w 34), .ref (d + 27), .ref (d + 28), .int (w 37), .int (w 38)])) H := hR.1
      refine g_get X kc_Model mo1 34 (by decide) lk_Model_232 rfl d_Model_delete_11 ?_
      refine g_top (nI xs.length) hp1 ?_
      refine gn_le X.1.1 X.1.2.1 kx xs.length (by omega) (by omega) d_Model_delete_14 rfl (fun hc14 => ?_) (fun hc14 => ?_)
      · refine lv_aload_n X.1.1 X.1.2.1 d_Model_delete_23 rfl (gl_at hl rfl) ?_
        refine lv_iconst (v := nI 0) X.1.1 X.1.2.1 d_Model_delete_24 (by decide) ?_
        refine g_put (A := (fun p => d ≤ p ∧ p ≤ d + 28)) X kc_Model mo1 0 (by decide) lk_Model_99 rfl rfl rfl (Nat.le_of_ble_eq_true rfl) d_Model_delete_25 ⟨by omega, by omega⟩ (fun _ h => by cases h) (fun H2 locs h3 z4 oq5 hL => ?_)
        have hR6 : dR D q H2 d (upd w 0 (nI 0)) ar := hR.putO h3 oq5
        refine lv_aload_n X.1.1 X.1.2.1 d_Model_delete_28 rfl (gl_at hl rfl) ?_
        have mo7 : va_at D CL (d, .inr (10, [.int (nI 0), .ref (d + 1), .int (w 2), .ref (d + 2), .ref (d + 3), .ref (d + 4), .ref (d + 5), .ref (d + 6), .int (w 8), .ref (d + 7), .ref (d + 8), .ref (d + 9), .ref (d + 10), .ref (d + 11), .ref (d + 12), .ref (d + 13), .ref (d + 14), .ref (d + 15), .ref (d + 16), .ref (d + 17), .int (w 20), .ref (d + 18), .int (w 22), .ref (d + 19), .ref (d + 20), .ref (d + 21), .int (w 26), .int (w 27), .int (w 28), .ref (d + 22), .ref (d + 23), .ref (d + 24), .ref (d + 25), .ref (d + 26), .int (w 34), .ref (d + 27), .ref (d + 28), .int (w 37), .int (w 38)])) H2 := hR6.1
        refine g_cv (A := (fun p => d ≤ p ∧ p ≤ d + 28)) X gWS_good mw_Model_237 kc_Model mo7 (c_Model_keep l D q H2 d (upd w 0 (nI 0)) ar hR6 xs us ed hP) (fun _ _ _ => trivial) gBlind.tt rfl rfl hl.1 (Nat.le_of_ble_eq_true rfl) rfl rfl ⟨by decide, by decide⟩ ⟨by decide, by decide⟩ d_Model_delete_29 (fun _ h => h) hL (fun v8 H9 locs hp10 hL => ?_)
        obtain ⟨F, ⟨rfl, hF⟩, hp99⟩ := hp10
        obtain ⟨hR11, z12, fr13⟩ := hp99
        refine lv_iload_n X.1.1 X.1.2.1 d_Model_delete_32 rfl (gl_at hl rfl) ?_
        refine g_istn X.1.1 X.1.2.1 hl 3 d_Model_delete_33 rfl (Nat.le_of_ble_eq_true rfl) rfl (fun ls hl => ?_)
        have loop34 : ∀ (fu : Nat) (t : Nat) (E : Nat → Int32) (Hn : Heap) (locs : List Loc) (ls : Array Slot), xs.length - t < fu → (kx ≤ t) → (t ≤ xs.length) → (∀ x, E x = if ii ≤ x ∧ x < ii + (t - kx) then ar 26 (x - ii + kx) else ar 26 x) → (dR D q Hn d (upd (upd (upd w 0 (nI 0)) 37 (nI (ed + 1))) 38 (nI (((xs :: us).take 20).length))) (va_up (va_up (va_up ar 26 E) 27 F) 28 (upd (ar 28) (ed % 21) (nI xs.length)))) → (Hn.size = H.size) → (∀ p : Nat, (p < d ∨ d + 28 < p) → Hn[p]? = H[p]?) → (∀ x ∈ locs, (fun p => d ≤ p ∧ p ≤ d + 28) x.base) → gl ls [some (.ref d), some (.int (nI ii)), some (.int (nI kx)), some (.int (nI t))] → W p l e (gR 1 22 0 0) s m ([.ref d, .int (nI ii), .int (nI kx)] : List Value).toArray below meth c Hn locs 0 0 (gQ below ([.ref d, .int (nI ii), .int (nI kx)] : List Value).toArray s (fun v1 H1 => ∃ F G : Nat → Int32, (v1 = some (.int (nI (xs.length - (kx - ii)))) ∧ tCp F (ar 27) (120 * (ed % 21)) xs xs.length ∧ tXo G 0 (xs.take ii ++ xs.drop kx)) ∧ dR D q H1 d (upd (upd (upd (upd w 0 (nI 0)) 34 (nI (xs.length - (kx - ii)))) 37 (nI (ed + 1))) 38 (nI (((xs :: us).take 20).length))) (va_up (va_up (va_up ar 26 G) 27 F) 28 (upd (ar 28) (ed % 21) (nI xs.length))) ∧ H1.size = H.size ∧ ∀ p : Nat, (p < d ∨ d + 28 < p) → H1[p]? = H[p]?) 0 0 (fun p => d ≤ p ∧ p ≤ d + 28)) (F0 m 34 ls []) := by
          intro fu
          induction fu with
          | zero => intro t E Hn locs ls hmu; omega
          | succ fu ih34 =>
            intro t E Hn locs ls hmu34 hi34_0 hi34_1 hi34_2 hRl hzl frl hL hl
            refine lv_iload_n X.1.1 X.1.2.1 d_Model_delete_34 rfl (gl_at hl rfl) ?_
            refine lv_aload_n X.1.1 X.1.2.1 d_Model_delete_35 rfl (gl_at hl rfl) ?_
            have mo14 : va_at D CL (d, .inr (10, [.int (nI 0), .ref (d + 1), .int (w 2), .ref (d + 2), .ref (d + 3), .ref (d + 4), .ref (d + 5), .ref (d + 6), .int (w 8), .ref (d + 7), .ref (d + 8), .ref (d + 9), .ref (d + 10), .ref (d + 11), .ref (d + 12), .ref (d + 13), .ref (d + 14), .ref (d + 15), .ref (d + 16), .ref (d + 17), .int (w 20), .ref (d + 18), .int (w 22), .ref (d + 19), .ref (d + 20), .ref (d + 21), .int (w 26), .int (w 27), .int (w 28), .ref (d + 22), .ref (d + 23), .ref (d + 24), .ref (d + 25), .ref (d + 26), .int (w 34), .ref (d + 27), .ref (d + 28), .int (nI (ed + 1)), .int (nI (((xs :: us).take 20).length))])) Hn := hRl.1
            refine g_get X kc_Model mo14 34 (by decide) lk_Model_232 rfl d_Model_delete_36 ?_
            refine g_top (nI xs.length) hp1 ?_
            refine gn_ge X.1.1 X.1.2.1 t xs.length (by omega) (by omega) d_Model_delete_39 rfl (fun hc39 => ?_) (fun hc39 => ?_)
            · refine lv_aload_n X.1.1 X.1.2.1 d_Model_delete_64 rfl (gl_at hl rfl) ?_
              refine lv_dup X.1.1 X.1.2.1 d_Model_delete_65 rfl ?_
              refine g_get X kc_Model mo14 34 (by decide) lk_Model_232 rfl d_Model_delete_66 ?_
              refine g_top (nI xs.length) hp1 ?_
              refine lv_iload_n X.1.1 X.1.2.1 d_Model_delete_69 rfl (gl_at hl rfl) ?_
              refine lv_iload_n X.1.1 X.1.2.1 d_Model_delete_70 rfl (gl_at hl rfl) ?_
              refine lv_isub X.1.1 X.1.2.1 d_Model_delete_71 ?_
              refine g_top (nI (kx - ii)) (pk_sub (by omega)) ?_
              refine lv_isub X.1.1 X.1.2.1 d_Model_delete_72 ?_
              refine g_top (nI (xs.length - (kx - ii))) (pk_sub (by omega)) ?_
              refine g_put (A := (fun p => d ≤ p ∧ p ≤ d + 28)) X kc_Model mo14 34 (by decide) lk_Model_232 rfl rfl rfl (Nat.le_of_ble_eq_true rfl) d_Model_delete_73 ⟨by omega, by omega⟩ hL (fun H15 locs h16 z17 oq18 hL => ?_)
              have hR19 : dR D q H15 d (upd (upd (upd (upd w 0 (nI 0)) 34 (nI (xs.length - (kx - ii)))) 37 (nI (ed + 1))) 38 (nI (((xs :: us).take 20).length))) (va_up (va_up (va_up ar 26 E) 27 F) 28 (upd (ar 28) (ed % 21) (nI xs.length))) := hRl.putO h16 oq18
              refine lv_aload_n X.1.1 X.1.2.1 d_Model_delete_76 rfl (gl_at hl rfl) ?_
              have mo20 : va_at D CL (d, .inr (10, [.int (nI 0), .ref (d + 1), .int (w 2), .ref (d + 2), .ref (d + 3), .ref (d + 4), .ref (d + 5), .ref (d + 6), .int (w 8), .ref (d + 7), .ref (d + 8), .ref (d + 9), .ref (d + 10), .ref (d + 11), .ref (d + 12), .ref (d + 13), .ref (d + 14), .ref (d + 15), .ref (d + 16), .ref (d + 17), .int (w 20), .ref (d + 18), .int (w 22), .ref (d + 19), .ref (d + 20), .ref (d + 21), .int (w 26), .int (w 27), .int (w 28), .ref (d + 22), .ref (d + 23), .ref (d + 24), .ref (d + 25), .ref (d + 26), .int (nI (xs.length - (kx - ii))), .ref (d + 27), .ref (d + 28), .int (nI (ed + 1)), .int (nI (((xs :: us).take 20).length))])) H15 := hR19.1
              refine g_get X kc_Model mo20 34 (by decide) lk_Model_232 rfl d_Model_delete_77 ?_
              exact g_iret X B ⟨F, E, ⟨rfl, hF, tXo_del hp2 hik hkx (fun x => by rw [hi34_2 x, show t = xs.length by omega])⟩, hR19, (z17.trans hzl), fun p hp => ((oq18 p (by omega)).trans (frl p (by omega)))⟩ hL d_Model_delete_80 (by omega) (by omega)
            · refine lv_aload_n X.1.1 X.1.2.1 d_Model_delete_42 rfl (gl_at hl rfl) ?_
              refine g_get X kc_Model mo14 33 (by decide) lk_Model_90 rfl d_Model_delete_43 ?_
              refine lv_iload_n X.1.1 X.1.2.1 d_Model_delete_46 rfl (gl_at hl rfl) ?_
              refine lv_iload_n X.1.1 X.1.2.1 d_Model_delete_47 rfl (gl_at hl rfl) ?_
              refine lv_isub X.1.1 X.1.2.1 d_Model_delete_48 ?_
              refine g_top (nI (t - kx)) (pk_sub (by omega)) ?_
              refine lv_iload_n X.1.1 X.1.2.1 d_Model_delete_49 rfl (gl_at hl rfl) ?_
              refine lv_iadd X.1.1 X.1.2.1 d_Model_delete_50 ?_
              refine g_top (nI ((t - kx) + ii)) (nI_add _ _) ?_
              refine lv_aload_n X.1.1 X.1.2.1 d_Model_delete_51 rfl (gl_at hl rfl) ?_
              refine g_get X kc_Model mo14 33 (by decide) lk_Model_90 rfl d_Model_delete_52 ?_
              refine lv_iload_n X.1.1 X.1.2.1 d_Model_delete_55 rfl (gl_at hl rfl) ?_
              have ma21 : va_at D CL (d + 26, .inl (q 0, 120, .inl E)) Hn := hRl.a26
              refine g_iald X 0 ma21 rfl t (by omega) (by omega) d_Model_delete_56 ?_
              refine g_iast (A := (fun p => d ≤ p ∧ p ≤ d + 28)) X 0 ma21 rfl ((t - kx) + ii) (by omega) (by decide) d_Model_delete_57 ⟨by omega, by omega⟩ hL (fun H22 locs h23 z24 oq25 hL => ?_)
              have hR26 : dR D q H22 d (upd (upd (upd w 0 (nI 0)) 37 (nI (ed + 1))) 38 (nI (((xs :: us).take 20).length))) (va_up (va_up (va_up ar 26 (upd E ((t - kx) + ii) (E t))) 27 F) 28 (upd (ar 28) (ed % 21) (nI xs.length))) := hRl.putB 26 (by decide) h23 oq25 rfl (fun j hj => by simp only [va_up, if_neg hj])
              refine g_iinc X.1.1 X.1.2.1 (nI (t + 1)) hl 3 d_Model_delete_58 rfl (nI_1 _) rfl (fun ls hl => ?_)
              refine lv_goto X.1.1 X.1.2.1 d_Model_delete_61 rfl ?_
              exact ih34 (t + 1) (upd E ((t - kx) + ii) (E t)) H22 locs ls (by omega) (by omega) (by omega) (fun x => by
                by_cases e : x = t - kx + ii
                · rw [e, pk_us, hi34_2, if_neg (by omega), if_pos (by omega)]
                  congr 1
                  omega
                · rw [pk_un e, hi34_2 x]
                  by_cases e1 : ii ≤ x ∧ x < ii + (t - kx)
                  · rw [if_pos e1, if_pos (by omega)]
                  · rw [if_neg e1, if_neg (by omega)]) hR26 (z24.trans hzl) (fun p hp => ((oq25 p (by omega)).trans (frl p (by omega)))) hL hl
        exact loop34 _ kx (ar 26) H9 locs ls (Nat.lt_succ_self _) (Nat.le_refl _) hkx (fun x => by rw [if_neg (by omega)]) (hR11.as (fun j => by first | rfl | (simp only [upd]; (repeat' split) <;> first | rfl | omega | (subst_vars; rfl))) (fun j => by first | rfl | (simp only [va_up]; (repeat' split) <;> first | rfl | omega | (subst_vars; rfl)))) (z12.trans z4) (fun p hp => ((fr13 p (by omega)).trans (oq5 p (by omega)))) hL hl
      · omega

set_option maxHeartbeats 4000000 in
set_option maxRecDepth 100000 in
/-- undo: nothing -/
theorem c_Model_undo0 (l : Launch) (D : va_G) (q : Nat → ClassId) (H : Heap) (d : Nat) (w : Nat → Int32) (ar : Nat → Nat → Int32) (hR : dR D q H d w ar) (hk0 : w 38 = nI 0) : gC l y_Model_undo (Cond.code y_Model_undo b_Model_undo 3 (some .int) :: gWS) (gR 0 0 0 0) D CL (gY q) (fun _ => True) [.ref d] H (fun v1 H1 => v1 = some (.int (-1)) ∧ dR D q H1 d (upd w 0 (nI 0)) ar ∧ H1.size = H.size ∧ ∀ p : Nat, (p < d ∨ d + 28 < p) → H1[p]? = H[p]?) 0 0 (fun p => d ≤ p ∧ p ≤ d + 28) := by
  refine gC.ofW R_Model "undo" (by decide) rfl rfl ?_
  intro p e s m below meth c hadm X hE hH B hne
  refine g_entry [some (.ref d), none, none] rfl rfl (Nat.le_of_ble_eq_true rfl) (fun ls hl => ?_)
  refine lv_aload_n X.1.1 X.1.2.1 d_Model_undo_0 rfl (gl_at hl rfl) ?_
  refine lv_iconst (v := nI 0) X.1.1 X.1.2.1 d_Model_undo_1 (by decide) ?_
  have mo1 : va_at D CL (d, .inr (10, [.int (w 0), .ref (d + 1), .int (w 2), .ref (d + 2), .ref (d + 3), .ref (d + 4), .ref (d + 5), .ref (d + 6), .int (w 8), .ref (d + 7), .ref (d + 8), .ref (d + 9), .ref (d + 10), .ref (d + 11), .ref (d + 12), .ref (d + 13), .ref (d + 14), .ref (d + 15), .ref (d + 16), .ref (d + 17), .int (w 20), .ref (d + 18), .int (w 22), .ref (d + 19), .ref (d + 20), .ref (d + 21), .int (w 26), .int (w 27), .int (w 28), .ref (d + 22), .ref (d + 23), .ref (d + 24), .ref (d + 25), .ref (d + 26), .int (w 34), .ref (d + 27), .ref (d + 28), .int (w 37), .int (w 38)])) H := hR.1
  refine g_put (A := (fun p => d ≤ p ∧ p ≤ d + 28)) X kc_Model mo1 0 (by decide) lk_Model_99 rfl rfl rfl (Nat.le_of_ble_eq_true rfl) d_Model_undo_2 ⟨by omega, by omega⟩ (fun _ h => by cases h) (fun H2 locs h3 z4 oq5 hL => ?_)
  have hR6 : dR D q H2 d (upd w 0 (nI 0)) ar := hR.putO h3 oq5
  refine lv_aload_n X.1.1 X.1.2.1 d_Model_undo_5 rfl (gl_at hl rfl) ?_
  have mo7 : va_at D CL (d, .inr (10, [.int (nI 0), .ref (d + 1), .int (w 2), .ref (d + 2), .ref (d + 3), .ref (d + 4), .ref (d + 5), .ref (d + 6), .int (w 8), .ref (d + 7), .ref (d + 8), .ref (d + 9), .ref (d + 10), .ref (d + 11), .ref (d + 12), .ref (d + 13), .ref (d + 14), .ref (d + 15), .ref (d + 16), .ref (d + 17), .int (w 20), .ref (d + 18), .int (w 22), .ref (d + 19), .ref (d + 20), .ref (d + 21), .int (w 26), .int (w 27), .int (w 28), .ref (d + 22), .ref (d + 23), .ref (d + 24), .ref (d + 25), .ref (d + 26), .int (w 34), .ref (d + 27), .ref (d + 28), .int (w 37), .int (w 38)])) H2 := hR6.1
  refine g_get X kc_Model mo7 38 (by decide) lk_Model_234 rfl d_Model_undo_6 ?_
  refine g_top (nI 0) hk0 ?_
  refine gn_ne0 X.1.1 X.1.2.1 0 (by omega) d_Model_undo_9 rfl (fun hc9 => ?_) (fun hc9 => ?_)
  · omega
  · refine lv_iconst (v := (-1)) X.1.1 X.1.2.1 d_Model_undo_12 (by decide) ?_
    exact g_iret X B ⟨rfl, hR6, z4, fun p hp => (oq5 p (by omega))⟩ hL d_Model_undo_13 (by omega) (by omega)

set_option maxHeartbeats 4000000 in
set_option maxRecDepth 100000 in
/-- undo -/
theorem c_Model_undo (l : Launch) (D : va_G) (q : Nat → ClassId) (H : Heap) (d : Nat) (w : Nat → Int32) (ar : Nat → Nat → Int32) (hR : dR D q H d w ar) (xs u : List Nat) (us : List (List Nat)) (ed : Nat) (hP : pP w ar xs (u :: us) ed) : gC l y_Model_undo (Cond.code y_Model_undo b_Model_undo 3 (some .int) :: gWS) (gR 0 0 0 0) D CL (gY q) (fun _ => True) [.ref d] H (fun v1 H1 => ∃ F : Nat → Int32, (v1 = some (.int (nI u.length)) ∧ tXo F 0 u) ∧ dR D q H1 d (upd (upd (upd (upd w 0 (nI 0)) 34 (nI u.length)) 37 (nI (ed - 1))) 38 (nI us.length)) (va_up ar 26 F) ∧ H1.size = H.size ∧ ∀ p : Nat, (p < d ∨ d + 28 < p) → H1[p]? = H[p]?) 0 0 (fun p => d ≤ p ∧ p ≤ d + 28) := by
  refine gC.ofW R_Model "undo" (by decide) rfl rfl ?_
  intro p e s m below meth c hadm X hE hH B hne
  refine g_entry [some (.ref d), none, none] rfl rfl (Nat.le_of_ble_eq_true rfl) (fun ls hl => ?_)
  obtain ⟨hp1, hp2, hp3, hp4, hp5, hp6, hp7, hp8⟩ := hP
  have hp9 := hp8.1
  have hpa := hp8.2.1
  rw [List.length_cons] at hp6 hp9 hpa
  obtain ⟨hr1, hr2, hr3, hr4⟩ := hp8.2.2 0 (Nat.succ_pos _)
  rw [show (u :: us).getD 0 [] = u from rfl, show ed - 1 - 0 = ed - 1 by omega] at hr1 hr4
  replace hr2 : u.length ≤ 120 := hr2
  refine lv_aload_n X.1.1 X.1.2.1 d_Model_undo_0 rfl (gl_at hl rfl) ?_
  refine lv_iconst (v := nI 0) X.1.1 X.1.2.1 d_Model_undo_1 (by decide) ?_
  have mo1 : va_at D CL (d, .inr (10, [.int (w 0), .ref (d + 1), .int (w 2), .ref (d + 2), .ref (d + 3), .ref (d + 4), .ref (d + 5), .ref (d + 6), .int (w 8), .ref (d + 7), .ref (d + 8), .ref (d + 9), .ref (d + 10), .ref (d + 11), .ref (d + 12), .ref (d + 13), .ref (d + 14), .ref (d + 15), .ref (d + 16), .ref (d + 17), .int (w 20), .ref (d + 18), .int (w 22), .ref (d + 19), .ref (d + 20), .ref (d + 21), .int (w 26), .int (w 27), .int (w 28), .ref (d + 22), .ref (d + 23), .ref (d + 24), .ref (d + 25), .ref (d + 26), .int (w 34), .ref (d + 27), .ref (d + 28), .int (w 37), .int (w 38)])) H := hR.1
  refine g_put (A := (fun p => d ≤ p ∧ p ≤ d + 28)) X kc_Model mo1 0 (by decide) lk_Model_99 rfl rfl rfl (Nat.le_of_ble_eq_true rfl) d_Model_undo_2 ⟨by omega, by omega⟩ (fun _ h => by cases h) (fun H2 locs h3 z4 oq5 hL => ?_)
  have hR6 : dR D q H2 d (upd w 0 (nI 0)) ar := hR.putO h3 oq5
  refine lv_aload_n X.1.1 X.1.2.1 d_Model_undo_5 rfl (gl_at hl rfl) ?_
  have mo7 : va_at D CL (d, .inr (10, [.int (nI 0), .ref (d + 1), .int (w 2), .ref (d + 2), .ref (d + 3), .ref (d + 4), .ref (d + 5), .ref (d + 6), .int (w 8), .ref (d + 7), .ref (d + 8), .ref (d + 9), .ref (d + 10), .ref (d + 11), .ref (d + 12), .ref (d + 13), .ref (d + 14), .ref (d + 15), .ref (d + 16), .ref (d + 17), .int (w 20), .ref (d + 18), .int (w 22), .ref (d + 19), .ref (d + 20), .ref (d + 21), .int (w 26), .int (w 27), .int (w 28), .ref (d + 22), .ref (d + 23), .ref (d + 24), .ref (d + 25), .ref (d + 26), .int (w 34), .ref (d + 27), .ref (d + 28), .int (w 37), .int (w 38)])) H2 := hR6.1
  refine g_get X kc_Model mo7 38 (by decide) lk_Model_234 rfl d_Model_undo_6 ?_
  refine g_top (nI (us.length + 1)) hp6 ?_
  refine gn_ne0 X.1.1 X.1.2.1 (us.length + 1) (by omega) d_Model_undo_9 rfl (fun hc9 => ?_) (fun hc9 => ?_)
  · refine lv_aload_n X.1.1 X.1.2.1 d_Model_undo_14 rfl (gl_at hl rfl) ?_
    refine lv_dup X.1.1 X.1.2.1 d_Model_undo_15 rfl ?_
    refine g_get X kc_Model mo7 38 (by decide) lk_Model_234 rfl d_Model_undo_16 ?_
    refine g_top (nI (us.length + 1)) hp6 ?_
    refine lv_iconst (v := nI 1) X.1.1 X.1.2.1 d_Model_undo_19 (by decide) ?_
    refine lv_isub X.1.1 X.1.2.1 d_Model_undo_20 ?_
    refine g_top (nI ((us.length + 1) - 1)) (pk_sub (by omega)) ?_
    refine g_top (nI us.length) rfl ?_
    refine g_put (A := (fun p => d ≤ p ∧ p ≤ d + 28)) X kc_Model mo7 38 (by decide) lk_Model_234 rfl rfl rfl (Nat.le_of_ble_eq_true rfl) d_Model_undo_21 ⟨by omega, by omega⟩ hL (fun H8 locs h9 z10 oq11 hL => ?_)
    have hR12 : dR D q H8 d (upd (upd w 0 (nI 0)) 38 (nI us.length)) ar := hR6.putO h9 oq11
    refine lv_aload_n X.1.1 X.1.2.1 d_Model_undo_24 rfl (gl_at hl rfl) ?_
    refine lv_dup X.1.1 X.1.2.1 d_Model_undo_25 rfl ?_
    have mo13 : va_at D CL (d, .inr (10, [.int (nI 0), .ref (d + 1), .int (w 2), .ref (d + 2), .ref (d + 3), .ref (d + 4), .ref (d + 5), .ref (d + 6), .int (w 8), .ref (d + 7), .ref (d + 8), .ref (d + 9), .ref (d + 10), .ref (d + 11), .ref (d + 12), .ref (d + 13), .ref (d + 14), .ref (d + 15), .ref (d + 16), .ref (d + 17), .int (w 20), .ref (d + 18), .int (w 22), .ref (d + 19), .ref (d + 20), .ref (d + 21), .int (w 26), .int (w 27), .int (w 28), .ref (d + 22), .ref (d + 23), .ref (d + 24), .ref (d + 25), .ref (d + 26), .int (w 34), .ref (d + 27), .ref (d + 28), .int (w 37), .int (nI us.length)])) H8 := hR12.1
    refine g_get X kc_Model mo13 37 (by decide) lk_Model_229 rfl d_Model_undo_26 ?_
    refine g_top (nI ed) hp5 ?_
    refine lv_iconst (v := nI 1) X.1.1 X.1.2.1 d_Model_undo_29 (by decide) ?_
    refine lv_isub X.1.1 X.1.2.1 d_Model_undo_30 ?_
    refine g_top (nI (ed - 1)) (pk_sub (by omega)) ?_
    refine g_put (A := (fun p => d ≤ p ∧ p ≤ d + 28)) X kc_Model mo13 37 (by decide) lk_Model_229 rfl rfl rfl (Nat.le_of_ble_eq_true rfl) d_Model_undo_31 ⟨by omega, by omega⟩ hL (fun H14 locs h15 z16 oq17 hL => ?_)
    have hR18 : dR D q H14 d (upd (upd (upd w 0 (nI 0)) 37 (nI (ed - 1))) 38 (nI us.length)) ar := hR12.putO h15 oq17
    refine lv_aload_n X.1.1 X.1.2.1 d_Model_undo_34 rfl (gl_at hl rfl) ?_
    have mo19 : va_at D CL (d, .inr (10, [.int (nI 0), .ref (d + 1), .int (w 2), .ref (d + 2), .ref (d + 3), .ref (d + 4), .ref (d + 5), .ref (d + 6), .int (w 8), .ref (d + 7), .ref (d + 8), .ref (d + 9), .ref (d + 10), .ref (d + 11), .ref (d + 12), .ref (d + 13), .ref (d + 14), .ref (d + 15), .ref (d + 16), .ref (d + 17), .int (w 20), .ref (d + 18), .int (w 22), .ref (d + 19), .ref (d + 20), .ref (d + 21), .int (w 26), .int (w 27), .int (w 28), .ref (d + 22), .ref (d + 23), .ref (d + 24), .ref (d + 25), .ref (d + 26), .int (w 34), .ref (d + 27), .ref (d + 28), .int (nI (ed - 1)), .int (nI us.length)])) H14 := hR18.1
    refine g_get X kc_Model mo19 37 (by decide) lk_Model_229 rfl d_Model_undo_35 ?_
    refine lv_bipush (v := nI 21) X.1.1 X.1.2.1 d_Model_undo_38 (by decide) ?_
    refine lv_irem X.1.1 X.1.2.1 d_Model_undo_40 (by decide) ?_
    refine g_top (nI ((ed - 1) % 21)) (pk_rem (by omega) (by decide) (by decide)) ?_
    refine g_istn X.1.1 X.1.2.1 hl 1 d_Model_undo_41 rfl (Nat.le_of_ble_eq_true rfl) rfl (fun ls hl => ?_)
    refine lv_aload_n X.1.1 X.1.2.1 d_Model_undo_42 rfl (gl_at hl rfl) ?_
    refine lv_aload_n X.1.1 X.1.2.1 d_Model_undo_43 rfl (gl_at hl rfl) ?_
    refine g_get X kc_Model mo19 36 (by decide) lk_Model_96 rfl d_Model_undo_44 ?_
    refine lv_iload_n X.1.1 X.1.2.1 d_Model_undo_47 rfl (gl_at hl rfl) ?_
    have ma20 : va_at D CL (d + 28, .inl (q 0, 21, .inl (ar 28))) H14 := hR18.a28
    refine g_iald X 0 ma20 rfl ((ed - 1) % 21) (by omega) (by omega) d_Model_undo_48 ?_
    refine g_top (nI u.length) hr1 ?_
    refine g_put (A := (fun p => d ≤ p ∧ p ≤ d + 28)) X kc_Model mo19 34 (by decide) lk_Model_232 rfl rfl rfl (Nat.le_of_ble_eq_true rfl) d_Model_undo_49 ⟨by omega, by omega⟩ hL (fun H21 locs h22 z23 oq24 hL => ?_)
    have hR25 : dR D q H21 d (upd (upd (upd (upd w 0 (nI 0)) 34 (nI u.length)) 37 (nI (ed - 1))) 38 (nI us.length)) ar := hR18.putO h22 oq24
    refine lv_iconst (v := nI 0) X.1.1 X.1.2.1 d_Model_undo_52 (by decide) ?_
    refine g_istn X.1.1 X.1.2.1 hl 2 d_Model_undo_53 rfl (Nat.le_of_ble_eq_true rfl) rfl (fun ls hl => ?_)
    have loop54 : ∀ (fu : Nat) (i : Nat) (F : Nat → Int32) (Hn : Heap) (locs : List Loc) (ls : Array Slot), u.length - i < fu → (i ≤ u.length) → (tCp F (ar 26) 0 u i) → (dR D q Hn d (upd (upd (upd (upd w 0 (nI 0)) 34 (nI u.length)) 37 (nI (ed - 1))) 38 (nI us.length)) (va_up ar 26 F)) → (Hn.size = H.size) → (∀ p : Nat, (p < d ∨ d + 28 < p) → Hn[p]? = H[p]?) → (∀ x ∈ locs, (fun p => d ≤ p ∧ p ≤ d + 28) x.base) → gl ls [some (.ref d), some (.int (nI ((ed - 1) % 21))), some (.int (nI i))] → W p l e (gR 0 0 0 0) s m ([.ref d] : List Value).toArray below meth c Hn locs 0 0 (gQ below ([.ref d] : List Value).toArray s (fun v1 H1 => ∃ F : Nat → Int32, (v1 = some (.int (nI u.length)) ∧ tXo F 0 u) ∧ dR D q H1 d (upd (upd (upd (upd w 0 (nI 0)) 34 (nI u.length)) 37 (nI (ed - 1))) 38 (nI us.length)) (va_up ar 26 F) ∧ H1.size = H.size ∧ ∀ p : Nat, (p < d ∨ d + 28 < p) → H1[p]? = H[p]?) 0 0 (fun p => d ≤ p ∧ p ≤ d + 28)) (F0 m 54 ls []) := by
      intro fu
      induction fu with
      | zero => intro i F Hn locs ls hmu; omega
      | succ fu ih54 =>
        intro i F Hn locs ls hmu54 hi54_0 hi54_1 hRl hzl frl hL hl
        refine lv_iload_n X.1.1 X.1.2.1 d_Model_undo_54 rfl (gl_at hl rfl) ?_
        refine lv_aload_n X.1.1 X.1.2.1 d_Model_undo_55 rfl (gl_at hl rfl) ?_
        have mo26 : va_at D CL (d, .inr (10, [.int (nI 0), .ref (d + 1), .int (w 2), .ref (d + 2), .ref (d + 3), .ref (d + 4), .ref (d + 5), .ref (d + 6), .int (w 8), .ref (d + 7), .ref (d + 8), .ref (d + 9), .ref (d + 10), .ref (d + 11), .ref (d + 12), .ref (d + 13), .ref (d + 14), .ref (d + 15), .ref (d + 16), .ref (d + 17), .int (w 20), .ref (d + 18), .int (w 22), .ref (d + 19), .ref (d + 20), .ref (d + 21), .int (w 26), .int (w 27), .int (w 28), .ref (d + 22), .ref (d + 23), .ref (d + 24), .ref (d + 25), .ref (d + 26), .int (nI u.length), .ref (d + 27), .ref (d + 28), .int (nI (ed - 1)), .int (nI us.length)])) Hn := hRl.1
        refine g_get X kc_Model mo26 34 (by decide) lk_Model_232 rfl d_Model_undo_56 ?_
        refine gn_ge X.1.1 X.1.2.1 i u.length (by omega) (by omega) d_Model_undo_59 rfl (fun hc59 => ?_) (fun hc59 => ?_)
        · refine lv_aload_n X.1.1 X.1.2.1 d_Model_undo_85 rfl (gl_at hl rfl) ?_
          refine g_get X kc_Model mo26 34 (by decide) lk_Model_232 rfl d_Model_undo_86 ?_
          exact g_iret X B ⟨F, ⟨rfl, fun j hj => hi54_1.1 j (by omega)⟩, hRl, hzl, fun p hp => (frl p (by omega))⟩ hL d_Model_undo_89 (by omega) (by omega)
        · refine lv_aload_n X.1.1 X.1.2.1 d_Model_undo_62 rfl (gl_at hl rfl) ?_
          refine g_get X kc_Model mo26 33 (by decide) lk_Model_90 rfl d_Model_undo_63 ?_
          refine lv_iload_n X.1.1 X.1.2.1 d_Model_undo_66 rfl (gl_at hl rfl) ?_
          refine lv_aload_n X.1.1 X.1.2.1 d_Model_undo_67 rfl (gl_at hl rfl) ?_
          refine g_get X kc_Model mo26 35 (by decide) lk_Model_93 rfl d_Model_undo_68 ?_
          refine lv_bipush (v := nI 120) X.1.1 X.1.2.1 d_Model_undo_71 (by decide) ?_
          refine lv_iload_n X.1.1 X.1.2.1 d_Model_undo_73 rfl (gl_at hl rfl) ?_
          refine lv_imul X.1.1 X.1.2.1 d_Model_undo_74 ?_
          refine g_top (nI (120 * ((ed - 1) % 21))) (pk_mul _ _) ?_
          refine lv_iload_n X.1.1 X.1.2.1 d_Model_undo_75 rfl (gl_at hl rfl) ?_
          refine lv_iadd X.1.1 X.1.2.1 d_Model_undo_76 ?_
          refine g_top (nI ((120 * ((ed - 1) % 21)) + i)) (nI_add _ _) ?_
          have ma27 : va_at D CL (d + 27, .inl (q 0, 2520, .inl (ar 27))) Hn := hRl.a27
          refine g_iald X 0 ma27 rfl ((120 * ((ed - 1) % 21)) + i) (by omega) (by omega) d_Model_undo_77 ?_
          refine g_top (nI (u.getD i 0)) (hr4 i (by omega)) ?_
          have ma28 : va_at D CL (d + 26, .inl (q 0, 120, .inl F)) Hn := hRl.a26
          refine g_iast (A := (fun p => d ≤ p ∧ p ≤ d + 28)) X 0 ma28 rfl i (by omega) (by decide) d_Model_undo_78 ⟨by omega, by omega⟩ hL (fun H29 locs h30 z31 oq32 hL => ?_)
          have hR33 : dR D q H29 d (upd (upd (upd (upd w 0 (nI 0)) 34 (nI u.length)) 37 (nI (ed - 1))) 38 (nI us.length)) (va_up ar 26 (upd F i (nI (u.getD i 0)))) := hRl.putB 26 (by decide) h30 oq32 rfl (fun j hj => by simp only [va_up, if_neg hj])
          refine g_iinc X.1.1 X.1.2.1 (nI (i + 1)) hl 2 d_Model_undo_79 rfl (nI_1 _) rfl (fun ls hl => ?_)
          refine lv_goto X.1.1 X.1.2.1 d_Model_undo_82 rfl ?_
          exact ih54 (i + 1) (upd F i (nI (u.getD i 0))) H29 locs ls (by omega) (by omega) (hi54_1.step (by omega)) hR33 (z31.trans hzl) (fun p hp => ((oq32 p (by omega)).trans (frl p (by omega)))) hL hl
    exact loop54 _ 0 (ar 26) H21 locs ls (Nat.lt_succ_self _) (Nat.zero_le _) tCp.zero (hR25.as (fun j => by first | rfl | (simp only [upd]; (repeat' split) <;> first | rfl | omega | (subst_vars; rfl))) (fun j => by first | rfl | (simp only [va_up]; (repeat' split) <;> first | rfl | omega | (subst_vars; rfl)))) (z23.trans (z16.trans (z10.trans z4))) (fun p hp => ((oq24 p (by omega)).trans ((oq17 p (by omega)).trans ((oq11 p (by omega)).trans (oq5 p (by omega)))))) hL hl
  · omega

set_option maxHeartbeats 4000000 in
set_option maxRecDepth 100000 in
/-- letter -/
theorem c_Model_letter (l : Launch) (D : va_G) (q : Nat → ClassId) (H : Heap) (d : Nat) (w : Nat → Int32) (ar : Nat → Nat → Int32) (hR : dR D q H d w ar) (xs : List Nat) (us : List (List Nat)) (ed : Nat) (hP : pP w ar xs us ed) (x : Int32) : gC l y_Model_letter (Cond.code y_Model_letter b_Model_letter 4 (some .int) :: gWS) (gR 0 0 0 0) D CL (gY q) (fun _ => True) [.ref d, .int x] H (fun v1 H1 => v1 = some (.int (h_ltr xs x)) ∧ dR D q H1 d (upd w 0 (nI 0)) ar ∧ H1.size = H.size ∧ ∀ p : Nat, (p < d ∨ d + 28 < p) → H1[p]? = H[p]?) 0 0 (fun p => d ≤ p ∧ p ≤ d + 28) := by
  refine gC.ofW R_Model "letter" (by decide) rfl rfl ?_
  intro p e s m below meth c hadm X hE hH B hne
  refine g_entry [some (.ref d), some (.int x), none, none] rfl rfl (Nat.le_of_ble_eq_true rfl) (fun ls hl => ?_)
  obtain ⟨hp1, hp2, hp3, hp4, hp5, hp6, hp7, hp8⟩ := hP
  have hp9 := hp8.1
  refine lv_aload_n X.1.1 X.1.2.1 d_Model_letter_0 rfl (gl_at hl rfl) ?_
  refine lv_iconst (v := nI 0) X.1.1 X.1.2.1 d_Model_letter_1 (by decide) ?_
  have mo1 : va_at D CL (d, .inr (10, [.int (w 0), .ref (d + 1), .int (w 2), .ref (d + 2), .ref (d + 3), .ref (d + 4), .ref (d + 5), .ref (d + 6), .int (w 8), .ref (d + 7), .ref (d + 8), .ref (d + 9), .ref (d + 10), .ref (d + 11), .ref (d + 12), .ref (d + 13), .ref (d + 14), .ref (d + 15), .ref (d + 16), .ref (d + 17), .int (w 20), .ref (d + 18), .int (w 22), .ref (d + 19), .ref (d + 20), .ref (d + 21), .int (w 26), .int (w 27), .int (w 28), .ref (d + 22), .ref (d + 23), .ref (d + 24), .ref (d + 25), .ref (d + 26), .int (w 34), .ref (d + 27), .ref (d + 28), .int (w 37), .int (w 38)])) H := hR.1
  refine g_put (A := (fun p => d ≤ p ∧ p ≤ d + 28)) X kc_Model mo1 0 (by decide) lk_Model_99 rfl rfl rfl (Nat.le_of_ble_eq_true rfl) d_Model_letter_2 ⟨by omega, by omega⟩ (fun _ h => by cases h) (fun H2 locs h3 z4 oq5 hL => ?_)
  have hR6 : dR D q H2 d (upd w 0 (nI 0)) ar := hR.putO h3 oq5
  refine lv_iload_n X.1.1 X.1.2.1 d_Model_letter_5 rfl (gl_at hl rfl) ?_
  refine lv_iconst (v := (-1)) X.1.1 X.1.2.1 d_Model_letter_6 (by decide) ?_
  refine lv_icmp_ne X.1.1 X.1.2.1 d_Model_letter_7 rfl (fun hc7 => ?_) (fun hc7 => ?_)
  · refine lv_iload_n X.1.1 X.1.2.1 d_Model_letter_15 rfl (gl_at hl rfl) ?_
    refine lv_bipush (v := (-2)) X.1.1 X.1.2.1 d_Model_letter_16 (by decide) ?_
    refine lv_icmp_ne X.1.1 X.1.2.1 d_Model_letter_18 rfl (fun hc18 => ?_) (fun hc18 => ?_)
    · refine lv_iload_n X.1.1 X.1.2.1 d_Model_letter_53 rfl (gl_at hl rfl) ?_
      refine lv_if_lt X.1.1 X.1.2.1 d_Model_letter_54 rfl (fun hc54 => ?_) (fun hc54 => ?_)
      · refine lv_iconst (v := (-1)) X.1.1 X.1.2.1 d_Model_letter_65 (by decide) ?_
        refine lv_goto X.1.1 X.1.2.1 d_Model_letter_66 rfl ?_
        exact g_iret X B ⟨by
          refine congrArg (fun z => some (Value.int z)) ?_
          unfold h_ltr h_let
          rw [if_neg hc18, if_neg hc7, if_neg (fun h9 => by first | exact h9.1 hc54 | exact h9.2 (gi_nltn hc62))], hR6, z4, fun p hp => (oq5 p (by omega))⟩ hL d_Model_letter_75 (by omega) (by omega)
      · refine lv_iload_n X.1.1 X.1.2.1 d_Model_letter_57 rfl (gl_at hl rfl) ?_
        refine lv_aload_n X.1.1 X.1.2.1 d_Model_letter_58 rfl (gl_at hl rfl) ?_
        have mo7 : va_at D CL (d, .inr (10, [.int (nI 0), .ref (d + 1), .int (w 2), .ref (d + 2), .ref (d + 3), .ref (d + 4), .ref (d + 5), .ref (d + 6), .int (w 8), .ref (d + 7), .ref (d + 8), .ref (d + 9), .ref (d + 10), .ref (d + 11), .ref (d + 12), .ref (d + 13), .ref (d + 14), .ref (d + 15), .ref (d + 16), .ref (d + 17), .int (w 20), .ref (d + 18), .int (w 22), .ref (d + 19), .ref (d + 20), .ref (d + 21), .int (w 26), .int (w 27), .int (w 28), .ref (d + 22), .ref (d + 23), .ref (d + 24), .ref (d + 25), .ref (d + 26), .int (w 34), .ref (d + 27), .ref (d + 28), .int (w 37), .int (w 38)])) H2 := hR6.1
        refine g_get X kc_Model mo7 34 (by decide) lk_Model_232 rfl d_Model_letter_59 ?_
        refine g_top (nI xs.length) hp1 ?_
        refine lv_icmp_lt X.1.1 X.1.2.1 d_Model_letter_62 rfl (fun hc62 => ?_) (fun hc62 => ?_)
        · obtain ⟨k, hk9, rfl⟩ := h_okN (c := xs.length) (by omega) ⟨hc54, gi_ltn hc62⟩
          refine lv_aload_n X.1.1 X.1.2.1 d_Model_letter_69 rfl (gl_at hl rfl) ?_
          refine g_get X kc_Model mo7 33 (by decide) lk_Model_90 rfl d_Model_letter_70 ?_
          refine lv_iload_n X.1.1 X.1.2.1 d_Model_letter_73 rfl (gl_at hl rfl) ?_
          have ma8 : va_at D CL (d + 26, .inl (q 0, 120, .inl (ar 26))) H2 := hR6.a26
          refine g_iald X 0 ma8 rfl k (by omega) (by omega) d_Model_letter_74 ?_
          refine g_top (nI (xs.getD k 0)) ((congrArg (ar 26) (by omega)).trans (hp2 k (by omega))) ?_
          exact g_iret X B ⟨by rw [h_ltr, if_neg hc18, h_letk hk9 (by omega)], hR6, z4, fun p hp => (oq5 p (by omega))⟩ hL d_Model_letter_75 (by omega) (by omega)
        · refine lv_iconst (v := (-1)) X.1.1 X.1.2.1 d_Model_letter_65 (by decide) ?_
          refine lv_goto X.1.1 X.1.2.1 d_Model_letter_66 rfl ?_
          exact g_iret X B ⟨by
            refine congrArg (fun z => some (Value.int z)) ?_
            unfold h_ltr h_let
            rw [if_neg hc18, if_neg hc7, if_neg (fun h9 => by first | exact h9.1 hc54 | exact h9.2 (gi_nltn hc62))], hR6, z4, fun p hp => (oq5 p (by omega))⟩ hL d_Model_letter_75 (by omega) (by omega)
    · refine lv_iconst (v := nI 0) X.1.1 X.1.2.1 d_Model_letter_21 (by decide) ?_
      refine g_istn X.1.1 X.1.2.1 hl 2 d_Model_letter_22 rfl (Nat.le_of_ble_eq_true rfl) rfl (fun ls hl => ?_)
      refine lv_iconst (v := nI 0) X.1.1 X.1.2.1 d_Model_letter_23 (by decide) ?_
      refine g_istn X.1.1 X.1.2.1 hl 3 d_Model_letter_24 rfl (Nat.le_of_ble_eq_true rfl) rfl (fun ls hl => ?_)
      have loop25 : ∀ (fu : Nat) (i : Nat) (y : Int32) (ls : Array Slot), xs.length - i < fu → (i ≤ xs.length) → (y = t_hash xs i) →  gl ls [some (.ref d), some (.int x), some (.int y), some (.int (nI i))] → W p l e (gR 0 0 0 0) s m ([.ref d, .int x] : List Value).toArray below meth c H2 locs 0 0 (gQ below ([.ref d, .int x] : List Value).toArray s (fun v1 H1 => v1 = some (.int (h_ltr xs x)) ∧ dR D q H1 d (upd w 0 (nI 0)) ar ∧ H1.size = H.size ∧ ∀ p : Nat, (p < d ∨ d + 28 < p) → H1[p]? = H[p]?) 0 0 (fun p => d ≤ p ∧ p ≤ d + 28)) (F0 m 25 ls []) := by
        intro fu
        induction fu with
        | zero => intro i y ls hmu; omega
        | succ fu ih25 =>
          intro i y ls hmu25 hi25_0 hi25_1 hl
          refine lv_iload_n X.1.1 X.1.2.1 d_Model_letter_25 rfl (gl_at hl rfl) ?_
          refine lv_aload_n X.1.1 X.1.2.1 d_Model_letter_26 rfl (gl_at hl rfl) ?_
          have mo9 : va_at D CL (d, .inr (10, [.int (nI 0), .ref (d + 1), .int (w 2), .ref (d + 2), .ref (d + 3), .ref (d + 4), .ref (d + 5), .ref (d + 6), .int (w 8), .ref (d + 7), .ref (d + 8), .ref (d + 9), .ref (d + 10), .ref (d + 11), .ref (d + 12), .ref (d + 13), .ref (d + 14), .ref (d + 15), .ref (d + 16), .ref (d + 17), .int (w 20), .ref (d + 18), .int (w 22), .ref (d + 19), .ref (d + 20), .ref (d + 21), .int (w 26), .int (w 27), .int (w 28), .ref (d + 22), .ref (d + 23), .ref (d + 24), .ref (d + 25), .ref (d + 26), .int (w 34), .ref (d + 27), .ref (d + 28), .int (w 37), .int (w 38)])) H2 := hR6.1
          refine g_get X kc_Model mo9 34 (by decide) lk_Model_232 rfl d_Model_letter_27 ?_
          refine g_top (nI xs.length) hp1 ?_
          refine gn_ge X.1.1 X.1.2.1 i xs.length (by omega) (by omega) d_Model_letter_30 rfl (fun hc30 => ?_) (fun hc30 => ?_)
          · refine lv_iload_n X.1.1 X.1.2.1 d_Model_letter_51 rfl (gl_at hl rfl) ?_
            exact g_iret X B ⟨by
              subst hc18
              show _ = some (Value.int (h_ltr xs (-2)))
              rw [h_ltr, if_pos rfl, show xs.length = i by omega, ← hi25_1], hR6, z4, fun p hp => (oq5 p (by omega))⟩ hL d_Model_letter_52 (by omega) (by omega)
          · refine lv_bipush (v := nI 31) X.1.1 X.1.2.1 d_Model_letter_33 (by decide) ?_
            refine lv_iload_n X.1.1 X.1.2.1 d_Model_letter_35 rfl (gl_at hl rfl) ?_
            refine lv_imul X.1.1 X.1.2.1 d_Model_letter_36 ?_
            refine lv_aload_n X.1.1 X.1.2.1 d_Model_letter_37 rfl (gl_at hl rfl) ?_
            refine g_get X kc_Model mo9 33 (by decide) lk_Model_90 rfl d_Model_letter_38 ?_
            refine lv_iload_n X.1.1 X.1.2.1 d_Model_letter_41 rfl (gl_at hl rfl) ?_
            have ma10 : va_at D CL (d + 26, .inl (q 0, 120, .inl (ar 26))) H2 := hR6.a26
            refine g_iald X 0 ma10 rfl i (by omega) (by omega) d_Model_letter_42 ?_
            refine g_top (nI (xs.getD i 0)) ((congrArg (ar 26) (by omega)).trans (hp2 i (by omega))) ?_
            refine lv_iadd X.1.1 X.1.2.1 d_Model_letter_43 ?_
            refine g_istn X.1.1 X.1.2.1 hl 2 d_Model_letter_44 rfl (Nat.le_of_ble_eq_true rfl) rfl (fun ls hl => ?_)
            refine g_iinc X.1.1 X.1.2.1 (nI (i + 1)) hl 3 d_Model_letter_45 rfl (nI_1 _) rfl (fun ls hl => ?_)
            refine lv_goto X.1.1 X.1.2.1 d_Model_letter_48 rfl ?_
            exact ih25 (i + 1) (((nI 31) * y) + (nI (xs.getD i 0))) ls (by omega) (by omega) (by rw [hi25_1]; rfl) hl
      exact loop25 _ 0 (nI 0) ls (Nat.lt_succ_self _) (Nat.zero_le _) rfl hl
  · refine lv_aload_n X.1.1 X.1.2.1 d_Model_letter_10 rfl (gl_at hl rfl) ?_
    have mo11 : va_at D CL (d, .inr (10, [.int (nI 0), .ref (d + 1), .int (w 2), .ref (d + 2), .ref (d + 3), .ref (d + 4), .ref (d + 5), .ref (d + 6), .int (w 8), .ref (d + 7), .ref (d + 8), .ref (d + 9), .ref (d + 10), .ref (d + 11), .ref (d + 12), .ref (d + 13), .ref (d + 14), .ref (d + 15), .ref (d + 16), .ref (d + 17), .int (w 20), .ref (d + 18), .int (w 22), .ref (d + 19), .ref (d + 20), .ref (d + 21), .int (w 26), .int (w 27), .int (w 28), .ref (d + 22), .ref (d + 23), .ref (d + 24), .ref (d + 25), .ref (d + 26), .int (w 34), .ref (d + 27), .ref (d + 28), .int (w 37), .int (w 38)])) H2 := hR6.1
    refine g_get X kc_Model mo11 34 (by decide) lk_Model_232 rfl d_Model_letter_11 ?_
    refine g_top (nI xs.length) hp1 ?_
    exact g_iret X B ⟨by subst hc7; rfl, hR6, z4, fun p hp => (oq5 p (by omega))⟩ hL d_Model_letter_14 (by omega) (by omega)

set_option maxHeartbeats 4000000 in
set_option maxRecDepth 100000 in
/-- begin -/
theorem c_Model_begin (l : Launch) (D : va_G) (q : Nat → ClassId) (H : Heap) (d : Nat) (w : Nat → Int32) (ar : Nat → Nat → Int32) (hR : dR D q H d w ar) (xs : List Nat) (us : List (List Nat)) (ed : Nat) (hP : pP w ar xs us ed) (sti : Nat → Nat) (hst : sfP xs xs.length xs.length sti) (k : Nat) (hk : k < xs.length) : gC l y_Model_begin (Cond.code y_Model_begin b_Model_begin 5 (some .int) :: gWS) (gR 1 26 0 0) D CL (gY q) (fun _ => True) [.ref d, .int (nI k)] H (fun v1 H1 => v1 = some (.int (nI (sti k))) ∧ H1 = H) 0 0 (fun _ => False) := by
  refine gC.ofW R_Model "begin" (by decide) rfl rfl ?_
  intro p e s m below meth c hadm X hE hH B hne
  refine g_entry [some (.ref d), some (.int (nI k)), none, none, none] rfl rfl (Nat.le_of_ble_eq_true rfl) (fun ls hl => ?_)
  obtain ⟨hp1, hp2, hp3, hp4, hp5, hp6, hp7, hp8⟩ := hP
  have hp9 := hp8.1
  refine lv_iconst (v := nI 0) X.1.1 X.1.2.1 d_Model_begin_0 (by decide) ?_
  refine g_istn X.1.1 X.1.2.1 hl 2 d_Model_begin_1 rfl (Nat.le_of_ble_eq_true rfl) rfl (fun ls hl => ?_)
  have loop2 : ∀ (fu : Nat) (i : Nat) (locs : List Loc) (ls : Array Slot), xs.length - i < fu → (i ≤ xs.length) → (i ≤ sti k) → (∀ x ∈ locs, (fun _ => False) x.base) → gl ls [some (.ref d), some (.int (nI k)), some (.int (nI i)), none, none] → W p l e (gR 1 26 0 0) s m ([.ref d, .int (nI k)] : List Value).toArray below meth c H locs 0 0 (gQ below ([.ref d, .int (nI k)] : List Value).toArray s (fun v1 H1 => v1 = some (.int (nI (sti k))) ∧ H1 = H) 0 0 (fun _ => False)) (F0 m 2 ls []) := by
    intro fu
    induction fu with
    | zero => intro i locs ls hmu; omega
    | succ fu ih2 =>
      intro i locs ls hmu2 hi2_0 hi2_1 hL hl
      refine lv_iload_n X.1.1 X.1.2.1 d_Model_begin_2 rfl (gl_at hl rfl) ?_
      refine lv_aload_n X.1.1 X.1.2.1 d_Model_begin_3 rfl (gl_at hl rfl) ?_
      have mo1 : va_at D CL (d, .inr (10, [.int (w 0), .ref (d + 1), .int (w 2), .ref (d + 2), .ref (d + 3), .ref (d + 4), .ref (d + 5), .ref (d + 6), .int (w 8), .ref (d + 7), .ref (d + 8), .ref (d + 9), .ref (d + 10), .ref (d + 11), .ref (d + 12), .ref (d + 13), .ref (d + 14), .ref (d + 15), .ref (d + 16), .ref (d + 17), .int (w 20), .ref (d + 18), .int (w 22), .ref (d + 19), .ref (d + 20), .ref (d + 21), .int (w 26), .int (w 27), .int (w 28), .ref (d + 22), .ref (d + 23), .ref (d + 24), .ref (d + 25), .ref (d + 26), .int (w 34), .ref (d + 27), .ref (d + 28), .int (w 37), .int (w 38)])) H := hR.1
      refine g_get X kc_Model mo1 34 (by decide) lk_Model_232 rfl d_Model_begin_4 ?_
      refine g_top (nI xs.length) hp1 ?_
      refine gn_ge X.1.1 X.1.2.1 i xs.length (by omega) (by omega) d_Model_begin_7 rfl (fun hc7 => ?_) (fun hc7 => ?_)
      · have e8 := (hst.1 k hk).2
        omega
      · refine lv_iconst (v := nI 0) X.1.1 X.1.2.1 d_Model_begin_10 (by decide) ?_
        refine g_istn X.1.1 X.1.2.1 hl 3 d_Model_begin_11 rfl (Nat.le_of_ble_eq_true rfl) rfl (fun ls hl => ?_)
        refine lv_iconst (v := nI 0) X.1.1 X.1.2.1 d_Model_begin_12 (by decide) ?_
        refine g_ist X.1.1 X.1.2.1 hl 4 d_Model_begin_13 (Nat.le_of_ble_eq_true rfl) rfl (fun ls hl => ?_)
        have loop15 : ∀ (fu : Nat) (j : Nat) (z0 : Nat) (locs : List Loc) (ls : Array Slot), xs.length - j < fu → (j ≤ xs.length) → (z0 = v_cnt (fun j => decide (t_ord (xs.drop j) (xs.drop i) < 0)) 0 j) → (∀ x ∈ locs, (fun _ => False) x.base) → gl ls [some (.ref d), some (.int (nI k)), some (.int (nI i)), some (.int (nI z0)), some (.int (nI j))] → W p l e (gR 1 26 0 0) s m ([.ref d, .int (nI k)] : List Value).toArray below meth c H locs 0 0 (gQ below ([.ref d, .int (nI k)] : List Value).toArray s (fun v1 H1 => v1 = some (.int (nI (sti k))) ∧ H1 = H) 0 0 (fun _ => False)) (F0 m 15 ls []) := by
          intro fu
          induction fu with
          | zero => intro j z0 locs ls hmu; omega
          | succ fu ih15 =>
            intro j z0 locs ls hmu15 hi15_0 hi15_1 hL hl
            have hz9 := v_cnt_le (fun j => decide (t_ord (xs.drop j) (xs.drop i) < 0)) 0 j
            refine lv_iload X.1.1 X.1.2.1 d_Model_begin_15 (gl_at hl rfl) ?_
            refine lv_aload_n X.1.1 X.1.2.1 d_Model_begin_17 rfl (gl_at hl rfl) ?_
            refine g_get X kc_Model mo1 34 (by decide) lk_Model_232 rfl d_Model_begin_18 ?_
            refine g_top (nI xs.length) hp1 ?_
            refine gn_ge X.1.1 X.1.2.1 j xs.length (by omega) (by omega) d_Model_begin_21 rfl (fun hc21 => ?_) (fun hc21 => ?_)
            · refine lv_iload_n X.1.1 X.1.2.1 d_Model_begin_68 rfl (gl_at hl rfl) ?_
              refine lv_iload_n X.1.1 X.1.2.1 d_Model_begin_69 rfl (gl_at hl rfl) ?_
              refine gn_ne X.1.1 X.1.2.1 z0 k (by omega) (by omega) d_Model_begin_70 rfl (fun hc70 => ?_) (fun hc70 => ?_)
              · refine g_iinc X.1.1 X.1.2.1 (nI (i + 1)) hl 2 d_Model_begin_75 rfl (nI_1 _) rfl (fun ls hl => ?_)
                refine lv_goto X.1.1 X.1.2.1 d_Model_begin_78 rfl ?_
                exact ih2 (i + 1) locs ls (by omega) (by omega) (by
                  have e8 := hi2_1
                  by_cases e9 : i = sti k
                  · exact absurd (by rw [hi15_1, show j = xs.length by omega, e9]; exact sf_cnt hst hk) hc70
                  · omega) hL (gl_forget (gl_forget hl 3) 4)
              · refine lv_iload_n X.1.1 X.1.2.1 d_Model_begin_73 rfl (gl_at hl rfl) ?_
                exact g_iret X B ⟨by
                  obtain ⟨k1, hk1, rfl⟩ := hst.2.1 i (by omega) (by omega)
                  have e7 := sf_cnt hst hk1
                  rw [show k1 = k by rw [← hc70, hi15_1, show j = xs.length by omega, e7]], rfl⟩ hL d_Model_begin_74 (by omega) (by omega)
            · refine lv_iload_n X.1.1 X.1.2.1 d_Model_begin_24 rfl (gl_at hl rfl) ?_
              refine lv_aload_n X.1.1 X.1.2.1 d_Model_begin_25 rfl (gl_at hl rfl) ?_
              refine g_get X kc_Model mo1 33 (by decide) lk_Model_90 rfl d_Model_begin_26 ?_
              refine lv_iload X.1.1 X.1.2.1 d_Model_begin_29 (gl_at hl rfl) ?_
              refine lv_aload_n X.1.1 X.1.2.1 d_Model_begin_31 rfl (gl_at hl rfl) ?_
              refine g_get X kc_Model mo1 34 (by decide) lk_Model_232 rfl d_Model_begin_32 ?_
              refine g_top (nI xs.length) hp1 ?_
              refine lv_iload X.1.1 X.1.2.1 d_Model_begin_35 (gl_at hl rfl) ?_
              refine lv_isub X.1.1 X.1.2.1 d_Model_begin_37 ?_
              refine g_top (nI (xs.length - j)) (pk_sub (by omega)) ?_
              refine lv_aload_n X.1.1 X.1.2.1 d_Model_begin_38 rfl (gl_at hl rfl) ?_
              refine g_get X kc_Model mo1 33 (by decide) lk_Model_90 rfl d_Model_begin_39 ?_
              refine lv_iload_n X.1.1 X.1.2.1 d_Model_begin_42 rfl (gl_at hl rfl) ?_
              refine lv_aload_n X.1.1 X.1.2.1 d_Model_begin_43 rfl (gl_at hl rfl) ?_
              refine g_get X kc_Model mo1 34 (by decide) lk_Model_232 rfl d_Model_begin_44 ?_
              refine g_top (nI xs.length) hp1 ?_
              refine lv_iload_n X.1.1 X.1.2.1 d_Model_begin_47 rfl (gl_at hl rfl) ?_
              refine lv_isub X.1.1 X.1.2.1 d_Model_begin_48 ?_
              refine g_top (nI (xs.length - i)) (pk_sub (by omega)) ?_
              refine g_cs (A := (fun _ => False)) X gWS_good mw_Model_106 (c_Model_order l D q H (d + 26) 120 (d + 26) 120 (ar 26) (ar 26) hR.a26 hR.a26 j i (xs.length - j) (xs.length - i) (xs.drop j) (xs.drop i) (by rw [List.length_drop]) (by rw [List.length_drop]) (tXo_drop hp2 j) (tXo_drop hp2 i) (by rw [List.length_drop]; omega) (by rw [List.length_drop]; omega) (by omega) (by omega) (t16_drop hp4 _) (t16_drop hp4 _)) (fun _ _ _ => trivial) gBlind.tt rfl rfl hl.1 (Nat.le_of_ble_eq_true rfl) rfl rfl ⟨by decide, by decide⟩ ⟨by decide, by decide⟩ d_Model_begin_49 (fun _ h => h.elim) hL (fun v2 H3 locs hp4 hL => ?_)
              obtain ⟨⟨r, rfl, hr⟩, hHe⟩ := hp4
              rw [hHe]
              refine lv_if_ge X.1.1 X.1.2.1 d_Model_begin_52 rfl (fun hc52 => ?_) (fun hc52 => ?_)
              · refine lv_iconst (v := nI 0) X.1.1 X.1.2.1 d_Model_begin_59 (by decide) ?_
                refine lv_iadd X.1.1 X.1.2.1 d_Model_begin_60 ?_
                refine g_top (nI (z0 + 0)) (nI_add _ _) ?_
                refine g_istn X.1.1 X.1.2.1 hl 3 d_Model_begin_61 rfl (Nat.le_of_ble_eq_true rfl) rfl (fun ls hl => ?_)
                refine g_iinc X.1.1 X.1.2.1 (nI (j + 1)) hl 4 d_Model_begin_62 rfl (nI_1 _) rfl (fun ls hl => ?_)
                refine lv_goto X.1.1 X.1.2.1 d_Model_begin_65 rfl ?_
                exact ih15 (j + 1) (z0 + 0) locs ls (by omega) (by omega) (by
                  show _ = v_cnt _ _ j + _
                  rw [Nat.zero_add]
                  first
                  | rw [if_pos (decide_eq_true (by rw [← hr]; exact gi_nge hc52)), ← hi15_1]
                  | rw [if_neg (fun h9 => by have h8 := of_decide_eq_true h9; have h7 := gi_ge hc52; omega), ← hi15_1]) hL hl
              · refine lv_iconst (v := nI 1) X.1.1 X.1.2.1 d_Model_begin_55 (by decide) ?_
                refine lv_goto X.1.1 X.1.2.1 d_Model_begin_56 rfl ?_
                refine lv_iadd X.1.1 X.1.2.1 d_Model_begin_60 ?_
                refine g_top (nI (z0 + 1)) (nI_add _ _) ?_
                refine g_istn X.1.1 X.1.2.1 hl 3 d_Model_begin_61 rfl (Nat.le_of_ble_eq_true rfl) rfl (fun ls hl => ?_)
                refine g_iinc X.1.1 X.1.2.1 (nI (j + 1)) hl 4 d_Model_begin_62 rfl (nI_1 _) rfl (fun ls hl => ?_)
                refine lv_goto X.1.1 X.1.2.1 d_Model_begin_65 rfl ?_
                exact ih15 (j + 1) (z0 + 1) locs ls (by omega) (by omega) (by
                  show _ = v_cnt _ _ j + _
                  rw [Nat.zero_add]
                  first
                  | rw [if_pos (decide_eq_true (by rw [← hr]; exact gi_nge hc52)), ← hi15_1]
                  | rw [if_neg (fun h9 => by have h8 := of_decide_eq_true h9; have h7 := gi_ge hc52; omega), ← hi15_1]) hL hl
        exact loop15 _ 0 0 locs ls (Nat.lt_succ_self _) (Nat.zero_le _) rfl hL hl
  exact loop2 _ 0 [] ls (Nat.lt_succ_self _) (Nat.zero_le _) (Nat.zero_le _) (fun _ h => by cases h) hl

set_option maxHeartbeats 4000000 in
set_option maxRecDepth 100000 in
/-- suffix: none -/
theorem c_Model_suffixN (l : Launch) (D : va_G) (q : Nat → ClassId) (H : Heap) (d : Nat) (w : Nat → Int32) (ar : Nat → Nat → Int32) (hR : dR D q H d w ar) (xs : List Nat) (us : List (List Nat)) (ed : Nat) (hP : pP w ar xs us ed) (x y : Int32) (hbad : ¬ (h_ok xs.length x ∧ ¬ y < 0 ∧ y ≤ nI 1)) : gC l y_Model_suffix (Cond.code y_Model_suffix b_Model_suffix 6 (some .int) :: gWS) (gR 2 50 0 0) D CL (gY q) (fun _ => True) [.ref d, .int x, .int y] H (fun v1 H1 => v1 = some (.int (-1)) ∧ dR D q H1 d (upd w 0 (nI 0)) ar ∧ H1.size = H.size ∧ ∀ p : Nat, (p < d ∨ d + 28 < p) → H1[p]? = H[p]?) 0 0 (fun p => d ≤ p ∧ p ≤ d + 28) := by
  refine gC.ofW R_Model "suffix" (by decide) rfl rfl ?_
  intro p e s m below meth c hadm X hE hH B hne
  refine g_entry [some (.ref d), some (.int x), some (.int y), none, none, none] rfl rfl (Nat.le_of_ble_eq_true rfl) (fun ls hl => ?_)
  obtain ⟨hp1, hp2, hp3, hp4, hp5, hp6, hp7, hp8⟩ := hP
  have hp9 := hp8.1
  refine lv_aload_n X.1.1 X.1.2.1 d_Model_suffix_0 rfl (gl_at hl rfl) ?_
  refine lv_iconst (v := nI 0) X.1.1 X.1.2.1 d_Model_suffix_1 (by decide) ?_
  have mo1 : va_at D CL (d, .inr (10, [.int (w 0), .ref (d + 1), .int (w 2), .ref (d + 2), .ref (d + 3), .ref (d + 4), .ref (d + 5), .ref (d + 6), .int (w 8), .ref (d + 7), .ref (d + 8), .ref (d + 9), .ref (d + 10), .ref (d + 11), .ref (d + 12), .ref (d + 13), .ref (d + 14), .ref (d + 15), .ref (d + 16), .ref (d + 17), .int (w 20), .ref (d + 18), .int (w 22), .ref (d + 19), .ref (d + 20), .ref (d + 21), .int (w 26), .int (w 27), .int (w 28), .ref (d + 22), .ref (d + 23), .ref (d + 24), .ref (d + 25), .ref (d + 26), .int (w 34), .ref (d + 27), .ref (d + 28), .int (w 37), .int (w 38)])) H := hR.1
  refine g_put (A := (fun p => d ≤ p ∧ p ≤ d + 28)) X kc_Model mo1 0 (by decide) lk_Model_99 rfl rfl rfl (Nat.le_of_ble_eq_true rfl) d_Model_suffix_2 ⟨by omega, by omega⟩ (fun _ h => by cases h) (fun H2 locs h3 z4 oq5 hL => ?_)
  have hR6 : dR D q H2 d (upd w 0 (nI 0)) ar := hR.putO h3 oq5
  refine lv_iload_n X.1.1 X.1.2.1 d_Model_suffix_5 rfl (gl_at hl rfl) ?_
  refine lv_if_lt X.1.1 X.1.2.1 d_Model_suffix_6 rfl (fun hc6 => ?_) (fun hc6 => ?_)
  · refine lv_iconst (v := (-1)) X.1.1 X.1.2.1 d_Model_suffix_26 (by decide) ?_
    exact g_iret X B ⟨rfl, hR6, z4, fun p hp => (oq5 p (by omega))⟩ hL d_Model_suffix_27 (by omega) (by omega)
  · refine lv_iload_n X.1.1 X.1.2.1 d_Model_suffix_9 rfl (gl_at hl rfl) ?_
    refine lv_aload_n X.1.1 X.1.2.1 d_Model_suffix_10 rfl (gl_at hl rfl) ?_
    have mo7 : va_at D CL (d, .inr (10, [.int (nI 0), .ref (d + 1), .int (w 2), .ref (d + 2), .ref (d + 3), .ref (d + 4), .ref (d + 5), .ref (d + 6), .int (w 8), .ref (d + 7), .ref (d + 8), .ref (d + 9), .ref (d + 10), .ref (d + 11), .ref (d + 12), .ref (d + 13), .ref (d + 14), .ref (d + 15), .ref (d + 16), .ref (d + 17), .int (w 20), .ref (d + 18), .int (w 22), .ref (d + 19), .ref (d + 20), .ref (d + 21), .int (w 26), .int (w 27), .int (w 28), .ref (d + 22), .ref (d + 23), .ref (d + 24), .ref (d + 25), .ref (d + 26), .int (w 34), .ref (d + 27), .ref (d + 28), .int (w 37), .int (w 38)])) H2 := hR6.1
    refine g_get X kc_Model mo7 34 (by decide) lk_Model_232 rfl d_Model_suffix_11 ?_
    refine g_top (nI xs.length) hp1 ?_
    refine lv_icmp_ge X.1.1 X.1.2.1 d_Model_suffix_14 rfl (fun hc14 => ?_) (fun hc14 => ?_)
    · refine lv_iconst (v := (-1)) X.1.1 X.1.2.1 d_Model_suffix_26 (by decide) ?_
      exact g_iret X B ⟨rfl, hR6, z4, fun p hp => (oq5 p (by omega))⟩ hL d_Model_suffix_27 (by omega) (by omega)
    · refine lv_iload_n X.1.1 X.1.2.1 d_Model_suffix_17 rfl (gl_at hl rfl) ?_
      refine lv_if_lt X.1.1 X.1.2.1 d_Model_suffix_18 rfl (fun hc18 => ?_) (fun hc18 => ?_)
      · refine lv_iconst (v := (-1)) X.1.1 X.1.2.1 d_Model_suffix_26 (by decide) ?_
        exact g_iret X B ⟨rfl, hR6, z4, fun p hp => (oq5 p (by omega))⟩ hL d_Model_suffix_27 (by omega) (by omega)
      · refine lv_iload_n X.1.1 X.1.2.1 d_Model_suffix_21 rfl (gl_at hl rfl) ?_
        refine lv_iconst (v := nI 1) X.1.1 X.1.2.1 d_Model_suffix_22 (by decide) ?_
        refine lv_icmp_le X.1.1 X.1.2.1 d_Model_suffix_23 rfl (fun hc23 => ?_) (fun hc23 => ?_)
        · exact absurd ⟨⟨hc6, hc14⟩, hc18, hc23⟩ hbad
        · refine lv_iconst (v := (-1)) X.1.1 X.1.2.1 d_Model_suffix_26 (by decide) ?_
          exact g_iret X B ⟨rfl, hR6, z4, fun p hp => (oq5 p (by omega))⟩ hL d_Model_suffix_27 (by omega) (by omega)

set_option maxHeartbeats 4000000 in
set_option maxRecDepth 100000 in
/-- suffix: where -/
theorem c_Model_suffix0 (l : Launch) (D : va_G) (q : Nat → ClassId) (H : Heap) (d : Nat) (w : Nat → Int32) (ar : Nat → Nat → Int32) (hR : dR D q H d w ar) (xs : List Nat) (us : List (List Nat)) (ed : Nat) (hP : pP w ar xs us ed) (sti : Nat → Nat) (hst : sfP xs xs.length xs.length sti) (k : Nat) (hk : k < xs.length) : gC l y_Model_suffix (Cond.code y_Model_suffix b_Model_suffix 6 (some .int) :: gWS) (gR 2 50 0 0) D CL (gY q) (fun _ => True) [.ref d, .int (nI k), .int (nI 0)] H (fun v1 H1 => v1 = some (.int (nI (sti k))) ∧ dR D q H1 d (upd w 0 (nI 0)) ar ∧ H1.size = H.size ∧ ∀ p : Nat, (p < d ∨ d + 28 < p) → H1[p]? = H[p]?) 0 0 (fun p => d ≤ p ∧ p ≤ d + 28) := by
  refine gC.ofW R_Model "suffix" (by decide) rfl rfl ?_
  intro p e s m below meth c hadm X hE hH B hne
  refine g_entry [some (.ref d), some (.int (nI k)), some (.int (nI 0)), none, none, none] rfl rfl (Nat.le_of_ble_eq_true rfl) (fun ls hl => ?_)
  have hP0 := hP
  obtain ⟨hp1, hp2, hp3, hp4, hp5, hp6, hp7, hp8⟩ := hP
  have hp9 := hp8.1
  have hP := hP0
  refine lv_aload_n X.1.1 X.1.2.1 d_Model_suffix_0 rfl (gl_at hl rfl) ?_
  refine lv_iconst (v := nI 0) X.1.1 X.1.2.1 d_Model_suffix_1 (by decide) ?_
  have mo1 : va_at D CL (d, .inr (10, [.int (w 0), .ref (d + 1), .int (w 2), .ref (d + 2), .ref (d + 3), .ref (d + 4), .ref (d + 5), .ref (d + 6), .int (w 8), .ref (d + 7), .ref (d + 8), .ref (d + 9), .ref (d + 10), .ref (d + 11), .ref (d + 12), .ref (d + 13), .ref (d + 14), .ref (d + 15), .ref (d + 16), .ref (d + 17), .int (w 20), .ref (d + 18), .int (w 22), .ref (d + 19), .ref (d + 20), .ref (d + 21), .int (w 26), .int (w 27), .int (w 28), .ref (d + 22), .ref (d + 23), .ref (d + 24), .ref (d + 25), .ref (d + 26), .int (w 34), .ref (d + 27), .ref (d + 28), .int (w 37), .int (w 38)])) H := hR.1
  refine g_put (A := (fun p => d ≤ p ∧ p ≤ d + 28)) X kc_Model mo1 0 (by decide) lk_Model_99 rfl rfl rfl (Nat.le_of_ble_eq_true rfl) d_Model_suffix_2 ⟨by omega, by omega⟩ (fun _ h => by cases h) (fun H2 locs h3 z4 oq5 hL => ?_)
  have hR6 : dR D q H2 d (upd w 0 (nI 0)) ar := hR.putO h3 oq5
  refine lv_iload_n X.1.1 X.1.2.1 d_Model_suffix_5 rfl (gl_at hl rfl) ?_
  refine lv_if_lt X.1.1 X.1.2.1 d_Model_suffix_6 rfl (fun hc6 => ?_) (fun hc6 => ?_)
  · exact absurd hc6 (nI_nneg (by omega))
  · refine lv_iload_n X.1.1 X.1.2.1 d_Model_suffix_9 rfl (gl_at hl rfl) ?_
    refine lv_aload_n X.1.1 X.1.2.1 d_Model_suffix_10 rfl (gl_at hl rfl) ?_
    have mo7 : va_at D CL (d, .inr (10, [.int (nI 0), .ref (d + 1), .int (w 2), .ref (d + 2), .ref (d + 3), .ref (d + 4), .ref (d + 5), .ref (d + 6), .int (w 8), .ref (d + 7), .ref (d + 8), .ref (d + 9), .ref (d + 10), .ref (d + 11), .ref (d + 12), .ref (d + 13), .ref (d + 14), .ref (d + 15), .ref (d + 16), .ref (d + 17), .int (w 20), .ref (d + 18), .int (w 22), .ref (d + 19), .ref (d + 20), .ref (d + 21), .int (w 26), .int (w 27), .int (w 28), .ref (d + 22), .ref (d + 23), .ref (d + 24), .ref (d + 25), .ref (d + 26), .int (w 34), .ref (d + 27), .ref (d + 28), .int (w 37), .int (w 38)])) H2 := hR6.1
    refine g_get X kc_Model mo7 34 (by decide) lk_Model_232 rfl d_Model_suffix_11 ?_
    refine g_top (nI xs.length) hp1 ?_
    refine gn_ge X.1.1 X.1.2.1 k xs.length (by omega) (by omega) d_Model_suffix_14 rfl (fun hc14 => ?_) (fun hc14 => ?_)
    · omega
    · refine lv_iload_n X.1.1 X.1.2.1 d_Model_suffix_17 rfl (gl_at hl rfl) ?_
      refine lv_if_lt X.1.1 X.1.2.1 d_Model_suffix_18 rfl (fun hc18 => ?_) (fun hc18 => ?_)
      · exact absurd hc18 (nI_nneg (by omega))
      · refine lv_iload_n X.1.1 X.1.2.1 d_Model_suffix_21 rfl (gl_at hl rfl) ?_
        refine lv_iconst (v := nI 1) X.1.1 X.1.2.1 d_Model_suffix_22 (by decide) ?_
        refine gn_le X.1.1 X.1.2.1 0 1 (by omega) (by omega) d_Model_suffix_23 rfl (fun hc23 => ?_) (fun hc23 => ?_)
        · refine lv_aload_n X.1.1 X.1.2.1 d_Model_suffix_28 rfl (gl_at hl rfl) ?_
          refine lv_iload_n X.1.1 X.1.2.1 d_Model_suffix_29 rfl (gl_at hl rfl) ?_
          refine g_cv (A := (fun p => d ≤ p ∧ p ≤ d + 28)) X gWS_good mw_Model_240 kc_Model mo7 (c_Model_begin l D q H2 d (upd w 0 (nI 0)) ar hR6 xs us ed hP sti hst k (by omega)) (fun _ _ _ => trivial) gBlind.tt rfl rfl hl.1 (Nat.le_of_ble_eq_true rfl) rfl rfl ⟨by decide, by decide⟩ ⟨by decide, by decide⟩ d_Model_suffix_30 (fun _ h => h.elim) hL (fun v8 H9 locs hp10 hL => ?_)
          obtain ⟨rfl, hHe⟩ := hp10
          rw [hHe]
          refine g_istn X.1.1 X.1.2.1 hl 3 d_Model_suffix_33 rfl (Nat.le_of_ble_eq_true rfl) rfl (fun ls hl => ?_)
          refine lv_iload_n X.1.1 X.1.2.1 d_Model_suffix_34 rfl (gl_at hl rfl) ?_
          refine gn_ne0 X.1.1 X.1.2.1 0 (by omega) d_Model_suffix_35 rfl (fun hc35 => ?_) (fun hc35 => ?_)
          · omega
          · refine lv_iload_n X.1.1 X.1.2.1 d_Model_suffix_38 rfl (gl_at hl rfl) ?_
            exact g_iret X B ⟨rfl, hR6, z4, fun p hp => (oq5 p (by omega))⟩ hL d_Model_suffix_39 (by omega) (by omega)
        · omega

set_option maxHeartbeats 4000000 in
set_option maxRecDepth 100000 in
/-- suffix: how much -/
theorem c_Model_suffix1 (l : Launch) (D : va_G) (q : Nat → ClassId) (H : Heap) (d : Nat) (w : Nat → Int32) (ar : Nat → Nat → Int32) (hR : dR D q H d w ar) (xs : List Nat) (us : List (List Nat)) (ed : Nat) (hP : pP w ar xs us ed) (sti : Nat → Nat) (hst : sfP xs xs.length xs.length sti) (k : Nat) (hk : k < xs.length) : gC l y_Model_suffix (Cond.code y_Model_suffix b_Model_suffix 6 (some .int) :: gWS) (gR 2 50 0 0) D CL (gY q) (fun _ => True) [.ref d, .int (nI k), .int (nI 1)] H (fun v1 H1 => v1 = some (.int (nI (if k = 0 then 0 else t_lcp (xs.drop (sti k)) (xs.drop (sti (k - 1)))))) ∧ dR D q H1 d (upd w 0 (nI 0)) ar ∧ H1.size = H.size ∧ ∀ p : Nat, (p < d ∨ d + 28 < p) → H1[p]? = H[p]?) 0 0 (fun p => d ≤ p ∧ p ≤ d + 28) := by
  refine gC.ofW R_Model "suffix" (by decide) rfl rfl ?_
  intro p e s m below meth c hadm X hE hH B hne
  refine g_entry [some (.ref d), some (.int (nI k)), some (.int (nI 1)), none, none, none] rfl rfl (Nat.le_of_ble_eq_true rfl) (fun ls hl => ?_)
  have hP0 := hP
  obtain ⟨hp1, hp2, hp3, hp4, hp5, hp6, hp7, hp8⟩ := hP
  have hp9 := hp8.1
  have hP := hP0
  refine lv_aload_n X.1.1 X.1.2.1 d_Model_suffix_0 rfl (gl_at hl rfl) ?_
  refine lv_iconst (v := nI 0) X.1.1 X.1.2.1 d_Model_suffix_1 (by decide) ?_
  have mo1 : va_at D CL (d, .inr (10, [.int (w 0), .ref (d + 1), .int (w 2), .ref (d + 2), .ref (d + 3), .ref (d + 4), .ref (d + 5), .ref (d + 6), .int (w 8), .ref (d + 7), .ref (d + 8), .ref (d + 9), .ref (d + 10), .ref (d + 11), .ref (d + 12), .ref (d + 13), .ref (d + 14), .ref (d + 15), .ref (d + 16), .ref (d + 17), .int (w 20), .ref (d + 18), .int (w 22), .ref (d + 19), .ref (d + 20), .ref (d + 21), .int (w 26), .int (w 27), .int (w 28), .ref (d + 22), .ref (d + 23), .ref (d + 24), .ref (d + 25), .ref (d + 26), .int (w 34), .ref (d + 27), .ref (d + 28), .int (w 37), .int (w 38)])) H := hR.1
  refine g_put (A := (fun p => d ≤ p ∧ p ≤ d + 28)) X kc_Model mo1 0 (by decide) lk_Model_99 rfl rfl rfl (Nat.le_of_ble_eq_true rfl) d_Model_suffix_2 ⟨by omega, by omega⟩ (fun _ h => by cases h) (fun H2 locs h3 z4 oq5 hL => ?_)
  have hR6 : dR D q H2 d (upd w 0 (nI 0)) ar := hR.putO h3 oq5
  refine lv_iload_n X.1.1 X.1.2.1 d_Model_suffix_5 rfl (gl_at hl rfl) ?_
  refine lv_if_lt X.1.1 X.1.2.1 d_Model_suffix_6 rfl (fun hc6 => ?_) (fun hc6 => ?_)
  · exact absurd hc6 (nI_nneg (by omega))
  · refine lv_iload_n X.1.1 X.1.2.1 d_Model_suffix_9 rfl (gl_at hl rfl) ?_
    refine lv_aload_n X.1.1 X.1.2.1 d_Model_suffix_10 rfl (gl_at hl rfl) ?_
    have mo7 : va_at D CL (d, .inr (10, [.int (nI 0), .ref (d + 1), .int (w 2), .ref (d + 2), .ref (d + 3), .ref (d + 4), .ref (d + 5), .ref (d + 6), .int (w 8), .ref (d + 7), .ref (d + 8), .ref (d + 9), .ref (d + 10), .ref (d + 11), .ref (d + 12), .ref (d + 13), .ref (d + 14), .ref (d + 15), .ref (d + 16), .ref (d + 17), .int (w 20), .ref (d + 18), .int (w 22), .ref (d + 19), .ref (d + 20), .ref (d + 21), .int (w 26), .int (w 27), .int (w 28), .ref (d + 22), .ref (d + 23), .ref (d + 24), .ref (d + 25), .ref (d + 26), .int (w 34), .ref (d + 27), .ref (d + 28), .int (w 37), .int (w 38)])) H2 := hR6.1
    refine g_get X kc_Model mo7 34 (by decide) lk_Model_232 rfl d_Model_suffix_11 ?_
    refine g_top (nI xs.length) hp1 ?_
    refine gn_ge X.1.1 X.1.2.1 k xs.length (by omega) (by omega) d_Model_suffix_14 rfl (fun hc14 => ?_) (fun hc14 => ?_)
    · omega
    · refine lv_iload_n X.1.1 X.1.2.1 d_Model_suffix_17 rfl (gl_at hl rfl) ?_
      refine lv_if_lt X.1.1 X.1.2.1 d_Model_suffix_18 rfl (fun hc18 => ?_) (fun hc18 => ?_)
      · exact absurd hc18 (nI_nneg (by omega))
      · refine lv_iload_n X.1.1 X.1.2.1 d_Model_suffix_21 rfl (gl_at hl rfl) ?_
        refine lv_iconst (v := nI 1) X.1.1 X.1.2.1 d_Model_suffix_22 (by decide) ?_
        refine gn_le X.1.1 X.1.2.1 1 1 (by omega) (by omega) d_Model_suffix_23 rfl (fun hc23 => ?_) (fun hc23 => ?_)
        · refine lv_aload_n X.1.1 X.1.2.1 d_Model_suffix_28 rfl (gl_at hl rfl) ?_
          refine lv_iload_n X.1.1 X.1.2.1 d_Model_suffix_29 rfl (gl_at hl rfl) ?_
          refine g_cv (A := (fun p => d ≤ p ∧ p ≤ d + 28)) X gWS_good mw_Model_240 kc_Model mo7 (c_Model_begin l D q H2 d (upd w 0 (nI 0)) ar hR6 xs us ed hP sti hst k (by omega)) (fun _ _ _ => trivial) gBlind.tt rfl rfl hl.1 (Nat.le_of_ble_eq_true rfl) rfl rfl ⟨by decide, by decide⟩ ⟨by decide, by decide⟩ d_Model_suffix_30 (fun _ h => h.elim) hL (fun v8 H9 locs hp10 hL => ?_)
          obtain ⟨rfl, hHe⟩ := hp10
          rw [hHe]
          refine g_istn X.1.1 X.1.2.1 hl 3 d_Model_suffix_33 rfl (Nat.le_of_ble_eq_true rfl) rfl (fun ls hl => ?_)
          refine lv_iload_n X.1.1 X.1.2.1 d_Model_suffix_34 rfl (gl_at hl rfl) ?_
          refine gn_ne0 X.1.1 X.1.2.1 1 (by omega) d_Model_suffix_35 rfl (fun hc35 => ?_) (fun hc35 => ?_)
          · refine lv_iload_n X.1.1 X.1.2.1 d_Model_suffix_40 rfl (gl_at hl rfl) ?_
            refine gn_ne0 X.1.1 X.1.2.1 k (by omega) d_Model_suffix_41 rfl (fun hc41 => ?_) (fun hc41 => ?_)
            · have hs1 := (hst.1 k hk).2
              have hs2 := (hst.1 (k - 1) (by omega)).2
              refine lv_aload_n X.1.1 X.1.2.1 d_Model_suffix_46 rfl (gl_at hl rfl) ?_
              refine lv_iload_n X.1.1 X.1.2.1 d_Model_suffix_47 rfl (gl_at hl rfl) ?_
              refine lv_iconst (v := nI 1) X.1.1 X.1.2.1 d_Model_suffix_48 (by decide) ?_
              refine lv_isub X.1.1 X.1.2.1 d_Model_suffix_49 ?_
              refine g_top (nI (k - 1)) (pk_sub (by omega)) ?_
              refine g_cv (A := (fun p => d ≤ p ∧ p ≤ d + 28)) X gWS_good mw_Model_240 kc_Model mo7 (c_Model_begin l D q H2 d (upd w 0 (nI 0)) ar hR6 xs us ed hP sti hst (k - 1) (by omega)) (fun _ _ _ => trivial) gBlind.tt rfl rfl hl.1 (Nat.le_of_ble_eq_true rfl) rfl rfl ⟨by decide, by decide⟩ ⟨by decide, by decide⟩ d_Model_suffix_50 (fun _ h => h.elim) hL (fun v11 H12 locs hp13 hL => ?_)
              obtain ⟨rfl, hHe⟩ := hp13
              rw [hHe]
              refine g_ist X.1.1 X.1.2.1 hl 4 d_Model_suffix_53 (Nat.le_of_ble_eq_true rfl) rfl (fun ls hl => ?_)
              refine lv_iconst (v := nI 0) X.1.1 X.1.2.1 d_Model_suffix_55 (by decide) ?_
              refine g_ist X.1.1 X.1.2.1 hl 5 d_Model_suffix_56 (Nat.le_of_ble_eq_true rfl) rfl (fun ls hl => ?_)
              have loop58 : ∀ (fu : Nat) (t : Nat) (ls : Array Slot), xs.length - t < fu → (sti k + t ≤ xs.length) → (sti (k - 1) + t ≤ xs.length) → (∀ j, j < t → xs.getD (sti k + j) 0 = xs.getD (sti (k - 1) + j) 0) →  gl ls [some (.ref d), some (.int (nI k)), some (.int (nI 1)), some (.int (nI (sti k))), some (.int (nI (sti (k - 1)))), some (.int (nI t))] → W p l e (gR 2 50 0 0) s m ([.ref d, .int (nI k), .int (nI 1)] : List Value).toArray below meth c H2 locs 0 0 (gQ below ([.ref d, .int (nI k), .int (nI 1)] : List Value).toArray s (fun v1 H1 => v1 = some (.int (nI (if k = 0 then 0 else t_lcp (xs.drop (sti k)) (xs.drop (sti (k - 1)))))) ∧ dR D q H1 d (upd w 0 (nI 0)) ar ∧ H1.size = H.size ∧ ∀ p : Nat, (p < d ∨ d + 28 < p) → H1[p]? = H[p]?) 0 0 (fun p => d ≤ p ∧ p ≤ d + 28)) (F0 m 58 ls []) := by
                intro fu
                induction fu with
                | zero => intro t ls hmu; omega
                | succ fu ih58 =>
                  intro t ls hmu58 hi58_0 hi58_1 hi58_2 hl
                  refine lv_iload_n X.1.1 X.1.2.1 d_Model_suffix_58 rfl (gl_at hl rfl) ?_
                  refine lv_iload X.1.1 X.1.2.1 d_Model_suffix_59 (gl_at hl rfl) ?_
                  refine lv_iadd X.1.1 X.1.2.1 d_Model_suffix_61 ?_
                  refine g_top (nI ((sti k) + t)) (nI_add _ _) ?_
                  refine lv_aload_n X.1.1 X.1.2.1 d_Model_suffix_62 rfl (gl_at hl rfl) ?_
                  refine g_get X kc_Model mo7 34 (by decide) lk_Model_232 rfl d_Model_suffix_63 ?_
                  refine g_top (nI xs.length) hp1 ?_
                  refine gn_ge X.1.1 X.1.2.1 ((sti k) + t) xs.length (by omega) (by omega) d_Model_suffix_66 rfl (fun hc66 => ?_) (fun hc66 => ?_)
                  · refine lv_iload X.1.1 X.1.2.1 d_Model_suffix_109 (gl_at hl rfl) ?_
                    exact g_iret X B ⟨by rw [if_neg (by omega), t_lcp_dr (by omega) (by omega) hi58_2 (by first | exact Or.inl (by omega) | exact Or.inr (Or.inl (by omega)) | exact Or.inr (Or.inr hc100))], hR6, z4, fun p hp => (oq5 p (by omega))⟩ hL d_Model_suffix_111 (by omega) (by omega)
                  · refine lv_iload X.1.1 X.1.2.1 d_Model_suffix_69 (gl_at hl rfl) ?_
                    refine lv_iload X.1.1 X.1.2.1 d_Model_suffix_71 (gl_at hl rfl) ?_
                    refine lv_iadd X.1.1 X.1.2.1 d_Model_suffix_73 ?_
                    refine g_top (nI ((sti (k - 1)) + t)) (nI_add _ _) ?_
                    refine lv_aload_n X.1.1 X.1.2.1 d_Model_suffix_74 rfl (gl_at hl rfl) ?_
                    refine g_get X kc_Model mo7 34 (by decide) lk_Model_232 rfl d_Model_suffix_75 ?_
                    refine g_top (nI xs.length) hp1 ?_
                    refine gn_ge X.1.1 X.1.2.1 ((sti (k - 1)) + t) xs.length (by omega) (by omega) d_Model_suffix_78 rfl (fun hc78 => ?_) (fun hc78 => ?_)
                    · refine lv_iload X.1.1 X.1.2.1 d_Model_suffix_109 (gl_at hl rfl) ?_
                      exact g_iret X B ⟨by rw [if_neg (by omega), t_lcp_dr (by omega) (by omega) hi58_2 (by first | exact Or.inl (by omega) | exact Or.inr (Or.inl (by omega)) | exact Or.inr (Or.inr hc100))], hR6, z4, fun p hp => (oq5 p (by omega))⟩ hL d_Model_suffix_111 (by omega) (by omega)
                    · refine lv_aload_n X.1.1 X.1.2.1 d_Model_suffix_81 rfl (gl_at hl rfl) ?_
                      refine g_get X kc_Model mo7 33 (by decide) lk_Model_90 rfl d_Model_suffix_82 ?_
                      refine lv_iload_n X.1.1 X.1.2.1 d_Model_suffix_85 rfl (gl_at hl rfl) ?_
                      refine lv_iload X.1.1 X.1.2.1 d_Model_suffix_86 (gl_at hl rfl) ?_
                      refine lv_iadd X.1.1 X.1.2.1 d_Model_suffix_88 ?_
                      refine g_top (nI ((sti k) + t)) (nI_add _ _) ?_
                      have ma14 : va_at D CL (d + 26, .inl (q 0, 120, .inl (ar 26))) H2 := hR6.a26
                      refine g_iald X 0 ma14 rfl ((sti k) + t) (by omega) (by omega) d_Model_suffix_89 ?_
                      have e1 := t_lt hp4 (sti k + t)
                      refine g_top (nI (xs.getD (sti k + t) 0)) ((congrArg (ar 26) (by omega)).trans (hp2 (sti k + t) (by omega))) ?_
                      refine lv_aload_n X.1.1 X.1.2.1 d_Model_suffix_90 rfl (gl_at hl rfl) ?_
                      refine g_get X kc_Model mo7 33 (by decide) lk_Model_90 rfl d_Model_suffix_91 ?_
                      refine lv_iload X.1.1 X.1.2.1 d_Model_suffix_94 (gl_at hl rfl) ?_
                      refine lv_iload X.1.1 X.1.2.1 d_Model_suffix_96 (gl_at hl rfl) ?_
                      refine lv_iadd X.1.1 X.1.2.1 d_Model_suffix_98 ?_
                      refine g_top (nI ((sti (k - 1)) + t)) (nI_add _ _) ?_
                      refine g_iald X 0 ma14 rfl ((sti (k - 1)) + t) (by omega) (by omega) d_Model_suffix_99 ?_
                      have e2 := t_lt hp4 (sti (k - 1) + t)
                      refine g_top (nI (xs.getD (sti (k - 1) + t) 0)) ((congrArg (ar 26) (by omega)).trans (hp2 (sti (k - 1) + t) (by omega))) ?_
                      refine gn_ne X.1.1 X.1.2.1 (xs.getD (sti k + t) 0) (xs.getD (sti (k - 1) + t) 0) (by omega) (by omega) d_Model_suffix_100 rfl (fun hc100 => ?_) (fun hc100 => ?_)
                      · refine lv_iload X.1.1 X.1.2.1 d_Model_suffix_109 (gl_at hl rfl) ?_
                        exact g_iret X B ⟨by rw [if_neg (by omega), t_lcp_dr (by omega) (by omega) hi58_2 (by first | exact Or.inl (by omega) | exact Or.inr (Or.inl (by omega)) | exact Or.inr (Or.inr hc100))], hR6, z4, fun p hp => (oq5 p (by omega))⟩ hL d_Model_suffix_111 (by omega) (by omega)
                      · refine g_iinc X.1.1 X.1.2.1 (nI (t + 1)) hl 5 d_Model_suffix_103 rfl (nI_1 _) rfl (fun ls hl => ?_)
                        refine lv_goto X.1.1 X.1.2.1 d_Model_suffix_106 rfl ?_
                        exact ih58 (t + 1) ls (by omega) (by omega) (by omega) (lt_s hi58_2 hc100) hl
              exact loop58 _ 0 ls (Nat.lt_succ_self _) (by omega) (by omega) (fun j hj => absurd hj (Nat.not_lt_zero j)) hl
            · refine lv_iconst (v := nI 0) X.1.1 X.1.2.1 d_Model_suffix_44 (by decide) ?_
              exact g_iret X B ⟨by rw [if_pos (by omega)], hR6, z4, fun p hp => (oq5 p (by omega))⟩ hL d_Model_suffix_45 (by omega) (by omega)
          · omega
        · omega

set_option maxHeartbeats 4000000 in
set_option maxRecDepth 100000 in
/-- locate: no such question -/
theorem c_Model_locateN (l : Launch) (D : va_G) (q : Nat → ClassId) (H : Heap) (d : Nat) (w : Nat → Int32) (ar : Nat → Nat → Int32) (hR : dR D q H d w ar) (x : Int32) (hbad : x ≠ 0 ∧ x ≠ nI 1) : gC l y_Model_locate (Cond.code y_Model_locate b_Model_locate 5 (some .int) :: gWS) (gR 2 51 0 0) D CL (gY q) (fun _ => True) [.ref d, .int x] H (fun v1 H1 => v1 = some (.int (-1)) ∧ dR D q H1 d (upd w 0 (nI 0)) ar ∧ H1.size = H.size ∧ ∀ p : Nat, (p < d ∨ d + 28 < p) → H1[p]? = H[p]?) 0 0 (fun p => d ≤ p ∧ p ≤ d + 28) := by
  refine gC.ofW R_Model "locate" (by decide) rfl rfl ?_
  intro p e s m below meth c hadm X hE hH B hne
  refine g_entry [some (.ref d), some (.int x), none, none, none] rfl rfl (Nat.le_of_ble_eq_true rfl) (fun ls hl => ?_)
  refine lv_aload_n X.1.1 X.1.2.1 d_Model_locate_0 rfl (gl_at hl rfl) ?_
  refine lv_iconst (v := nI 0) X.1.1 X.1.2.1 d_Model_locate_1 (by decide) ?_
  have mo1 : va_at D CL (d, .inr (10, [.int (w 0), .ref (d + 1), .int (w 2), .ref (d + 2), .ref (d + 3), .ref (d + 4), .ref (d + 5), .ref (d + 6), .int (w 8), .ref (d + 7), .ref (d + 8), .ref (d + 9), .ref (d + 10), .ref (d + 11), .ref (d + 12), .ref (d + 13), .ref (d + 14), .ref (d + 15), .ref (d + 16), .ref (d + 17), .int (w 20), .ref (d + 18), .int (w 22), .ref (d + 19), .ref (d + 20), .ref (d + 21), .int (w 26), .int (w 27), .int (w 28), .ref (d + 22), .ref (d + 23), .ref (d + 24), .ref (d + 25), .ref (d + 26), .int (w 34), .ref (d + 27), .ref (d + 28), .int (w 37), .int (w 38)])) H := hR.1
  refine g_put (A := (fun p => d ≤ p ∧ p ≤ d + 28)) X kc_Model mo1 0 (by decide) lk_Model_99 rfl rfl rfl (Nat.le_of_ble_eq_true rfl) d_Model_locate_2 ⟨by omega, by omega⟩ (fun _ h => by cases h) (fun H2 locs h3 z4 oq5 hL => ?_)
  have hR6 : dR D q H2 d (upd w 0 (nI 0)) ar := hR.putO h3 oq5
  refine lv_iload_n X.1.1 X.1.2.1 d_Model_locate_5 rfl (gl_at hl rfl) ?_
  refine lv_if_eq X.1.1 X.1.2.1 d_Model_locate_6 rfl (fun hc6 => ?_) (fun hc6 => ?_)
  · exact absurd hc6 hbad.1
  · refine lv_iload_n X.1.1 X.1.2.1 d_Model_locate_9 rfl (gl_at hl rfl) ?_
    refine lv_iconst (v := nI 1) X.1.1 X.1.2.1 d_Model_locate_10 (by decide) ?_
    refine lv_icmp_eq X.1.1 X.1.2.1 d_Model_locate_11 rfl (fun hc11 => ?_) (fun hc11 => ?_)
    · exact absurd hc11 hbad.2
    · refine lv_iconst (v := (-1)) X.1.1 X.1.2.1 d_Model_locate_14 (by decide) ?_
      exact g_iret X B ⟨rfl, hR6, z4, fun p hp => (oq5 p (by omega))⟩ hL d_Model_locate_15 (by omega) (by omega)

set_option maxHeartbeats 4000000 in
set_option maxRecDepth 100000 in
/-- locate: how often -/
theorem c_Model_locate0 (l : Launch) (D : va_G) (q : Nat → ClassId) (H : Heap) (d : Nat) (w : Nat → Int32) (ar : Nat → Nat → Int32) (hR : dR D q H d w ar) (xs : List Nat) (us : List (List Nat)) (ed : Nat) (hP : pP w ar xs us ed) (tp : List Nat) (ht : pT w ar tp) : gC l y_Model_locate (Cond.code y_Model_locate b_Model_locate 5 (some .int) :: gWS) (gR 2 51 0 0) D CL (gY q) (fun _ => True) [.ref d, .int (nI 0)] H (fun v1 H1 => v1 = some (.int (nI (v_cnt (fun p => decide (t_at xs tp p)) 0 xs.length))) ∧ dR D q H1 d (upd (upd w 0 (nI 0)) 2 (nI 0)) ar ∧ H1.size = H.size ∧ ∀ p : Nat, (p < d ∨ d + 28 < p) → H1[p]? = H[p]?) 0 0 (fun p => d ≤ p ∧ p ≤ d + 28) := by
  refine gC.ofW R_Model "locate" (by decide) rfl rfl ?_
  intro p e s m below meth c hadm X hE hH B hne
  refine g_entry [some (.ref d), some (.int (nI 0)), none, none, none] rfl rfl (Nat.le_of_ble_eq_true rfl) (fun ls hl => ?_)
  have hP0 := hP
  obtain ⟨hp1, hp2, hp3, hp4, hp5, hp6, hp7, hp8⟩ := hP
  have hp9 := hp8.1
  have hP := hP0
  have ht8 := ht.2.2.1
  refine lv_aload_n X.1.1 X.1.2.1 d_Model_locate_0 rfl (gl_at hl rfl) ?_
  refine lv_iconst (v := nI 0) X.1.1 X.1.2.1 d_Model_locate_1 (by decide) ?_
  have mo1 : va_at D CL (d, .inr (10, [.int (w 0), .ref (d + 1), .int (w 2), .ref (d + 2), .ref (d + 3), .ref (d + 4), .ref (d + 5), .ref (d + 6), .int (w 8), .ref (d + 7), .ref (d + 8), .ref (d + 9), .ref (d + 10), .ref (d + 11), .ref (d + 12), .ref (d + 13), .ref (d + 14), .ref (d + 15), .ref (d + 16), .ref (d + 17), .int (w 20), .ref (d + 18), .int (w 22), .ref (d + 19), .ref (d + 20), .ref (d + 21), .int (w 26), .int (w 27), .int (w 28), .ref (d + 22), .ref (d + 23), .ref (d + 24), .ref (d + 25), .ref (d + 26), .int (w 34), .ref (d + 27), .ref (d + 28), .int (w 37), .int (w 38)])) H := hR.1
  refine g_put (A := (fun p => d ≤ p ∧ p ≤ d + 28)) X kc_Model mo1 0 (by decide) lk_Model_99 rfl rfl rfl (Nat.le_of_ble_eq_true rfl) d_Model_locate_2 ⟨by omega, by omega⟩ (fun _ h => by cases h) (fun H2 locs h3 z4 oq5 hL => ?_)
  have hR6 : dR D q H2 d (upd w 0 (nI 0)) ar := hR.putO h3 oq5
  refine lv_iload_n X.1.1 X.1.2.1 d_Model_locate_5 rfl (gl_at hl rfl) ?_
  refine gn_eq0 X.1.1 X.1.2.1 0 (by omega) d_Model_locate_6 rfl (fun hc6 => ?_) (fun hc6 => ?_)
  · refine lv_aload_n X.1.1 X.1.2.1 d_Model_locate_16 rfl (gl_at hl rfl) ?_
    have mo7 : va_at D CL (d, .inr (10, [.int (nI 0), .ref (d + 1), .int (w 2), .ref (d + 2), .ref (d + 3), .ref (d + 4), .ref (d + 5), .ref (d + 6), .int (w 8), .ref (d + 7), .ref (d + 8), .ref (d + 9), .ref (d + 10), .ref (d + 11), .ref (d + 12), .ref (d + 13), .ref (d + 14), .ref (d + 15), .ref (d + 16), .ref (d + 17), .int (w 20), .ref (d + 18), .int (w 22), .ref (d + 19), .ref (d + 20), .ref (d + 21), .int (w 26), .int (w 27), .int (w 28), .ref (d + 22), .ref (d + 23), .ref (d + 24), .ref (d + 25), .ref (d + 26), .int (w 34), .ref (d + 27), .ref (d + 28), .int (w 37), .int (w 38)])) H2 := hR6.1
    refine g_get X kc_Model mo7 2 (by decide) lk_Model_102 rfl d_Model_locate_17 ?_
    refine g_top (nI tp.length) ht.1 ?_
    refine g_istn X.1.1 X.1.2.1 hl 2 d_Model_locate_20 rfl (Nat.le_of_ble_eq_true rfl) rfl (fun ls hl => ?_)
    refine lv_aload_n X.1.1 X.1.2.1 d_Model_locate_21 rfl (gl_at hl rfl) ?_
    refine lv_iconst (v := nI 0) X.1.1 X.1.2.1 d_Model_locate_22 (by decide) ?_
    refine g_put (A := (fun p => d ≤ p ∧ p ≤ d + 28)) X kc_Model mo7 2 (by decide) lk_Model_102 rfl rfl rfl (Nat.le_of_ble_eq_true rfl) d_Model_locate_23 ⟨by omega, by omega⟩ hL (fun H8 locs h9 z10 oq11 hL => ?_)
    have hR12 : dR D q H8 d (upd (upd w 0 (nI 0)) 2 (nI 0)) ar := hR6.putO h9 oq11
    refine lv_iconst (v := nI 0) X.1.1 X.1.2.1 d_Model_locate_26 (by decide) ?_
    refine g_istn X.1.1 X.1.2.1 hl 3 d_Model_locate_27 rfl (Nat.le_of_ble_eq_true rfl) rfl (fun ls hl => ?_)
    refine lv_iconst (v := nI 0) X.1.1 X.1.2.1 d_Model_locate_28 (by decide) ?_
    refine g_ist X.1.1 X.1.2.1 hl 4 d_Model_locate_29 (Nat.le_of_ble_eq_true rfl) rfl (fun ls hl => ?_)
    have loop31 : ∀ (fu : Nat) (j : Nat) (z0 : Nat) (locs : List Loc) (ls : Array Slot), xs.length - j < fu → (j ≤ xs.length) → (z0 = v_cnt (fun p => decide (t_at xs tp p)) 0 j) → (∀ x ∈ locs, (fun p => d ≤ p ∧ p ≤ d + 28) x.base) → gl ls [some (.ref d), some (.int (nI 0)), some (.int (nI tp.length)), some (.int (nI z0)), some (.int (nI j))] → W p l e (gR 2 51 0 0) s m ([.ref d, .int (nI 0)] : List Value).toArray below meth c H8 locs 0 0 (gQ below ([.ref d, .int (nI 0)] : List Value).toArray s (fun v1 H1 => v1 = some (.int (nI (v_cnt (fun p => decide (t_at xs tp p)) 0 xs.length))) ∧ dR D q H1 d (upd (upd w 0 (nI 0)) 2 (nI 0)) ar ∧ H1.size = H.size ∧ ∀ p : Nat, (p < d ∨ d + 28 < p) → H1[p]? = H[p]?) 0 0 (fun p => d ≤ p ∧ p ≤ d + 28)) (F0 m 31 ls []) := by
      intro fu
      induction fu with
      | zero => intro j z0 locs ls hmu; omega
      | succ fu ih31 =>
        intro j z0 locs ls hmu31 hi31_0 hi31_1 hL hl
        have hz9 := v_cnt_le (fun p => decide (t_at xs tp p)) 0 j
        refine lv_iload X.1.1 X.1.2.1 d_Model_locate_31 (gl_at hl rfl) ?_
        refine lv_aload_n X.1.1 X.1.2.1 d_Model_locate_33 rfl (gl_at hl rfl) ?_
        have mo13 : va_at D CL (d, .inr (10, [.int (nI 0), .ref (d + 1), .int (nI 0), .ref (d + 2), .ref (d + 3), .ref (d + 4), .ref (d + 5), .ref (d + 6), .int (w 8), .ref (d + 7), .ref (d + 8), .ref (d + 9), .ref (d + 10), .ref (d + 11), .ref (d + 12), .ref (d + 13), .ref (d + 14), .ref (d + 15), .ref (d + 16), .ref (d + 17), .int (w 20), .ref (d + 18), .int (w 22), .ref (d + 19), .ref (d + 20), .ref (d + 21), .int (w 26), .int (w 27), .int (w 28), .ref (d + 22), .ref (d + 23), .ref (d + 24), .ref (d + 25), .ref (d + 26), .int (w 34), .ref (d + 27), .ref (d + 28), .int (w 37), .int (w 38)])) H8 := hR12.1
        refine g_get X kc_Model mo13 34 (by decide) lk_Model_232 rfl d_Model_locate_34 ?_
        refine g_top (nI xs.length) hp1 ?_
        refine gn_ge X.1.1 X.1.2.1 j xs.length (by omega) (by omega) d_Model_locate_37 rfl (fun hc37 => ?_) (fun hc37 => ?_)
        · refine lv_iload_n X.1.1 X.1.2.1 d_Model_locate_79 rfl (gl_at hl rfl) ?_
          refine gn_ne0 X.1.1 X.1.2.1 0 (by omega) d_Model_locate_80 rfl (fun hc80 => ?_) (fun hc80 => ?_)
          · omega
          · refine lv_iload_n X.1.1 X.1.2.1 d_Model_locate_83 rfl (gl_at hl rfl) ?_
            exact g_iret X B ⟨by rw [hi31_1, show j = xs.length by omega], hR12, (z10.trans z4), fun p hp => ((oq11 p (by omega)).trans (oq5 p (by omega)))⟩ hL d_Model_locate_84 (by omega) (by omega)
        · refine lv_iload_n X.1.1 X.1.2.1 d_Model_locate_40 rfl (gl_at hl rfl) ?_
          refine lv_aload_n X.1.1 X.1.2.1 d_Model_locate_41 rfl (gl_at hl rfl) ?_
          refine g_get X kc_Model mo13 33 (by decide) lk_Model_90 rfl d_Model_locate_42 ?_
          refine lv_iload X.1.1 X.1.2.1 d_Model_locate_45 (gl_at hl rfl) ?_
          refine lv_aload_n X.1.1 X.1.2.1 d_Model_locate_47 rfl (gl_at hl rfl) ?_
          refine g_get X kc_Model mo13 34 (by decide) lk_Model_232 rfl d_Model_locate_48 ?_
          refine g_top (nI xs.length) hp1 ?_
          refine lv_iload X.1.1 X.1.2.1 d_Model_locate_51 (gl_at hl rfl) ?_
          refine lv_isub X.1.1 X.1.2.1 d_Model_locate_53 ?_
          refine g_top (nI (xs.length - j)) (pk_sub (by omega)) ?_
          refine lv_aload_n X.1.1 X.1.2.1 d_Model_locate_54 rfl (gl_at hl rfl) ?_
          refine g_get X kc_Model mo13 1 (by decide) lk_Model_7 rfl d_Model_locate_55 ?_
          refine lv_iconst (v := nI 0) X.1.1 X.1.2.1 d_Model_locate_58 (by decide) ?_
          refine lv_iload_n X.1.1 X.1.2.1 d_Model_locate_59 rfl (gl_at hl rfl) ?_
          refine g_cs (A := (fun p => d ≤ p ∧ p ≤ d + 28)) X gWS_good mw_Model_110 (c_Model_begins l D q H8 (d + 26) 120 (d + 1) 8 (ar 26) (ar 1) hR12.a26 hR12.a1 j 0 (xs.length - j) tp.length (xs.drop j) tp (by rw [List.length_drop]) rfl (tXo_drop hp2 _) ht.2.1 (by rw [List.length_drop]; omega) (by omega) (by omega) (by omega) (t16_drop hp4 _) ht.2.2.2) (fun _ _ _ => trivial) gBlind.tt rfl rfl hl.1 (Nat.le_of_ble_eq_true rfl) rfl rfl ⟨by decide, by decide⟩ ⟨by decide, by decide⟩ d_Model_locate_60 (fun _ h => h.elim) hL (fun v14 H15 locs hp16 hL => ?_)
          obtain ⟨rfl, hHe⟩ := hp16
          rw [hHe]
          refine lv_if_eq X.1.1 X.1.2.1 d_Model_locate_63 rfl (fun hc63 => ?_) (fun hc63 => ?_)
          · replace hc63 := gz_f hc63
            refine lv_iconst (v := nI 0) X.1.1 X.1.2.1 d_Model_locate_70 (by decide) ?_
            refine lv_iadd X.1.1 X.1.2.1 d_Model_locate_71 ?_
            refine g_top (nI (z0 + 0)) (nI_add _ _) ?_
            refine g_istn X.1.1 X.1.2.1 hl 3 d_Model_locate_72 rfl (Nat.le_of_ble_eq_true rfl) rfl (fun ls hl => ?_)
            refine g_iinc X.1.1 X.1.2.1 (nI (j + 1)) hl 4 d_Model_locate_73 rfl (nI_1 _) rfl (fun ls hl => ?_)
            refine lv_goto X.1.1 X.1.2.1 d_Model_locate_76 rfl ?_
            exact ih31 (j + 1) (z0 + 0) locs ls (by omega) (by omega) (by
              show _ = v_cnt _ _ j + _
              rw [Nat.zero_add]
              first
              | rw [if_pos (decide_eq_true hc63), ← hi31_1]
              | rw [if_neg (fun h9 => hc63 (of_decide_eq_true h9)), ← hi31_1]) hL hl
          · replace hc63 := gz_t hc63
            refine lv_iconst (v := nI 1) X.1.1 X.1.2.1 d_Model_locate_66 (by decide) ?_
            refine lv_goto X.1.1 X.1.2.1 d_Model_locate_67 rfl ?_
            refine lv_iadd X.1.1 X.1.2.1 d_Model_locate_71 ?_
            refine g_top (nI (z0 + 1)) (nI_add _ _) ?_
            refine g_istn X.1.1 X.1.2.1 hl 3 d_Model_locate_72 rfl (Nat.le_of_ble_eq_true rfl) rfl (fun ls hl => ?_)
            refine g_iinc X.1.1 X.1.2.1 (nI (j + 1)) hl 4 d_Model_locate_73 rfl (nI_1 _) rfl (fun ls hl => ?_)
            refine lv_goto X.1.1 X.1.2.1 d_Model_locate_76 rfl ?_
            exact ih31 (j + 1) (z0 + 1) locs ls (by omega) (by omega) (by
              show _ = v_cnt _ _ j + _
              rw [Nat.zero_add]
              first
              | rw [if_pos (decide_eq_true hc63), ← hi31_1]
              | rw [if_neg (fun h9 => hc63 (of_decide_eq_true h9)), ← hi31_1]) hL hl
    exact loop31 _ 0 0 locs ls (Nat.lt_succ_self _) (Nat.zero_le _) rfl hL hl
  · omega

set_option maxHeartbeats 4000000 in
set_option maxRecDepth 100000 in
/-- locate: the first -/
theorem c_Model_locate1 (l : Launch) (D : va_G) (q : Nat → ClassId) (H : Heap) (d : Nat) (w : Nat → Int32) (ar : Nat → Nat → Int32) (hR : dR D q H d w ar) (xs : List Nat) (us : List (List Nat)) (ed : Nat) (hP : pP w ar xs us ed) (sti : Nat → Nat) (hst : sfP xs xs.length xs.length sti) (tp : List Nat) (ht : pT w ar tp) : gC l y_Model_locate (Cond.code y_Model_locate b_Model_locate 5 (some .int) :: gWS) (gR 2 51 0 0) D CL (gY q) (fun _ => True) [.ref d, .int (nI 1)] H (fun v1 H1 => (∃ o : Option Nat, v1 = some (.int (gm1 o)) ∧ (match o with | none => ∀ j, j < xs.length → ¬ t_at xs tp (sti j) | some k => k < xs.length ∧ t_at xs tp (sti k) ∧ ∀ j, j < k → ¬ t_at xs tp (sti j))) ∧ dR D q H1 d (upd (upd w 0 (nI 0)) 2 (nI 0)) ar ∧ H1.size = H.size ∧ ∀ p : Nat, (p < d ∨ d + 28 < p) → H1[p]? = H[p]?) 0 0 (fun p => d ≤ p ∧ p ≤ d + 28) := by
  refine gC.ofW R_Model "locate" (by decide) rfl rfl ?_
  intro p e s m below meth c hadm X hE hH B hne
  refine g_entry [some (.ref d), some (.int (nI 1)), none, none, none] rfl rfl (Nat.le_of_ble_eq_true rfl) (fun ls hl => ?_)
  have hP0 := hP
  obtain ⟨hp1, hp2, hp3, hp4, hp5, hp6, hp7, hp8⟩ := hP
  have hp9 := hp8.1
  have hP := hP0
  have ht8 := ht.2.2.1
  refine lv_aload_n X.1.1 X.1.2.1 d_Model_locate_0 rfl (gl_at hl rfl) ?_
  refine lv_iconst (v := nI 0) X.1.1 X.1.2.1 d_Model_locate_1 (by decide) ?_
  have mo1 : va_at D CL (d, .inr (10, [.int (w 0), .ref (d + 1), .int (w 2), .ref (d + 2), .ref (d + 3), .ref (d + 4), .ref (d + 5), .ref (d + 6), .int (w 8), .ref (d + 7), .ref (d + 8), .ref (d + 9), .ref (d + 10), .ref (d + 11), .ref (d + 12), .ref (d + 13), .ref (d + 14), .ref (d + 15), .ref (d + 16), .ref (d + 17), .int (w 20), .ref (d + 18), .int (w 22), .ref (d + 19), .ref (d + 20), .ref (d + 21), .int (w 26), .int (w 27), .int (w 28), .ref (d + 22), .ref (d + 23), .ref (d + 24), .ref (d + 25), .ref (d + 26), .int (w 34), .ref (d + 27), .ref (d + 28), .int (w 37), .int (w 38)])) H := hR.1
  refine g_put (A := (fun p => d ≤ p ∧ p ≤ d + 28)) X kc_Model mo1 0 (by decide) lk_Model_99 rfl rfl rfl (Nat.le_of_ble_eq_true rfl) d_Model_locate_2 ⟨by omega, by omega⟩ (fun _ h => by cases h) (fun H2 locs h3 z4 oq5 hL => ?_)
  have hR6 : dR D q H2 d (upd w 0 (nI 0)) ar := hR.putO h3 oq5
  refine lv_iload_n X.1.1 X.1.2.1 d_Model_locate_5 rfl (gl_at hl rfl) ?_
  refine gn_eq0 X.1.1 X.1.2.1 1 (by omega) d_Model_locate_6 rfl (fun hc6 => ?_) (fun hc6 => ?_)
  · omega
  · refine lv_iload_n X.1.1 X.1.2.1 d_Model_locate_9 rfl (gl_at hl rfl) ?_
    refine lv_iconst (v := nI 1) X.1.1 X.1.2.1 d_Model_locate_10 (by decide) ?_
    refine gn_eq X.1.1 X.1.2.1 1 1 (by omega) (by omega) d_Model_locate_11 rfl (fun hc11 => ?_) (fun hc11 => ?_)
    · refine lv_aload_n X.1.1 X.1.2.1 d_Model_locate_16 rfl (gl_at hl rfl) ?_
      have mo7 : va_at D CL (d, .inr (10, [.int (nI 0), .ref (d + 1), .int (w 2), .ref (d + 2), .ref (d + 3), .ref (d + 4), .ref (d + 5), .ref (d + 6), .int (w 8), .ref (d + 7), .ref (d + 8), .ref (d + 9), .ref (d + 10), .ref (d + 11), .ref (d + 12), .ref (d + 13), .ref (d + 14), .ref (d + 15), .ref (d + 16), .ref (d + 17), .int (w 20), .ref (d + 18), .int (w 22), .ref (d + 19), .ref (d + 20), .ref (d + 21), .int (w 26), .int (w 27), .int (w 28), .ref (d + 22), .ref (d + 23), .ref (d + 24), .ref (d + 25), .ref (d + 26), .int (w 34), .ref (d + 27), .ref (d + 28), .int (w 37), .int (w 38)])) H2 := hR6.1
      refine g_get X kc_Model mo7 2 (by decide) lk_Model_102 rfl d_Model_locate_17 ?_
      refine g_top (nI tp.length) ht.1 ?_
      refine g_istn X.1.1 X.1.2.1 hl 2 d_Model_locate_20 rfl (Nat.le_of_ble_eq_true rfl) rfl (fun ls hl => ?_)
      refine lv_aload_n X.1.1 X.1.2.1 d_Model_locate_21 rfl (gl_at hl rfl) ?_
      refine lv_iconst (v := nI 0) X.1.1 X.1.2.1 d_Model_locate_22 (by decide) ?_
      refine g_put (A := (fun p => d ≤ p ∧ p ≤ d + 28)) X kc_Model mo7 2 (by decide) lk_Model_102 rfl rfl rfl (Nat.le_of_ble_eq_true rfl) d_Model_locate_23 ⟨by omega, by omega⟩ hL (fun H8 locs h9 z10 oq11 hL => ?_)
      have hR12 : dR D q H8 d (upd (upd w 0 (nI 0)) 2 (nI 0)) ar := hR6.putO h9 oq11
      refine lv_iconst (v := nI 0) X.1.1 X.1.2.1 d_Model_locate_26 (by decide) ?_
      refine g_istn X.1.1 X.1.2.1 hl 3 d_Model_locate_27 rfl (Nat.le_of_ble_eq_true rfl) rfl (fun ls hl => ?_)
      refine lv_iconst (v := nI 0) X.1.1 X.1.2.1 d_Model_locate_28 (by decide) ?_
      refine g_ist X.1.1 X.1.2.1 hl 4 d_Model_locate_29 (Nat.le_of_ble_eq_true rfl) rfl (fun ls hl => ?_)
      have loop31 : ∀ (fu : Nat) (j : Nat) (z0 : Nat) (locs : List Loc) (ls : Array Slot), xs.length - j < fu → (j ≤ xs.length) → (z0 = v_cnt (fun p => decide (t_at xs tp p)) 0 j) → (∀ x ∈ locs, (fun p => d ≤ p ∧ p ≤ d + 28) x.base) → gl ls [some (.ref d), some (.int (nI 1)), some (.int (nI tp.length)), some (.int (nI z0)), some (.int (nI j))] → W p l e (gR 2 51 0 0) s m ([.ref d, .int (nI 1)] : List Value).toArray below meth c H8 locs 0 0 (gQ below ([.ref d, .int (nI 1)] : List Value).toArray s (fun v1 H1 => (∃ o : Option Nat, v1 = some (.int (gm1 o)) ∧ (match o with | none => ∀ j, j < xs.length → ¬ t_at xs tp (sti j) | some k => k < xs.length ∧ t_at xs tp (sti k) ∧ ∀ j, j < k → ¬ t_at xs tp (sti j))) ∧ dR D q H1 d (upd (upd w 0 (nI 0)) 2 (nI 0)) ar ∧ H1.size = H.size ∧ ∀ p : Nat, (p < d ∨ d + 28 < p) → H1[p]? = H[p]?) 0 0 (fun p => d ≤ p ∧ p ≤ d + 28)) (F0 m 31 ls []) := by
        intro fu
        induction fu with
        | zero => intro j z0 locs ls hmu; omega
        | succ fu ih31 =>
          intro j z0 locs ls hmu31 hi31_0 hi31_1 hL hl
          have hz9 := v_cnt_le (fun p => decide (t_at xs tp p)) 0 j
          refine lv_iload X.1.1 X.1.2.1 d_Model_locate_31 (gl_at hl rfl) ?_
          refine lv_aload_n X.1.1 X.1.2.1 d_Model_locate_33 rfl (gl_at hl rfl) ?_
          have mo13 : va_at D CL (d, .inr (10, [.int (nI 0), .ref (d + 1), .int (nI 0), .ref (d + 2), .ref (d + 3), .ref (d + 4), .ref (d + 5), .ref (d + 6), .int (w 8), .ref (d + 7), .ref (d + 8), .ref (d + 9), .ref (d + 10), .ref (d + 11), .ref (d + 12), .ref (d + 13), .ref (d + 14), .ref (d + 15), .ref (d + 16), .ref (d + 17), .int (w 20), .ref (d + 18), .int (w 22), .ref (d + 19), .ref (d + 20), .ref (d + 21), .int (w 26), .int (w 27), .int (w 28), .ref (d + 22), .ref (d + 23), .ref (d + 24), .ref (d + 25), .ref (d + 26), .int (w 34), .ref (d + 27), .ref (d + 28), .int (w 37), .int (w 38)])) H8 := hR12.1
          refine g_get X kc_Model mo13 34 (by decide) lk_Model_232 rfl d_Model_locate_34 ?_
          refine g_top (nI xs.length) hp1 ?_
          refine gn_ge X.1.1 X.1.2.1 j xs.length (by omega) (by omega) d_Model_locate_37 rfl (fun hc37 => ?_) (fun hc37 => ?_)
          · refine lv_iload_n X.1.1 X.1.2.1 d_Model_locate_79 rfl (gl_at hl rfl) ?_
            refine gn_ne0 X.1.1 X.1.2.1 1 (by omega) d_Model_locate_80 rfl (fun hc80 => ?_) (fun hc80 => ?_)
            · refine lv_iconst (v := nI 0) X.1.1 X.1.2.1 d_Model_locate_85 (by decide) ?_
              refine g_ist X.1.1 X.1.2.1 hl 4 d_Model_locate_86 (Nat.le_of_ble_eq_true rfl) rfl (fun ls hl => ?_)
              have loop88 : ∀ (fu : Nat) (k : Nat) (locs : List Loc) (ls : Array Slot), xs.length - k < fu → (k ≤ xs.length) → (∀ j, j < k → ¬ t_at xs tp (sti j)) → (∀ x ∈ locs, (fun p => d ≤ p ∧ p ≤ d + 28) x.base) → gl ls [some (.ref d), some (.int (nI 1)), some (.int (nI tp.length)), some (.int (nI z0)), some (.int (nI k))] → W p l e (gR 2 51 0 0) s m ([.ref d, .int (nI 1)] : List Value).toArray below meth c H8 locs 0 0 (gQ below ([.ref d, .int (nI 1)] : List Value).toArray s (fun v1 H1 => (∃ o : Option Nat, v1 = some (.int (gm1 o)) ∧ (match o with | none => ∀ j, j < xs.length → ¬ t_at xs tp (sti j) | some k => k < xs.length ∧ t_at xs tp (sti k) ∧ ∀ j, j < k → ¬ t_at xs tp (sti j))) ∧ dR D q H1 d (upd (upd w 0 (nI 0)) 2 (nI 0)) ar ∧ H1.size = H.size ∧ ∀ p : Nat, (p < d ∨ d + 28 < p) → H1[p]? = H[p]?) 0 0 (fun p => d ≤ p ∧ p ≤ d + 28)) (F0 m 88 ls []) := by
                intro fu
                induction fu with
                | zero => intro k locs ls hmu; omega
                | succ fu ih88 =>
                  intro k locs ls hmu88 hi88_0 hi88_1 hL hl
                  refine lv_iload X.1.1 X.1.2.1 d_Model_locate_88 (gl_at hl rfl) ?_
                  refine lv_aload_n X.1.1 X.1.2.1 d_Model_locate_90 rfl (gl_at hl rfl) ?_
                  refine g_get X kc_Model mo13 34 (by decide) lk_Model_232 rfl d_Model_locate_91 ?_
                  refine g_top (nI xs.length) hp1 ?_
                  refine gn_ge X.1.1 X.1.2.1 k xs.length (by omega) (by omega) d_Model_locate_94 rfl (fun hc94 => ?_) (fun hc94 => ?_)
                  · refine lv_iconst (v := (-1)) X.1.1 X.1.2.1 d_Model_locate_143 (by decide) ?_
                    exact g_iret X B ⟨⟨none, rfl, fun j9 hj9 => by
                      first
                      | exact hi88_1 j9 (by omega)
                      | exact fun h9 => v_cnt_zero (p := fun p => decide (t_at xs tp p)) (a := 0) (n := xs.length) (by rw [show xs.length = j by omega, ← hi31_1]; exact hz0) (sti j9) ((hst.1 j9 hj9).2) (by rw [Nat.zero_add]; exact decide_eq_true h9)⟩, hR12, (z10.trans z4), fun p hp => ((oq11 p (by omega)).trans (oq5 p (by omega)))⟩ hL d_Model_locate_144 (by omega) (by omega)
                  · refine lv_iload_n X.1.1 X.1.2.1 d_Model_locate_97 rfl (gl_at hl rfl) ?_
                    refine gn_le0 X.1.1 X.1.2.1 z0 (by omega) d_Model_locate_98 rfl (fun hc98 => ?_) (fun hc98 => ?_)
                    · have hz0 : z0 = 0 := by omega
                      refine lv_iconst (v := (-1)) X.1.1 X.1.2.1 d_Model_locate_143 (by decide) ?_
                      exact g_iret X B ⟨⟨none, rfl, fun j9 hj9 => by
                        first
                        | exact hi88_1 j9 (by omega)
                        | exact fun h9 => v_cnt_zero (p := fun p => decide (t_at xs tp p)) (a := 0) (n := xs.length) (by rw [show xs.length = j by omega, ← hi31_1]; exact hz0) (sti j9) ((hst.1 j9 hj9).2) (by rw [Nat.zero_add]; exact decide_eq_true h9)⟩, hR12, (z10.trans z4), fun p hp => ((oq11 p (by omega)).trans (oq5 p (by omega)))⟩ hL d_Model_locate_144 (by omega) (by omega)
                    · have hs1 := (hst.1 k (by omega)).2
                      refine lv_aload_n X.1.1 X.1.2.1 d_Model_locate_101 rfl (gl_at hl rfl) ?_
                      refine g_get X kc_Model mo13 33 (by decide) lk_Model_90 rfl d_Model_locate_102 ?_
                      refine lv_aload_n X.1.1 X.1.2.1 d_Model_locate_105 rfl (gl_at hl rfl) ?_
                      refine lv_iload X.1.1 X.1.2.1 d_Model_locate_106 (gl_at hl rfl) ?_
                      refine g_cv (A := (fun p => d ≤ p ∧ p ≤ d + 28)) X gWS_good mw_Model_240 kc_Model mo13 (c_Model_begin l D q H8 d (upd (upd w 0 (nI 0)) 2 (nI 0)) ar hR12 xs us ed hP sti hst k (by omega)) (fun _ _ _ => trivial) gBlind.tt rfl rfl hl.1 (Nat.le_of_ble_eq_true rfl) rfl rfl ⟨by decide, by decide⟩ ⟨by decide, by decide⟩ d_Model_locate_108 (fun _ h => h.elim) hL (fun v14 H15 locs hp16 hL => ?_)
                      obtain ⟨rfl, hHe⟩ := hp16
                      rw [hHe]
                      refine lv_aload_n X.1.1 X.1.2.1 d_Model_locate_111 rfl (gl_at hl rfl) ?_
                      refine g_get X kc_Model mo13 34 (by decide) lk_Model_232 rfl d_Model_locate_112 ?_
                      refine g_top (nI xs.length) hp1 ?_
                      refine lv_aload_n X.1.1 X.1.2.1 d_Model_locate_115 rfl (gl_at hl rfl) ?_
                      refine lv_iload X.1.1 X.1.2.1 d_Model_locate_116 (gl_at hl rfl) ?_
                      refine g_cv (A := (fun p => d ≤ p ∧ p ≤ d + 28)) X gWS_good mw_Model_240 kc_Model mo13 (c_Model_begin l D q H8 d (upd (upd w 0 (nI 0)) 2 (nI 0)) ar hR12 xs us ed hP sti hst k (by omega)) (fun _ _ _ => trivial) gBlind.tt rfl rfl hl.1 (Nat.le_of_ble_eq_true rfl) rfl rfl ⟨by decide, by decide⟩ ⟨by decide, by decide⟩ d_Model_locate_118 (fun _ h => h.elim) hL (fun v17 H18 locs hp19 hL => ?_)
                      obtain ⟨rfl, hHe⟩ := hp19
                      rw [hHe]
                      refine lv_isub X.1.1 X.1.2.1 d_Model_locate_121 ?_
                      refine g_top (nI (xs.length - (sti k))) (pk_sub (by omega)) ?_
                      refine lv_aload_n X.1.1 X.1.2.1 d_Model_locate_122 rfl (gl_at hl rfl) ?_
                      refine g_get X kc_Model mo13 1 (by decide) lk_Model_7 rfl d_Model_locate_123 ?_
                      refine lv_iconst (v := nI 0) X.1.1 X.1.2.1 d_Model_locate_126 (by decide) ?_
                      refine lv_iload_n X.1.1 X.1.2.1 d_Model_locate_127 rfl (gl_at hl rfl) ?_
                      refine g_cs (A := (fun p => d ≤ p ∧ p ≤ d + 28)) X gWS_good mw_Model_110 (c_Model_begins l D q H8 (d + 26) 120 (d + 1) 8 (ar 26) (ar 1) hR12.a26 hR12.a1 (sti k) 0 (xs.length - (sti k)) tp.length (xs.drop (sti k)) tp (by rw [List.length_drop]) rfl (tXo_drop hp2 _) ht.2.1 (by rw [List.length_drop]; omega) (by omega) (by omega) (by omega) (t16_drop hp4 _) ht.2.2.2) (fun _ _ _ => trivial) gBlind.tt rfl rfl hl.1 (Nat.le_of_ble_eq_true rfl) rfl rfl ⟨by decide, by decide⟩ ⟨by decide, by decide⟩ d_Model_locate_128 (fun _ h => h.elim) hL (fun v20 H21 locs hp22 hL => ?_)
                      obtain ⟨rfl, hHe⟩ := hp22
                      rw [hHe]
                      refine lv_if_eq X.1.1 X.1.2.1 d_Model_locate_131 rfl (fun hc131 => ?_) (fun hc131 => ?_)
                      · replace hc131 := gz_f hc131
                        refine g_iinc X.1.1 X.1.2.1 (nI (k + 1)) hl 4 d_Model_locate_137 rfl (nI_1 _) rfl (fun ls hl => ?_)
                        refine lv_goto X.1.1 X.1.2.1 d_Model_locate_140 rfl ?_
                        exact ih88 (k + 1) locs ls (by omega) (by omega) (lt_s hi88_1 hc131) hL hl
                      · replace hc131 := gz_t hc131
                        refine lv_iload X.1.1 X.1.2.1 d_Model_locate_134 (gl_at hl rfl) ?_
                        exact g_iret X B ⟨⟨some k, rfl, by omega, hc131, hi88_1⟩, hR12, (z10.trans z4), fun p hp => ((oq11 p (by omega)).trans (oq5 p (by omega)))⟩ hL d_Model_locate_136 (by omega) (by omega)
              exact loop88 _ 0 locs ls (Nat.lt_succ_self _) (Nat.zero_le _) (fun j hj => absurd hj (Nat.not_lt_zero j)) hL hl
            · omega
          · refine lv_iload_n X.1.1 X.1.2.1 d_Model_locate_40 rfl (gl_at hl rfl) ?_
            refine lv_aload_n X.1.1 X.1.2.1 d_Model_locate_41 rfl (gl_at hl rfl) ?_
            refine g_get X kc_Model mo13 33 (by decide) lk_Model_90 rfl d_Model_locate_42 ?_
            refine lv_iload X.1.1 X.1.2.1 d_Model_locate_45 (gl_at hl rfl) ?_
            refine lv_aload_n X.1.1 X.1.2.1 d_Model_locate_47 rfl (gl_at hl rfl) ?_
            refine g_get X kc_Model mo13 34 (by decide) lk_Model_232 rfl d_Model_locate_48 ?_
            refine g_top (nI xs.length) hp1 ?_
            refine lv_iload X.1.1 X.1.2.1 d_Model_locate_51 (gl_at hl rfl) ?_
            refine lv_isub X.1.1 X.1.2.1 d_Model_locate_53 ?_
            refine g_top (nI (xs.length - j)) (pk_sub (by omega)) ?_
            refine lv_aload_n X.1.1 X.1.2.1 d_Model_locate_54 rfl (gl_at hl rfl) ?_
            refine g_get X kc_Model mo13 1 (by decide) lk_Model_7 rfl d_Model_locate_55 ?_
            refine lv_iconst (v := nI 0) X.1.1 X.1.2.1 d_Model_locate_58 (by decide) ?_
            refine lv_iload_n X.1.1 X.1.2.1 d_Model_locate_59 rfl (gl_at hl rfl) ?_
            refine g_cs (A := (fun p => d ≤ p ∧ p ≤ d + 28)) X gWS_good mw_Model_110 (c_Model_begins l D q H8 (d + 26) 120 (d + 1) 8 (ar 26) (ar 1) hR12.a26 hR12.a1 j 0 (xs.length - j) tp.length (xs.drop j) tp (by rw [List.length_drop]) rfl (tXo_drop hp2 _) ht.2.1 (by rw [List.length_drop]; omega) (by omega) (by omega) (by omega) (t16_drop hp4 _) ht.2.2.2) (fun _ _ _ => trivial) gBlind.tt rfl rfl hl.1 (Nat.le_of_ble_eq_true rfl) rfl rfl ⟨by decide, by decide⟩ ⟨by decide, by decide⟩ d_Model_locate_60 (fun _ h => h.elim) hL (fun v23 H24 locs hp25 hL => ?_)
            obtain ⟨rfl, hHe⟩ := hp25
            rw [hHe]
            refine lv_if_eq X.1.1 X.1.2.1 d_Model_locate_63 rfl (fun hc63 => ?_) (fun hc63 => ?_)
            · replace hc63 := gz_f hc63
              refine lv_iconst (v := nI 0) X.1.1 X.1.2.1 d_Model_locate_70 (by decide) ?_
              refine lv_iadd X.1.1 X.1.2.1 d_Model_locate_71 ?_
              refine g_top (nI (z0 + 0)) (nI_add _ _) ?_
              refine g_istn X.1.1 X.1.2.1 hl 3 d_Model_locate_72 rfl (Nat.le_of_ble_eq_true rfl) rfl (fun ls hl => ?_)
              refine g_iinc X.1.1 X.1.2.1 (nI (j + 1)) hl 4 d_Model_locate_73 rfl (nI_1 _) rfl (fun ls hl => ?_)
              refine lv_goto X.1.1 X.1.2.1 d_Model_locate_76 rfl ?_
              exact ih31 (j + 1) (z0 + 0) locs ls (by omega) (by omega) (by
                show _ = v_cnt _ _ j + _
                rw [Nat.zero_add]
                first
                | rw [if_pos (decide_eq_true hc63), ← hi31_1]
                | rw [if_neg (fun h9 => hc63 (of_decide_eq_true h9)), ← hi31_1]) hL hl
            · replace hc63 := gz_t hc63
              refine lv_iconst (v := nI 1) X.1.1 X.1.2.1 d_Model_locate_66 (by decide) ?_
              refine lv_goto X.1.1 X.1.2.1 d_Model_locate_67 rfl ?_
              refine lv_iadd X.1.1 X.1.2.1 d_Model_locate_71 ?_
              refine g_top (nI (z0 + 1)) (nI_add _ _) ?_
              refine g_istn X.1.1 X.1.2.1 hl 3 d_Model_locate_72 rfl (Nat.le_of_ble_eq_true rfl) rfl (fun ls hl => ?_)
              refine g_iinc X.1.1 X.1.2.1 (nI (j + 1)) hl 4 d_Model_locate_73 rfl (nI_1 _) rfl (fun ls hl => ?_)
              refine lv_goto X.1.1 X.1.2.1 d_Model_locate_76 rfl ?_
              exact ih31 (j + 1) (z0 + 1) locs ls (by omega) (by omega) (by
                show _ = v_cnt _ _ j + _
                rw [Nat.zero_add]
                first
                | rw [if_pos (decide_eq_true hc63), ← hi31_1]
                | rw [if_neg (fun h9 => hc63 (of_decide_eq_true h9)), ← hi31_1]) hL hl
      exact loop31 _ 0 0 locs ls (Nat.lt_succ_self _) (Nat.zero_le _) rfl hL hl
    · omega
