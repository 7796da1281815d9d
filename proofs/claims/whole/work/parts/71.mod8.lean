/-! the class KeyHallModel, 8: printed by wip/specs/m8.py -/
theorem v_cnt_mono (p : Nat → Bool) (a : Nat) {x : Nat} : ∀ {y : Nat}, x ≤ y → v_cnt p a x ≤ v_cnt p a y
  | 0, h => by rw [show x = 0 by omega]; exact Nat.le_refl _
  | y + 1, h => by
    by_cases e : x = y + 1
    · rw [e]
      exact Nat.le_refl _
    · have := v_cnt_mono p a (x := x) (y := y) (by omega)
      show v_cnt p a x ≤ v_cnt p a y + _
      omega
def d_st (n : Nat) (a b : Int32) : Int32 := if n = 0 then a else b
/-- the steps of a new state, as far as the first i prefixes show them -/
def d_sx (kk : Nat → List Nat) (pg pl : Nat → Nat) (f1 f3 f4 f5 : Nat → Int32) (tN sN x i : Nat) (F G E : Nat → Int32) : Prop :=
  (∀ k, k < tN → F k = f3 k ∧ G k = f4 k ∧ E k = f5 k) ∧ ∀ y, y < i → d_fo kk pg pl x y = true → F (tN + v_cnt (d_fo kk pg pl x) 0 y) = nI sN ∧ G (tN + v_cnt (d_fo kk pg pl x) 0 y) = nI ((kk (pg y)).getD (pl x) 0) ∧ E (tN + v_cnt (d_fo kk pg pl x) 0 y) = f1 y
theorem d_sx_skip {kk : Nat → List Nat} {pg pl : Nat → Nat} {f1 f3 f4 f5 : Nat → Int32} {tN sN x i : Nat} {F G E : Nat → Int32} (h : d_sx kk pg pl f1 f3 f4 f5 tN sN x i F G E) (hn : ¬ d_fo kk pg pl x i = true) : d_sx kk pg pl f1 f3 f4 f5 tN sN x (i + 1) F G E := ⟨h.1, lt_s h.2 (fun h9 => absurd h9 hn)⟩
theorem d_sx_add {kk : Nat → List Nat} {pg pl : Nat → Nat} {f1 f3 f4 f5 : Nat → Int32} {tN sN x i t : Nat} {F G E : Nat → Int32} (h : d_sx kk pg pl f1 f3 f4 f5 tN sN x i F G E) (ht : t = tN + v_cnt (d_fo kk pg pl x) 0 i) : d_sx kk pg pl f1 f3 f4 f5 tN sN x (i + 1) (upd F t (nI sN)) (upd G t (nI ((kk (pg i)).getD (pl x) 0))) (upd E t (f1 i)) := by
  refine ⟨fun k hk => ?_, lt_s (fun y hy h9 => ?_) (fun _ => ?_)⟩
  · rw [pk_un (by omega), pk_un (by omega), pk_un (by omega)]
    exact h.1 k hk
  · have e1 : v_cnt (d_fo kk pg pl x) 0 (y + 1) = v_cnt (d_fo kk pg pl x) 0 y + 1 := by
      show v_cnt (d_fo kk pg pl x) 0 y + (if d_fo kk pg pl x (0 + y) = true then 1 else 0) = _
      rw [Nat.zero_add, if_pos h9]
    have e2 := v_cnt_mono (d_fo kk pg pl x) 0 (x := y + 1) (y := i) (by omega)
    rw [pk_un (by omega), pk_un (by omega), pk_un (by omega)]
    exact h.2 y hy h9
  · rw [← ht, pk_us, pk_us, pk_us]
    exact ⟨rfl, rfl, rfl⟩

/-- whether state s0 is the one of prefix x -/
def d_mt (kk : Nat → List Nat) (pg pl : Nat → Nat) (f1 f2 f3 f4 f5 : Nat → Int32) (tN pn : Nat) (fin : Int32) (x s0 : Nat) : Prop := f2 s0 = fin ∧ v_cnt (fun k => decide (f3 k = nI s0)) 0 tN = v_cnt (d_fo kk pg pl x) 0 pn ∧ d_ak kk pg pl f3 f4 f5 f1 tN (nI s0) x pn = true

set_option maxHeartbeats 4000000 in
set_option maxRecDepth 100000 in
/-- state -/
theorem c_Model_state (l : Launch) (D : va_G) (q : Nat → ClassId) (H : Heap) (d : Nat) (w : Nat → Int32) (ar : Nat → Nat → Int32) (hR : dR D q H d w ar) (c0 : Nat) (org : Nat → Option Nat) (srt : Nat → Nat) (bt : Nat → List Nat) (tn mp : Nat → Nat) (hv : pV w ar c0 org srt bt) (hN : pN c0 org srt tn mp) (kk : Nat → List Nat) (hk : pK ar kk) (n chg : Nat → Nat) (hm : pM ar n chg) (pn : Nat) (pg pl : Nat → Nat) (hq : pQ w ar kk pn pg pl) (tN : Nat) (ht1 : w 27 = nI tN) (ht2 : tN ≤ 580) (v : Nat) (hvc : v < c0) (sN : Nat) (hs1 : w 26 = nI sN) (hs2 : sN < 580) (x : Nat) (hx : x < pn) (htn : tN + v_cnt (d_fo kk pg pl x) 0 pn ≤ 580) : gC l y_Model_state (Cond.code y_Model_state b_Model_state 7 none :: gWS) (gR 5 124 0 0) D CL (gY q) (fun _ => True) [.ref d, .int (nI v), .int (nI x)] H (fun v1 H1 => (v1 = none ∧ ((∃ r0, r0 < sN ∧ d_mt kk pg pl (ar 21) (ar 22) (ar 23) (ar 24) (ar 25) tN pn (nI (if d_ea org srt bt v (64 * mp v) kk (d_pu kk pg pl x) (n (mp v)) = true then 1 else 0)) x r0 ∧ dR D q H1 d (upd w 28 (d_st (pl x) (nI r0) (w 28))) (va_up ar 21 (upd (ar 21) x (nI r0)))) ∨ ∃ F G E, (∀ s1, s1 < sN → ¬ d_mt kk pg pl (ar 21) (ar 22) (ar 23) (ar 24) (ar 25) tN pn (nI (if d_ea org srt bt v (64 * mp v) kk (d_pu kk pg pl x) (n (mp v)) = true then 1 else 0)) x s1) ∧ d_sx kk pg pl (ar 21) (ar 23) (ar 24) (ar 25) tN sN x pn F G E ∧ dR D q H1 d (upd (upd (upd w 26 (nI (sN + 1))) 27 (nI (tN + v_cnt (d_fo kk pg pl x) 0 pn))) 28 (d_st (pl x) (nI sN) (w 28))) (va_up (va_up (va_up (va_up (va_up ar 21 (upd (ar 21) x (nI sN))) 22 (upd (ar 22) sN (nI (if d_ea org srt bt v (64 * mp v) kk (d_pu kk pg pl x) (n (mp v)) = true then 1 else 0)))) 23 F) 24 G) 25 E))) ∧ H1.size = H.size ∧ ∀ p : Nat, (p < d ∨ d + 28 < p) → H1[p]? = H[p]?) 0 0 (fun p => d ≤ p ∧ p ≤ d + 28) := by
  refine gC.ofW R_Model "state" (by decide) rfl rfl ?_
  intro p e s m below meth c hadm X hE hH B hne
  refine g_entry [some (.ref d), some (.int (nI v)), some (.int (nI x)), none, none, none, none] rfl rfl (Nat.le_of_ble_eq_true rfl) (fun ls hl => ?_)
  have h12 := hv.2.2.1
  have hmp := (hN v hvc).1
  have hp5 := hq.2.1
  obtain ⟨hx1, hx2, hx3, hx4⟩ := hq.2.2 x hx
  have hxk := hk (pg x) hx3
  have kx8 := hxk.2.2.1
  have hcp := v_cnt_le (d_fo kk pg pl x) 0 pn
  refine lv_aload_n X.1.1 X.1.2.1 d_Model_state_0 rfl (gl_at hl rfl) ?_
  refine lv_iload_n X.1.1 X.1.2.1 d_Model_state_1 rfl (gl_at hl rfl) ?_
  refine lv_iload_n X.1.1 X.1.2.1 d_Model_state_2 rfl (gl_at hl rfl) ?_
  have mo1 : va_at D CL (d, .inr (10, [.int (w 0), .ref (d + 1), .int (w 2), .ref (d + 2), .ref (d + 3), .ref (d + 4), .ref (d + 5), .ref (d + 6), .int (w 8), .ref (d + 7), .ref (d + 8), .ref (d + 9), .ref (d + 10), .ref (d + 11), .ref (d + 12), .ref (d + 13), .ref (d + 14), .ref (d + 15), .ref (d + 16), .ref (d + 17), .int (w 20), .ref (d + 18), .int (w 22), .ref (d + 19), .ref (d + 20), .ref (d + 21), .int (w 26), .int (w 27), .int (w 28), .ref (d + 22), .ref (d + 23), .ref (d + 24), .ref (d + 25), .ref (d + 26), .int (w 34), .ref (d + 27), .ref (d + 28), .int (w 37), .int (w 38)])) H := hR.1
  refine g_cv (A := (fun p => d ≤ p ∧ p ≤ d + 28)) X gWS_good mw_Model_214 kc_Model mo1 (c_Model_endsAt l D q H d w ar hR c0 org srt bt tn mp hv hN kk hk n chg hm pn pg pl hq v hvc x hx) (fun _ _ _ => trivial) gBlind.tt rfl rfl hl.1 (Nat.le_of_ble_eq_true rfl) rfl rfl ⟨by decide, by decide⟩ ⟨by decide, by decide⟩ d_Model_state_3 (fun _ h => h.elim) (fun _ h => by cases h) (fun v2 H3 locs hp4 hL => ?_)
  obtain ⟨rfl, hHe⟩ := hp4
  rw [hHe]
  refine g_istn X.1.1 X.1.2.1 hl 3 d_Model_state_6 rfl (Nat.le_of_ble_eq_true rfl) rfl (fun ls hl => ?_)
  refine lv_iconst (v := nI 0) X.1.1 X.1.2.1 d_Model_state_7 (by decide) ?_
  refine g_ist X.1.1 X.1.2.1 hl 4 d_Model_state_8 (Nat.le_of_ble_eq_true rfl) rfl (fun ls hl => ?_)
  refine lv_iconst (v := nI 0) X.1.1 X.1.2.1 d_Model_state_10 (by decide) ?_
  refine g_ist X.1.1 X.1.2.1 hl 5 d_Model_state_11 (Nat.le_of_ble_eq_true rfl) rfl (fun ls hl => ?_)
  have loop13 : ∀ (fu : Nat) (i : Nat) (z0 : Nat) (locs : List Loc) (ls : Array Slot), pn - i < fu → (i ≤ pn) → (z0 = v_cnt (d_fo kk pg pl x) 0 i) → (∀ x ∈ locs, (fun p => d ≤ p ∧ p ≤ d + 28) x.base) → gl ls [some (.ref d), some (.int (nI v)), some (.int (nI x)), some (.int (nI (if d_ea org srt bt v (64 * mp v) kk (d_pu kk pg pl x) (n (mp v)) = true then 1 else 0))), some (.int (nI z0)), some (.int (nI i)), none] → W p l e (gR 5 124 0 0) s m ([.ref d, .int (nI v), .int (nI x)] : List Value).toArray below meth c H locs 0 0 (gQ below ([.ref d, .int (nI v), .int (nI x)] : List Value).toArray s (fun v1 H1 => (v1 = none ∧ ((∃ r0, r0 < sN ∧ d_mt kk pg pl (ar 21) (ar 22) (ar 23) (ar 24) (ar 25) tN pn (nI (if d_ea org srt bt v (64 * mp v) kk (d_pu kk pg pl x) (n (mp v)) = true then 1 else 0)) x r0 ∧ dR D q H1 d (upd w 28 (d_st (pl x) (nI r0) (w 28))) (va_up ar 21 (upd (ar 21) x (nI r0)))) ∨ ∃ F G E, (∀ s1, s1 < sN → ¬ d_mt kk pg pl (ar 21) (ar 22) (ar 23) (ar 24) (ar 25) tN pn (nI (if d_ea org srt bt v (64 * mp v) kk (d_pu kk pg pl x) (n (mp v)) = true then 1 else 0)) x s1) ∧ d_sx kk pg pl (ar 21) (ar 23) (ar 24) (ar 25) tN sN x pn F G E ∧ dR D q H1 d (upd (upd (upd w 26 (nI (sN + 1))) 27 (nI (tN + v_cnt (d_fo kk pg pl x) 0 pn))) 28 (d_st (pl x) (nI sN) (w 28))) (va_up (va_up (va_up (va_up (va_up ar 21 (upd (ar 21) x (nI sN))) 22 (upd (ar 22) sN (nI (if d_ea org srt bt v (64 * mp v) kk (d_pu kk pg pl x) (n (mp v)) = true then 1 else 0)))) 23 F) 24 G) 25 E))) ∧ H1.size = H.size ∧ ∀ p : Nat, (p < d ∨ d + 28 < p) → H1[p]? = H[p]?) 0 0 (fun p => d ≤ p ∧ p ≤ d + 28)) (F0 m 13 ls []) := by
    intro fu
    induction fu with
    | zero => intro i z0 locs ls hmu; omega
    | succ fu ih13 =>
      intro i z0 locs ls hmu13 hi13_0 hi13_1 hL hl
      have hz9 := v_cnt_le (d_fo kk pg pl x) 0 i
      refine lv_iload X.1.1 X.1.2.1 d_Model_state_13 (gl_at hl rfl) ?_
      refine lv_aload_n X.1.1 X.1.2.1 d_Model_state_15 rfl (gl_at hl rfl) ?_
      refine g_get X kc_Model mo1 22 (by decide) lk_Model_193 rfl d_Model_state_16 ?_
      refine g_top (nI pn) hq.1 ?_
      refine gn_ge X.1.1 X.1.2.1 i pn (by omega) (by omega) d_Model_state_19 rfl (fun hc19 => ?_) (fun hc19 => ?_)
      · refine lv_iconst (v := (-1)) X.1.1 X.1.2.1 d_Model_state_48 (by decide) ?_
        refine g_ist X.1.1 X.1.2.1 hl 5 d_Model_state_49 (Nat.le_of_ble_eq_true rfl) rfl (fun ls hl => ?_)
        refine lv_iconst (v := nI 0) X.1.1 X.1.2.1 d_Model_state_51 (by decide) ?_
        refine g_ist X.1.1 X.1.2.1 hl 6 d_Model_state_52 (Nat.le_of_ble_eq_true rfl) rfl (fun ls hl => ?_)
        have loop54 : ∀ (fu : Nat) (s0 : Nat) (o : Option Nat) (locs : List Loc) (ls : Array Slot), sN - s0 < fu → (s0 ≤ sN) → (o = none → ∀ s1, s1 < s0 → ¬ d_mt kk pg pl (ar 21) (ar 22) (ar 23) (ar 24) (ar 25) tN pn (nI (if d_ea org srt bt v (64 * mp v) kk (d_pu kk pg pl x) (n (mp v)) = true then 1 else 0)) x s1) → (∀ r, o = some r → r < sN ∧ d_mt kk pg pl (ar 21) (ar 22) (ar 23) (ar 24) (ar 25) tN pn (nI (if d_ea org srt bt v (64 * mp v) kk (d_pu kk pg pl x) (n (mp v)) = true then 1 else 0)) x r) → (∀ x ∈ locs, (fun p => d ≤ p ∧ p ≤ d + 28) x.base) → gl ls [some (.ref d), some (.int (nI v)), some (.int (nI x)), some (.int (nI (if d_ea org srt bt v (64 * mp v) kk (d_pu kk pg pl x) (n (mp v)) = true then 1 else 0))), some (.int (nI z0)), some (.int (gm1 o)), some (.int (nI s0))] → W p l e (gR 5 124 0 0) s m ([.ref d, .int (nI v), .int (nI x)] : List Value).toArray below meth c H locs 0 0 (gQ below ([.ref d, .int (nI v), .int (nI x)] : List Value).toArray s (fun v1 H1 => (v1 = none ∧ ((∃ r0, r0 < sN ∧ d_mt kk pg pl (ar 21) (ar 22) (ar 23) (ar 24) (ar 25) tN pn (nI (if d_ea org srt bt v (64 * mp v) kk (d_pu kk pg pl x) (n (mp v)) = true then 1 else 0)) x r0 ∧ dR D q H1 d (upd w 28 (d_st (pl x) (nI r0) (w 28))) (va_up ar 21 (upd (ar 21) x (nI r0)))) ∨ ∃ F G E, (∀ s1, s1 < sN → ¬ d_mt kk pg pl (ar 21) (ar 22) (ar 23) (ar 24) (ar 25) tN pn (nI (if d_ea org srt bt v (64 * mp v) kk (d_pu kk pg pl x) (n (mp v)) = true then 1 else 0)) x s1) ∧ d_sx kk pg pl (ar 21) (ar 23) (ar 24) (ar 25) tN sN x pn F G E ∧ dR D q H1 d (upd (upd (upd w 26 (nI (sN + 1))) 27 (nI (tN + v_cnt (d_fo kk pg pl x) 0 pn))) 28 (d_st (pl x) (nI sN) (w 28))) (va_up (va_up (va_up (va_up (va_up ar 21 (upd (ar 21) x (nI sN))) 22 (upd (ar 22) sN (nI (if d_ea org srt bt v (64 * mp v) kk (d_pu kk pg pl x) (n (mp v)) = true then 1 else 0)))) 23 F) 24 G) 25 E))) ∧ H1.size = H.size ∧ ∀ p : Nat, (p < d ∨ d + 28 < p) → H1[p]? = H[p]?) 0 0 (fun p => d ≤ p ∧ p ≤ d + 28)) (F0 m 54 ls []) := by
          intro fu
          induction fu with
          | zero => intro s0 o locs ls hmu; omega
          | succ fu ih54 =>
            intro s0 o locs ls hmu54 hi54_0 hi54_1 hi54_2 hL hl
            refine lv_iload X.1.1 X.1.2.1 d_Model_state_54 (gl_at hl rfl) ?_
            cases o with
            | none =>
                have hno := hi54_1 rfl
                refine lv_aload_n X.1.1 X.1.2.1 d_Model_state_56 rfl (gl_at hl rfl) ?_
                refine g_get X kc_Model mo1 26 (by decide) lk_Model_196 rfl d_Model_state_57 ?_
                refine g_top (nI sN) hs1 ?_
                refine gn_ge X.1.1 X.1.2.1 s0 sN (by omega) (by omega) d_Model_state_60 rfl (fun hc60 => ?_) (fun hc60 => ?_)
                · refine lv_iload X.1.1 X.1.2.1 d_Model_state_115 (gl_at hl rfl) ?_
                  refine lv_iconst (v := (-1)) X.1.1 X.1.2.1 d_Model_state_117 (by decide) ?_
                  refine lv_icmp_ne X.1.1 X.1.2.1 d_Model_state_118 rfl (fun hc118 => ?_) (fun hc118 => ?_)
                  · exact absurd rfl hc118
                  · have hno0 : ∀ s1, s1 < sN → ¬ d_mt kk pg pl (ar 21) (ar 22) (ar 23) (ar 24) (ar 25) tN pn (nI (if d_ea org srt bt v (64 * mp v) kk (d_pu kk pg pl x) (n (mp v)) = true then 1 else 0)) x s1 := fun s1 h9 => hno s1 (by omega)
                    refine lv_aload_n X.1.1 X.1.2.1 d_Model_state_121 rfl (gl_at hl rfl) ?_
                    refine g_get X kc_Model mo1 26 (by decide) lk_Model_196 rfl d_Model_state_122 ?_
                    refine g_top (nI sN) hs1 ?_
                    refine g_ist X.1.1 X.1.2.1 hl 5 d_Model_state_125 (Nat.le_of_ble_eq_true rfl) rfl (fun ls hl => ?_)
                    refine lv_aload_n X.1.1 X.1.2.1 d_Model_state_127 rfl (gl_at hl rfl) ?_
                    refine lv_dup X.1.1 X.1.2.1 d_Model_state_128 rfl ?_
                    refine g_get X kc_Model mo1 26 (by decide) lk_Model_196 rfl d_Model_state_129 ?_
                    refine g_top (nI sN) hs1 ?_
                    refine lv_iconst (v := nI 1) X.1.1 X.1.2.1 d_Model_state_132 (by decide) ?_
                    refine lv_iadd X.1.1 X.1.2.1 d_Model_state_133 ?_
                    refine g_top (nI (sN + 1)) (nI_add _ _) ?_
                    refine g_put (A := (fun p => d ≤ p ∧ p ≤ d + 28)) X kc_Model mo1 26 (by decide) lk_Model_196 rfl rfl rfl (Nat.le_of_ble_eq_true rfl) d_Model_state_134 ⟨by omega, by omega⟩ hL (fun H5 locs h6 z7 oq8 hL => ?_)
                    have hR9 : dR D q H5 d (upd w 26 (nI (sN + 1))) ar := hR.putO h6 oq8
                    refine lv_aload_n X.1.1 X.1.2.1 d_Model_state_137 rfl (gl_at hl rfl) ?_
                    have mo10 : va_at D CL (d, .inr (10, [.int (w 0), .ref (d + 1), .int (w 2), .ref (d + 2), .ref (d + 3), .ref (d + 4), .ref (d + 5), .ref (d + 6), .int (w 8), .ref (d + 7), .ref (d + 8), .ref (d + 9), .ref (d + 10), .ref (d + 11), .ref (d + 12), .ref (d + 13), .ref (d + 14), .ref (d + 15), .ref (d + 16), .ref (d + 17), .int (w 20), .ref (d + 18), .int (w 22), .ref (d + 19), .ref (d + 20), .ref (d + 21), .int (nI (sN + 1)), .int (w 27), .int (w 28), .ref (d + 22), .ref (d + 23), .ref (d + 24), .ref (d + 25), .ref (d + 26), .int (w 34), .ref (d + 27), .ref (d + 28), .int (w 37), .int (w 38)])) H5 := hR9.1
                    refine g_get X kc_Model mo10 29 (by decide) lk_Model_78 rfl d_Model_state_138 ?_
                    refine lv_iload X.1.1 X.1.2.1 d_Model_state_141 (gl_at hl rfl) ?_
                    refine lv_iload_n X.1.1 X.1.2.1 d_Model_state_143 rfl (gl_at hl rfl) ?_
                    have ma11 : va_at D CL (d + 22, .inl (q 1, 580, .inl (ar 22))) H5 := hR9.a22
                    refine g_zast (A := (fun p => d ≤ p ∧ p ≤ d + 28)) X 1 ma11 rfl sN (by omega) (by decide) (gz_if _) d_Model_state_144 ⟨by omega, by omega⟩ hL (fun H12 locs h13 z14 oq15 hL => ?_)
                    have hR16 : dR D q H12 d (upd w 26 (nI (sN + 1))) (va_up ar 22 (upd (ar 22) sN (nI (if d_ea org srt bt v (64 * mp v) kk (d_pu kk pg pl x) (n (mp v)) = true then 1 else 0)))) := hR9.putB 22 (by decide) h13 oq15 rfl (fun j hj => by simp only [va_up, if_neg hj])
                    refine lv_iconst (v := nI 0) X.1.1 X.1.2.1 d_Model_state_145 (by decide) ?_
                    refine g_ist X.1.1 X.1.2.1 hl 6 d_Model_state_146 (Nat.le_of_ble_eq_true rfl) rfl (fun ls hl => ?_)
                    have loop148 : ∀ (fu : Nat) (y : Nat) (F : Nat → Int32) (G : Nat → Int32) (E : Nat → Int32) (t0 : Nat) (Hn : Heap) (locs : List Loc) (ls : Array Slot), pn - y < fu → (y ≤ pn) → (t0 = tN + v_cnt (d_fo kk pg pl x) 0 y) → (d_sx kk pg pl (ar 21) (ar 23) (ar 24) (ar 25) tN sN x y F G E) → (dR D q Hn d (upd (upd w 26 (nI (sN + 1))) 27 (nI t0)) (va_up (va_up (va_up (va_up ar 22 (upd (ar 22) sN (nI (if d_ea org srt bt v (64 * mp v) kk (d_pu kk pg pl x) (n (mp v)) = true then 1 else 0)))) 23 F) 24 G) 25 E)) → (Hn.size = H.size) → (∀ p : Nat, (p < d ∨ d + 28 < p) → Hn[p]? = H[p]?) → (∀ x ∈ locs, (fun p => d ≤ p ∧ p ≤ d + 28) x.base) → gl ls [some (.ref d), some (.int (nI v)), some (.int (nI x)), some (.int (nI (if d_ea org srt bt v (64 * mp v) kk (d_pu kk pg pl x) (n (mp v)) = true then 1 else 0))), some (.int (nI z0)), some (.int (nI sN)), some (.int (nI y))] → W p l e (gR 5 124 0 0) s m ([.ref d, .int (nI v), .int (nI x)] : List Value).toArray below meth c Hn locs 0 0 (gQ below ([.ref d, .int (nI v), .int (nI x)] : List Value).toArray s (fun v1 H1 => (v1 = none ∧ ((∃ r0, r0 < sN ∧ d_mt kk pg pl (ar 21) (ar 22) (ar 23) (ar 24) (ar 25) tN pn (nI (if d_ea org srt bt v (64 * mp v) kk (d_pu kk pg pl x) (n (mp v)) = true then 1 else 0)) x r0 ∧ dR D q H1 d (upd w 28 (d_st (pl x) (nI r0) (w 28))) (va_up ar 21 (upd (ar 21) x (nI r0)))) ∨ ∃ F G E, (∀ s1, s1 < sN → ¬ d_mt kk pg pl (ar 21) (ar 22) (ar 23) (ar 24) (ar 25) tN pn (nI (if d_ea org srt bt v (64 * mp v) kk (d_pu kk pg pl x) (n (mp v)) = true then 1 else 0)) x s1) ∧ d_sx kk pg pl (ar 21) (ar 23) (ar 24) (ar 25) tN sN x pn F G E ∧ dR D q H1 d (upd (upd (upd w 26 (nI (sN + 1))) 27 (nI (tN + v_cnt (d_fo kk pg pl x) 0 pn))) 28 (d_st (pl x) (nI sN) (w 28))) (va_up (va_up (va_up (va_up (va_up ar 21 (upd (ar 21) x (nI sN))) 22 (upd (ar 22) sN (nI (if d_ea org srt bt v (64 * mp v) kk (d_pu kk pg pl x) (n (mp v)) = true then 1 else 0)))) 23 F) 24 G) 25 E))) ∧ H1.size = H.size ∧ ∀ p : Nat, (p < d ∨ d + 28 < p) → H1[p]? = H[p]?) 0 0 (fun p => d ≤ p ∧ p ≤ d + 28)) (F0 m 148 ls []) := by
                      intro fu
                      induction fu with
                      | zero => intro y F G E t0 Hn locs ls hmu; omega
                      | succ fu ih148 =>
                        intro y F G E t0 Hn locs ls hmu148 hi148_0 hi148_1 hi148_2 hRl hzl frl hL hl
                        refine lv_iload X.1.1 X.1.2.1 d_Model_state_148 (gl_at hl rfl) ?_
                        refine lv_aload_n X.1.1 X.1.2.1 d_Model_state_150 rfl (gl_at hl rfl) ?_
                        have mo17 : va_at D CL (d, .inr (10, [.int (w 0), .ref (d + 1), .int (w 2), .ref (d + 2), .ref (d + 3), .ref (d + 4), .ref (d + 5), .ref (d + 6), .int (w 8), .ref (d + 7), .ref (d + 8), .ref (d + 9), .ref (d + 10), .ref (d + 11), .ref (d + 12), .ref (d + 13), .ref (d + 14), .ref (d + 15), .ref (d + 16), .ref (d + 17), .int (w 20), .ref (d + 18), .int (w 22), .ref (d + 19), .ref (d + 20), .ref (d + 21), .int (nI (sN + 1)), .int (nI t0), .int (w 28), .ref (d + 22), .ref (d + 23), .ref (d + 24), .ref (d + 25), .ref (d + 26), .int (w 34), .ref (d + 27), .ref (d + 28), .int (w 37), .int (w 38)])) Hn := hRl.1
                        refine g_get X kc_Model mo17 22 (by decide) lk_Model_193 rfl d_Model_state_151 ?_
                        refine g_top (nI pn) hq.1 ?_
                        refine gn_ge X.1.1 X.1.2.1 y pn (by omega) (by omega) d_Model_state_154 rfl (fun hc154 => ?_) (fun hc154 => ?_)
                        · refine lv_aload_n X.1.1 X.1.2.1 d_Model_state_244 rfl (gl_at hl rfl) ?_
                          refine g_get X kc_Model mo17 25 (by decide) lk_Model_75 rfl d_Model_state_245 ?_
                          refine lv_iload_n X.1.1 X.1.2.1 d_Model_state_248 rfl (gl_at hl rfl) ?_
                          refine lv_iload X.1.1 X.1.2.1 d_Model_state_249 (gl_at hl rfl) ?_
                          have ma18 : va_at D CL (d + 21, .inl (q 0, 580, .inl (ar 21))) Hn := hRl.a21
                          refine g_iast (A := (fun p => d ≤ p ∧ p ≤ d + 28)) X 0 ma18 rfl x (by omega) (by decide) d_Model_state_251 ⟨by omega, by omega⟩ hL (fun H19 locs h20 z21 oq22 hL => ?_)
                          have hR23 : dR D q H19 d (upd (upd w 26 (nI (sN + 1))) 27 (nI t0)) (va_up (va_up (va_up (va_up (va_up ar 21 (upd (ar 21) x (nI sN))) 22 (upd (ar 22) sN (nI (if d_ea org srt bt v (64 * mp v) kk (d_pu kk pg pl x) (n (mp v)) = true then 1 else 0)))) 23 F) 24 G) 25 E) := hRl.putB 21 (by decide) h20 oq22 rfl (fun j hj => by simp only [va_up, if_neg hj])
                          refine lv_aload_n X.1.1 X.1.2.1 d_Model_state_252 rfl (gl_at hl rfl) ?_
                          have mo24 : va_at D CL (d, .inr (10, [.int (w 0), .ref (d + 1), .int (w 2), .ref (d + 2), .ref (d + 3), .ref (d + 4), .ref (d + 5), .ref (d + 6), .int (w 8), .ref (d + 7), .ref (d + 8), .ref (d + 9), .ref (d + 10), .ref (d + 11), .ref (d + 12), .ref (d + 13), .ref (d + 14), .ref (d + 15), .ref (d + 16), .ref (d + 17), .int (w 20), .ref (d + 18), .int (w 22), .ref (d + 19), .ref (d + 20), .ref (d + 21), .int (nI (sN + 1)), .int (nI t0), .int (w 28), .ref (d + 22), .ref (d + 23), .ref (d + 24), .ref (d + 25), .ref (d + 26), .int (w 34), .ref (d + 27), .ref (d + 28), .int (w 37), .int (w 38)])) H19 := hR23.1
                          refine g_get X kc_Model mo24 24 (by decide) lk_Model_72 rfl d_Model_state_253 ?_
                          refine lv_iload_n X.1.1 X.1.2.1 d_Model_state_256 rfl (gl_at hl rfl) ?_
                          have ma25 : va_at D CL (d + 20, .inl (q 0, 580, .inl (ar 20))) H19 := hR23.a20
                          refine g_iald X 0 ma25 rfl x (by omega) (by omega) d_Model_state_257 ?_
                          refine g_top (nI (pl x)) hx2 ?_
                          refine gn_ne0 X.1.1 X.1.2.1 (pl x) (by omega) d_Model_state_258 rfl (fun hc258 => ?_) (fun hc258 => ?_)
                          · exact g_vret X B ⟨⟨rfl, Or.inr ⟨F, G, E, hno0, by rw [show pn = y by omega]; exact hi148_2, (by rw [show pn = y by omega, ← hi148_1]; exact (hR23.as (fun j => by unfold d_st; first | rw [if_pos hc258] | (rw [if_neg hc258]; simp only [upd]; (repeat' split) <;> first | rfl | omega | (subst_vars; rfl))) (fun _ => rfl)))⟩⟩, (z21.trans hzl), fun p hp => ((oq22 p (by omega)).trans (frl p (by omega)))⟩ hL d_Model_state_267 (by omega) (by omega)
                          · refine lv_aload_n X.1.1 X.1.2.1 d_Model_state_261 rfl (gl_at hl rfl) ?_
                            refine lv_iload X.1.1 X.1.2.1 d_Model_state_262 (gl_at hl rfl) ?_
                            refine g_put (A := (fun p => d ≤ p ∧ p ≤ d + 28)) X kc_Model mo24 28 (by decide) lk_Model_202 rfl rfl rfl (Nat.le_of_ble_eq_true rfl) d_Model_state_264 ⟨by omega, by omega⟩ hL (fun H26 locs h27 z28 oq29 hL => ?_)
                            have hR30 : dR D q H26 d (upd (upd (upd w 26 (nI (sN + 1))) 27 (nI t0)) 28 (nI sN)) (va_up (va_up (va_up (va_up (va_up ar 21 (upd (ar 21) x (nI sN))) 22 (upd (ar 22) sN (nI (if d_ea org srt bt v (64 * mp v) kk (d_pu kk pg pl x) (n (mp v)) = true then 1 else 0)))) 23 F) 24 G) 25 E) := hR23.putO h27 oq29
                            exact g_vret X B ⟨⟨rfl, Or.inr ⟨F, G, E, hno0, by rw [show pn = y by omega]; exact hi148_2, (by rw [show pn = y by omega, ← hi148_1]; exact (hR30.as (fun j => by unfold d_st; first | rw [if_pos hc258] | (rw [if_neg hc258]; simp only [upd]; (repeat' split) <;> first | rfl | omega | (subst_vars; rfl))) (fun _ => rfl)))⟩⟩, (z28.trans (z21.trans hzl)), fun p hp => ((oq29 p (by omega)).trans ((oq22 p (by omega)).trans (frl p (by omega))))⟩ hL d_Model_state_267 (by omega) (by omega)
                        · refine lv_aload_n X.1.1 X.1.2.1 d_Model_state_157 rfl (gl_at hl rfl) ?_
                          refine lv_iload X.1.1 X.1.2.1 d_Model_state_158 (gl_at hl rfl) ?_
                          refine lv_iload_n X.1.1 X.1.2.1 d_Model_state_160 rfl (gl_at hl rfl) ?_
                          refine g_cv (A := (fun p => d ≤ p ∧ p ≤ d + 28)) X gWS_good mw_Model_217 kc_Model mo17 (c_Model_follows l D q Hn d (upd (upd w 26 (nI (sN + 1))) 27 (nI t0)) (va_up (va_up (va_up (va_up ar 22 (upd (ar 22) sN (nI (if d_ea org srt bt v (64 * mp v) kk (d_pu kk pg pl x) (n (mp v)) = true then 1 else 0)))) 23 F) 24 G) 25 E) hRl kk hk pn pg pl hq y x (by omega) (by omega)) (fun _ _ _ => trivial) gBlind.tt rfl rfl hl.1 (Nat.le_of_ble_eq_true rfl) rfl rfl ⟨by decide, by decide⟩ ⟨by decide, by decide⟩ d_Model_state_161 (fun _ h => h.elim) hL (fun v31 H32 locs hp33 hL => ?_)
                          obtain ⟨rfl, hHe⟩ := hp33
                          rw [hHe]
                          refine lv_if_ne X.1.1 X.1.2.1 d_Model_state_164 rfl (fun hc164 => ?_) (fun hc164 => ?_)
                          · replace hc164 := gz_t hc164
                            obtain ⟨hy1, hy2, hy3, hy4⟩ := hq.2.2 y (by omega)
                            have hyk := hk (pg y) hy3
                            have ky8 := hyk.2.2.1
                            have hfl : pl y = pl x + 1 := by
                              have h9 := hc164
                              unfold d_fo at h9
                              rw [Bool.and_eq_true, decide_eq_true_iff] at h9
                              exact h9.1
                            have e8 : v_cnt (d_fo kk pg pl x) 0 (y + 1) = v_cnt (d_fo kk pg pl x) 0 y + 1 := by
                              rw [v_cnt_s0, if_pos hc164]
                            have e9 := v_cnt_mono (d_fo kk pg pl x) 0 (x := y + 1) (y := pn) (by omega)
                            refine lv_aload_n X.1.1 X.1.2.1 d_Model_state_170 rfl (gl_at hl rfl) ?_
                            refine g_get X kc_Model mo17 30 (by decide) lk_Model_81 rfl d_Model_state_171 ?_
                            refine lv_aload_n X.1.1 X.1.2.1 d_Model_state_174 rfl (gl_at hl rfl) ?_
                            refine g_get X kc_Model mo17 27 (by decide) lk_Model_199 rfl d_Model_state_175 ?_
                            refine lv_iload X.1.1 X.1.2.1 d_Model_state_178 (gl_at hl rfl) ?_
                            have ma34 : va_at D CL (d + 23, .inl (q 0, 580, .inl F)) Hn := hRl.a23
                            refine g_iast (A := (fun p => d ≤ p ∧ p ≤ d + 28)) X 0 ma34 rfl t0 (by omega) (by decide) d_Model_state_180 ⟨by omega, by omega⟩ hL (fun H35 locs h36 z37 oq38 hL => ?_)
                            have hR39 : dR D q H35 d (upd (upd w 26 (nI (sN + 1))) 27 (nI t0)) (va_up (va_up (va_up (va_up ar 22 (upd (ar 22) sN (nI (if d_ea org srt bt v (64 * mp v) kk (d_pu kk pg pl x) (n (mp v)) = true then 1 else 0)))) 23 (upd F t0 (nI sN))) 24 G) 25 E) := hRl.putB 23 (by decide) h36 oq38 rfl (fun j hj => by simp only [va_up, if_neg hj])
                            refine lv_aload_n X.1.1 X.1.2.1 d_Model_state_181 rfl (gl_at hl rfl) ?_
                            have mo40 : va_at D CL (d, .inr (10, [.int (w 0), .ref (d + 1), .int (w 2), .ref (d + 2), .ref (d + 3), .ref (d + 4), .ref (d + 5), .ref (d + 6), .int (w 8), .ref (d + 7), .ref (d + 8), .ref (d + 9), .ref (d + 10), .ref (d + 11), .ref (d + 12), .ref (d + 13), .ref (d + 14), .ref (d + 15), .ref (d + 16), .ref (d + 17), .int (w 20), .ref (d + 18), .int (w 22), .ref (d + 19), .ref (d + 20), .ref (d + 21), .int (nI (sN + 1)), .int (nI t0), .int (w 28), .ref (d + 22), .ref (d + 23), .ref (d + 24), .ref (d + 25), .ref (d + 26), .int (w 34), .ref (d + 27), .ref (d + 28), .int (w 37), .int (w 38)])) H35 := hR39.1
                            refine g_get X kc_Model mo40 31 (by decide) lk_Model_84 rfl d_Model_state_182 ?_
                            refine lv_aload_n X.1.1 X.1.2.1 d_Model_state_185 rfl (gl_at hl rfl) ?_
                            refine g_get X kc_Model mo40 27 (by decide) lk_Model_199 rfl d_Model_state_186 ?_
                            refine lv_aload_n X.1.1 X.1.2.1 d_Model_state_189 rfl (gl_at hl rfl) ?_
                            refine g_get X kc_Model mo40 5 (by decide) lk_Model_19 rfl d_Model_state_190 ?_
                            refine lv_bipush (v := nI 8) X.1.1 X.1.2.1 d_Model_state_193 (by decide) ?_
                            refine lv_aload_n X.1.1 X.1.2.1 d_Model_state_195 rfl (gl_at hl rfl) ?_
                            refine g_get X kc_Model mo40 23 (by decide) lk_Model_69 rfl d_Model_state_196 ?_
                            refine lv_iload X.1.1 X.1.2.1 d_Model_state_199 (gl_at hl rfl) ?_
                            have ma41 : va_at D CL (d + 19, .inl (q 0, 580, .inl (ar 19))) H35 := hR39.a19
                            refine g_iald X 0 ma41 rfl y (by omega) (by omega) d_Model_state_201 ?_
                            refine g_top (nI (pg y)) hy1 ?_
                            refine lv_imul X.1.1 X.1.2.1 d_Model_state_202 ?_
                            refine g_top (nI (8 * (pg y))) (pk_mul _ _) ?_
                            refine lv_aload_n X.1.1 X.1.2.1 d_Model_state_203 rfl (gl_at hl rfl) ?_
                            refine g_get X kc_Model mo40 24 (by decide) lk_Model_72 rfl d_Model_state_204 ?_
                            refine lv_iload_n X.1.1 X.1.2.1 d_Model_state_207 rfl (gl_at hl rfl) ?_
                            have ma42 : va_at D CL (d + 20, .inl (q 0, 580, .inl (ar 20))) H35 := hR39.a20
                            refine g_iald X 0 ma42 rfl x (by omega) (by omega) d_Model_state_208 ?_
                            refine g_top (nI (pl x)) hx2 ?_
                            refine lv_iadd X.1.1 X.1.2.1 d_Model_state_209 ?_
                            refine g_top (nI ((8 * (pg y)) + (pl x))) (nI_add _ _) ?_
                            have ma43 : va_at D CL (d + 4, .inl (q 0, 1536, .inl (ar 4))) H35 := hR39.a4
                            refine g_iald X 0 ma43 rfl ((8 * (pg y)) + (pl x)) (by omega) (by omega) d_Model_state_210 ?_
                            refine g_top (nI ((kk (pg y)).getD (pl x) 0)) (hyk.1 (pl x) (by omega)) ?_
                            have ma44 : va_at D CL (d + 24, .inl (q 0, 580, .inl G)) H35 := hR39.a24
                            refine g_iast (A := (fun p => d ≤ p ∧ p ≤ d + 28)) X 0 ma44 rfl t0 (by omega) (by decide) d_Model_state_211 ⟨by omega, by omega⟩ hL (fun H45 locs h46 z47 oq48 hL => ?_)
                            have hR49 : dR D q H45 d (upd (upd w 26 (nI (sN + 1))) 27 (nI t0)) (va_up (va_up (va_up (va_up ar 22 (upd (ar 22) sN (nI (if d_ea org srt bt v (64 * mp v) kk (d_pu kk pg pl x) (n (mp v)) = true then 1 else 0)))) 23 (upd F t0 (nI sN))) 24 (upd G t0 (nI ((kk (pg y)).getD (pl x) 0)))) 25 E) := hR39.putB 24 (by decide) h46 oq48 rfl (fun j hj => by simp only [va_up, if_neg hj])
                            refine lv_aload_n X.1.1 X.1.2.1 d_Model_state_212 rfl (gl_at hl rfl) ?_
                            have mo50 : va_at D CL (d, .inr (10, [.int (w 0), .ref (d + 1), .int (w 2), .ref (d + 2), .ref (d + 3), .ref (d + 4), .ref (d + 5), .ref (d + 6), .int (w 8), .ref (d + 7), .ref (d + 8), .ref (d + 9), .ref (d + 10), .ref (d + 11), .ref (d + 12), .ref (d + 13), .ref (d + 14), .ref (d + 15), .ref (d + 16), .ref (d + 17), .int (w 20), .ref (d + 18), .int (w 22), .ref (d + 19), .ref (d + 20), .ref (d + 21), .int (nI (sN + 1)), .int (nI t0), .int (w 28), .ref (d + 22), .ref (d + 23), .ref (d + 24), .ref (d + 25), .ref (d + 26), .int (w 34), .ref (d + 27), .ref (d + 28), .int (w 37), .int (w 38)])) H45 := hR49.1
                            refine g_get X kc_Model mo50 32 (by decide) lk_Model_87 rfl d_Model_state_213 ?_
                            refine lv_aload_n X.1.1 X.1.2.1 d_Model_state_216 rfl (gl_at hl rfl) ?_
                            refine g_get X kc_Model mo50 27 (by decide) lk_Model_199 rfl d_Model_state_217 ?_
                            refine lv_aload_n X.1.1 X.1.2.1 d_Model_state_220 rfl (gl_at hl rfl) ?_
                            refine g_get X kc_Model mo50 25 (by decide) lk_Model_75 rfl d_Model_state_221 ?_
                            refine lv_iload X.1.1 X.1.2.1 d_Model_state_224 (gl_at hl rfl) ?_
                            have ma51 : va_at D CL (d + 21, .inl (q 0, 580, .inl (ar 21))) H45 := hR49.a21
                            refine g_iald X 0 ma51 rfl y (by omega) (by omega) d_Model_state_226 ?_
                            have ma52 : va_at D CL (d + 25, .inl (q 0, 580, .inl E)) H45 := hR49.a25
                            refine g_iast (A := (fun p => d ≤ p ∧ p ≤ d + 28)) X 0 ma52 rfl t0 (by omega) (by decide) d_Model_state_227 ⟨by omega, by omega⟩ hL (fun H53 locs h54 z55 oq56 hL => ?_)
                            have hR57 : dR D q H53 d (upd (upd w 26 (nI (sN + 1))) 27 (nI t0)) (va_up (va_up (va_up (va_up ar 22 (upd (ar 22) sN (nI (if d_ea org srt bt v (64 * mp v) kk (d_pu kk pg pl x) (n (mp v)) = true then 1 else 0)))) 23 (upd F t0 (nI sN))) 24 (upd G t0 (nI ((kk (pg y)).getD (pl x) 0)))) 25 (upd E t0 ((ar 21) y))) := hR49.putB 25 (by decide) h54 oq56 rfl (fun j hj => by simp only [va_up, if_neg hj])
                            refine lv_aload_n X.1.1 X.1.2.1 d_Model_state_228 rfl (gl_at hl rfl) ?_
                            refine lv_dup X.1.1 X.1.2.1 d_Model_state_229 rfl ?_
                            have mo58 : va_at D CL (d, .inr (10, [.int (w 0), .ref (d + 1), .int (w 2), .ref (d + 2), .ref (d + 3), .ref (d + 4), .ref (d + 5), .ref (d + 6), .int (w 8), .ref (d + 7), .ref (d + 8), .ref (d + 9), .ref (d + 10), .ref (d + 11), .ref (d + 12), .ref (d + 13), .ref (d + 14), .ref (d + 15), .ref (d + 16), .ref (d + 17), .int (w 20), .ref (d + 18), .int (w 22), .ref (d + 19), .ref (d + 20), .ref (d + 21), .int (nI (sN + 1)), .int (nI t0), .int (w 28), .ref (d + 22), .ref (d + 23), .ref (d + 24), .ref (d + 25), .ref (d + 26), .int (w 34), .ref (d + 27), .ref (d + 28), .int (w 37), .int (w 38)])) H53 := hR57.1
                            refine g_get X kc_Model mo58 27 (by decide) lk_Model_199 rfl d_Model_state_230 ?_
                            refine lv_iconst (v := nI 1) X.1.1 X.1.2.1 d_Model_state_233 (by decide) ?_
                            refine lv_iadd X.1.1 X.1.2.1 d_Model_state_234 ?_
                            refine g_top (nI (t0 + 1)) (nI_add _ _) ?_
                            refine g_put (A := (fun p => d ≤ p ∧ p ≤ d + 28)) X kc_Model mo58 27 (by decide) lk_Model_199 rfl rfl rfl (Nat.le_of_ble_eq_true rfl) d_Model_state_235 ⟨by omega, by omega⟩ hL (fun H59 locs h60 z61 oq62 hL => ?_)
                            have hR63 : dR D q H59 d (upd (upd w 26 (nI (sN + 1))) 27 (nI (t0 + 1))) (va_up (va_up (va_up (va_up ar 22 (upd (ar 22) sN (nI (if d_ea org srt bt v (64 * mp v) kk (d_pu kk pg pl x) (n (mp v)) = true then 1 else 0)))) 23 (upd F t0 (nI sN))) 24 (upd G t0 (nI ((kk (pg y)).getD (pl x) 0)))) 25 (upd E t0 ((ar 21) y))) := hR57.putO h60 oq62
                            refine g_iinc X.1.1 X.1.2.1 (nI (y + 1)) hl 6 d_Model_state_238 rfl (nI_1 _) rfl (fun ls hl => ?_)
                            refine lv_goto X.1.1 X.1.2.1 d_Model_state_241 rfl ?_
                            exact ih148 (y + 1) (upd F t0 (nI sN)) (upd G t0 (nI ((kk (pg y)).getD (pl x) 0))) (upd E t0 ((ar 21) y)) (t0 + 1) H59 locs ls (by omega) (by omega) (by omega) (d_sx_add hi148_2 hi148_1) hR63 (z61.trans (z55.trans (z47.trans (z37.trans hzl)))) (fun p hp => ((oq62 p (by omega)).trans ((oq56 p (by omega)).trans ((oq48 p (by omega)).trans ((oq38 p (by omega)).trans (frl p (by omega))))))) hL hl
                          · replace hc164 := gz_f hc164
                            refine lv_goto X.1.1 X.1.2.1 d_Model_state_167 rfl ?_
                            refine g_iinc X.1.1 X.1.2.1 (nI (y + 1)) hl 6 d_Model_state_238 rfl (nI_1 _) rfl (fun ls hl => ?_)
                            refine lv_goto X.1.1 X.1.2.1 d_Model_state_241 rfl ?_
                            exact ih148 (y + 1) F G E t0 Hn locs ls (by omega) (by omega) (by rw [v_cnt_s0, if_neg hc164]; exact hi148_1) (d_sx_skip hi148_2 hc164) hRl hzl (fun p hp => (frl p (by omega))) hL hl
                    exact loop148 _ 0 (ar 23) (ar 24) (ar 25) tN H12 locs ls (Nat.lt_succ_self _) (Nat.zero_le _) rfl ⟨fun _ _ => ⟨rfl, rfl, rfl⟩, fun y h9 => absurd h9 (Nat.not_lt_zero y)⟩ (hR16.as (fun j => by first | rfl | (simp only [upd]; (repeat' split) <;> first | rfl | omega | (subst_vars; rfl) | (subst_vars; exact ht1.symm))) (fun j => by first | rfl | (simp only [va_up]; (repeat' split) <;> first | rfl | omega | (subst_vars; rfl)))) (z14.trans z7) (fun p hp => ((oq15 p (by omega)).trans (oq8 p (by omega)))) hL hl
                · refine lv_iload X.1.1 X.1.2.1 d_Model_state_63 (gl_at hl rfl) ?_
                  refine lv_iconst (v := (-1)) X.1.1 X.1.2.1 d_Model_state_65 (by decide) ?_
                  refine lv_icmp_ne X.1.1 X.1.2.1 d_Model_state_66 rfl (fun hc66 => ?_) (fun hc66 => ?_)
                  · exact absurd rfl hc66
                  · refine lv_aload_n X.1.1 X.1.2.1 d_Model_state_69 rfl (gl_at hl rfl) ?_
                    refine g_get X kc_Model mo1 29 (by decide) lk_Model_78 rfl d_Model_state_70 ?_
                    refine lv_iload X.1.1 X.1.2.1 d_Model_state_73 (gl_at hl rfl) ?_
                    have ma64 : va_at D CL (d + 22, .inl (q 1, 580, .inl (ar 22))) H := hR.a22
                    refine g_zald X 1 ma64 rfl s0 (by omega) (by omega) d_Model_state_75 ?_
                    refine lv_iload_n X.1.1 X.1.2.1 d_Model_state_76 rfl (gl_at hl rfl) ?_
                    refine lv_icmp_ne X.1.1 X.1.2.1 d_Model_state_77 rfl (fun hc77 => ?_) (fun hc77 => ?_)
                    · refine lv_iconst (v := (-1)) X.1.1 X.1.2.1 d_Model_state_106 (by decide) ?_
                      refine g_ist X.1.1 X.1.2.1 hl 5 d_Model_state_107 (Nat.le_of_ble_eq_true rfl) rfl (fun ls hl => ?_)
                      refine g_iinc X.1.1 X.1.2.1 (nI (s0 + 1)) hl 6 d_Model_state_109 rfl (nI_1 _) rfl (fun ls hl => ?_)
                      refine lv_goto X.1.1 X.1.2.1 d_Model_state_112 rfl ?_
                      exact ih54 (s0 + 1) none locs ls (by omega) (by omega) (fun _ => lt_s hno (fun h9 => by first | exact hc77 h9.1 | exact hc88 (by rw [hi13_1, show i = pn by omega]; exact h9.2.1) | exact hc98 h9.2.2)) (fun r h9 => by cases h9) hL hl
                    · refine lv_aload_n X.1.1 X.1.2.1 d_Model_state_80 rfl (gl_at hl rfl) ?_
                      refine lv_iload X.1.1 X.1.2.1 d_Model_state_81 (gl_at hl rfl) ?_
                      have hso := v_cnt_le (fun k => decide (ar 23 k = nI s0)) 0 tN
                      refine g_cv (A := (fun p => d ≤ p ∧ p ≤ d + 28)) X gWS_good mw_Model_220 kc_Model mo1 (c_Model_stepsOf l D q H d w ar hR tN ht1 ht2 s0) (fun _ _ _ => trivial) gBlind.tt rfl rfl hl.1 (Nat.le_of_ble_eq_true rfl) rfl rfl ⟨by decide, by decide⟩ ⟨by decide, by decide⟩ d_Model_state_83 (fun _ h => h.elim) hL (fun v65 H66 locs hp67 hL => ?_)
                      obtain ⟨rfl, hHe⟩ := hp67
                      rw [hHe]
                      refine lv_iload X.1.1 X.1.2.1 d_Model_state_86 (gl_at hl rfl) ?_
                      refine gn_ne X.1.1 X.1.2.1 (v_cnt (fun k => decide (ar 23 k = nI s0)) 0 tN) z0 (by omega) (by omega) d_Model_state_88 rfl (fun hc88 => ?_) (fun hc88 => ?_)
                      · refine lv_iconst (v := (-1)) X.1.1 X.1.2.1 d_Model_state_106 (by decide) ?_
                        refine g_ist X.1.1 X.1.2.1 hl 5 d_Model_state_107 (Nat.le_of_ble_eq_true rfl) rfl (fun ls hl => ?_)
                        refine g_iinc X.1.1 X.1.2.1 (nI (s0 + 1)) hl 6 d_Model_state_109 rfl (nI_1 _) rfl (fun ls hl => ?_)
                        refine lv_goto X.1.1 X.1.2.1 d_Model_state_112 rfl ?_
                        exact ih54 (s0 + 1) none locs ls (by omega) (by omega) (fun _ => lt_s hno (fun h9 => by first | exact hc77 h9.1 | exact hc88 (by rw [hi13_1, show i = pn by omega]; exact h9.2.1) | exact hc98 h9.2.2)) (fun r h9 => by cases h9) hL hl
                      · refine lv_aload_n X.1.1 X.1.2.1 d_Model_state_91 rfl (gl_at hl rfl) ?_
                        refine lv_iload X.1.1 X.1.2.1 d_Model_state_92 (gl_at hl rfl) ?_
                        refine lv_iload_n X.1.1 X.1.2.1 d_Model_state_94 rfl (gl_at hl rfl) ?_
                        refine g_cv (A := (fun p => d ≤ p ∧ p ≤ d + 28)) X gWS_good mw_Model_223 kc_Model mo1 (c_Model_alike l D q H d w ar hR kk hk pn pg pl hq tN ht1 ht2 s0 x hx) (fun _ _ _ => trivial) gBlind.tt rfl rfl hl.1 (Nat.le_of_ble_eq_true rfl) rfl rfl ⟨by decide, by decide⟩ ⟨by decide, by decide⟩ d_Model_state_95 (fun _ h => h.elim) hL (fun v68 H69 locs hp70 hL => ?_)
                        obtain ⟨rfl, hHe⟩ := hp70
                        rw [hHe]
                        refine lv_if_eq X.1.1 X.1.2.1 d_Model_state_98 rfl (fun hc98 => ?_) (fun hc98 => ?_)
                        · replace hc98 := gz_f hc98
                          refine lv_iconst (v := (-1)) X.1.1 X.1.2.1 d_Model_state_106 (by decide) ?_
                          refine g_ist X.1.1 X.1.2.1 hl 5 d_Model_state_107 (Nat.le_of_ble_eq_true rfl) rfl (fun ls hl => ?_)
                          refine g_iinc X.1.1 X.1.2.1 (nI (s0 + 1)) hl 6 d_Model_state_109 rfl (nI_1 _) rfl (fun ls hl => ?_)
                          refine lv_goto X.1.1 X.1.2.1 d_Model_state_112 rfl ?_
                          exact ih54 (s0 + 1) none locs ls (by omega) (by omega) (fun _ => lt_s hno (fun h9 => by first | exact hc77 h9.1 | exact hc88 (by rw [hi13_1, show i = pn by omega]; exact h9.2.1) | exact hc98 h9.2.2)) (fun r h9 => by cases h9) hL hl
                        · replace hc98 := gz_t hc98
                          refine lv_iload X.1.1 X.1.2.1 d_Model_state_101 (gl_at hl rfl) ?_
                          refine lv_goto X.1.1 X.1.2.1 d_Model_state_103 rfl ?_
                          refine g_ist X.1.1 X.1.2.1 hl 5 d_Model_state_107 (Nat.le_of_ble_eq_true rfl) rfl (fun ls hl => ?_)
                          refine g_iinc X.1.1 X.1.2.1 (nI (s0 + 1)) hl 6 d_Model_state_109 rfl (nI_1 _) rfl (fun ls hl => ?_)
                          refine lv_goto X.1.1 X.1.2.1 d_Model_state_112 rfl ?_
                          exact ih54 (s0 + 1) (some s0) locs ls (by omega) (by omega) (fun h9 => by cases h9) (fun r h9 => by
                            cases h9
                            exact ⟨by omega, hc77, by rw [show pn = i by omega, ← hi13_1]; exact hc88, hc98⟩) hL hl
            | some r0 =>
                have hr0 := hi54_2 r0 rfl
                have hr1 := hr0.1
                refine lv_aload_n X.1.1 X.1.2.1 d_Model_state_56 rfl (gl_at hl rfl) ?_
                refine g_get X kc_Model mo1 26 (by decide) lk_Model_196 rfl d_Model_state_57 ?_
                refine g_top (nI sN) hs1 ?_
                refine gn_ge X.1.1 X.1.2.1 s0 sN (by omega) (by omega) d_Model_state_60 rfl (fun hc60 => ?_) (fun hc60 => ?_)
                · refine lv_iload X.1.1 X.1.2.1 d_Model_state_115 (gl_at hl rfl) ?_
                  refine lv_iconst (v := (-1)) X.1.1 X.1.2.1 d_Model_state_117 (by decide) ?_
                  refine lv_icmp_ne X.1.1 X.1.2.1 d_Model_state_118 rfl (fun hc118 => ?_) (fun hc118 => ?_)
                  · refine lv_aload_n X.1.1 X.1.2.1 d_Model_state_244 rfl (gl_at hl rfl) ?_
                    refine g_get X kc_Model mo1 25 (by decide) lk_Model_75 rfl d_Model_state_245 ?_
                    refine lv_iload_n X.1.1 X.1.2.1 d_Model_state_248 rfl (gl_at hl rfl) ?_
                    refine lv_iload X.1.1 X.1.2.1 d_Model_state_249 (gl_at hl rfl) ?_
                    have ma71 : va_at D CL (d + 21, .inl (q 0, 580, .inl (ar 21))) H := hR.a21
                    refine g_iast (A := (fun p => d ≤ p ∧ p ≤ d + 28)) X 0 ma71 rfl x (by omega) (by decide) d_Model_state_251 ⟨by omega, by omega⟩ hL (fun H72 locs h73 z74 oq75 hL => ?_)
                    have hR76 : dR D q H72 d w (va_up ar 21 (upd (ar 21) x (nI r0))) := hR.putB 21 (by decide) h73 oq75 rfl (fun j hj => by simp only [va_up, if_neg hj])
                    refine lv_aload_n X.1.1 X.1.2.1 d_Model_state_252 rfl (gl_at hl rfl) ?_
                    have mo77 : va_at D CL (d, .inr (10, [.int (w 0), .ref (d + 1), .int (w 2), .ref (d + 2), .ref (d + 3), .ref (d + 4), .ref (d + 5), .ref (d + 6), .int (w 8), .ref (d + 7), .ref (d + 8), .ref (d + 9), .ref (d + 10), .ref (d + 11), .ref (d + 12), .ref (d + 13), .ref (d + 14), .ref (d + 15), .ref (d + 16), .ref (d + 17), .int (w 20), .ref (d + 18), .int (w 22), .ref (d + 19), .ref (d + 20), .ref (d + 21), .int (w 26), .int (w 27), .int (w 28), .ref (d + 22), .ref (d + 23), .ref (d + 24), .ref (d + 25), .ref (d + 26), .int (w 34), .ref (d + 27), .ref (d + 28), .int (w 37), .int (w 38)])) H72 := hR76.1
                    refine g_get X kc_Model mo77 24 (by decide) lk_Model_72 rfl d_Model_state_253 ?_
                    refine lv_iload_n X.1.1 X.1.2.1 d_Model_state_256 rfl (gl_at hl rfl) ?_
                    have ma78 : va_at D CL (d + 20, .inl (q 0, 580, .inl (ar 20))) H72 := hR76.a20
                    refine g_iald X 0 ma78 rfl x (by omega) (by omega) d_Model_state_257 ?_
                    refine g_top (nI (pl x)) hx2 ?_
                    refine gn_ne0 X.1.1 X.1.2.1 (pl x) (by omega) d_Model_state_258 rfl (fun hc258 => ?_) (fun hc258 => ?_)
                    · exact g_vret X B ⟨⟨rfl, Or.inl ⟨r0, hr0.1, hr0.2, (hR76.as (fun j => by unfold d_st; first | rw [if_pos hc258] | (rw [if_neg hc258]; simp only [upd]; (repeat' split) <;> first | rfl | omega | (subst_vars; rfl))) (fun _ => rfl))⟩⟩, z74, fun p hp => (oq75 p (by omega))⟩ hL d_Model_state_267 (by omega) (by omega)
                    · refine lv_aload_n X.1.1 X.1.2.1 d_Model_state_261 rfl (gl_at hl rfl) ?_
                      refine lv_iload X.1.1 X.1.2.1 d_Model_state_262 (gl_at hl rfl) ?_
                      refine g_put (A := (fun p => d ≤ p ∧ p ≤ d + 28)) X kc_Model mo77 28 (by decide) lk_Model_202 rfl rfl rfl (Nat.le_of_ble_eq_true rfl) d_Model_state_264 ⟨by omega, by omega⟩ hL (fun H79 locs h80 z81 oq82 hL => ?_)
                      have hR83 : dR D q H79 d (upd w 28 (nI r0)) (va_up ar 21 (upd (ar 21) x (nI r0))) := hR76.putO h80 oq82
                      exact g_vret X B ⟨⟨rfl, Or.inl ⟨r0, hr0.1, hr0.2, (hR83.as (fun j => by unfold d_st; first | rw [if_pos hc258] | (rw [if_neg hc258]; simp only [upd]; (repeat' split) <;> first | rfl | omega | (subst_vars; rfl))) (fun _ => rfl))⟩⟩, (z81.trans z74), fun p hp => ((oq82 p (by omega)).trans (oq75 p (by omega)))⟩ hL d_Model_state_267 (by omega) (by omega)
                  · exact absurd hc118 (d_m1 (by omega))
                · refine lv_iload X.1.1 X.1.2.1 d_Model_state_63 (gl_at hl rfl) ?_
                  refine lv_iconst (v := (-1)) X.1.1 X.1.2.1 d_Model_state_65 (by decide) ?_
                  refine lv_icmp_ne X.1.1 X.1.2.1 d_Model_state_66 rfl (fun hc66 => ?_) (fun hc66 => ?_)
                  · refine lv_iload X.1.1 X.1.2.1 d_Model_state_115 (gl_at hl rfl) ?_
                    refine lv_iconst (v := (-1)) X.1.1 X.1.2.1 d_Model_state_117 (by decide) ?_
                    refine lv_icmp_ne X.1.1 X.1.2.1 d_Model_state_118 rfl (fun hc118 => ?_) (fun hc118 => ?_)
                    · refine lv_aload_n X.1.1 X.1.2.1 d_Model_state_244 rfl (gl_at hl rfl) ?_
                      refine g_get X kc_Model mo1 25 (by decide) lk_Model_75 rfl d_Model_state_245 ?_
                      refine lv_iload_n X.1.1 X.1.2.1 d_Model_state_248 rfl (gl_at hl rfl) ?_
                      refine lv_iload X.1.1 X.1.2.1 d_Model_state_249 (gl_at hl rfl) ?_
                      have ma84 : va_at D CL (d + 21, .inl (q 0, 580, .inl (ar 21))) H := hR.a21
                      refine g_iast (A := (fun p => d ≤ p ∧ p ≤ d + 28)) X 0 ma84 rfl x (by omega) (by decide) d_Model_state_251 ⟨by omega, by omega⟩ hL (fun H85 locs h86 z87 oq88 hL => ?_)
                      have hR89 : dR D q H85 d w (va_up ar 21 (upd (ar 21) x (nI r0))) := hR.putB 21 (by decide) h86 oq88 rfl (fun j hj => by simp only [va_up, if_neg hj])
                      refine lv_aload_n X.1.1 X.1.2.1 d_Model_state_252 rfl (gl_at hl rfl) ?_
                      have mo90 : va_at D CL (d, .inr (10, [.int (w 0), .ref (d + 1), .int (w 2), .ref (d + 2), .ref (d + 3), .ref (d + 4), .ref (d + 5), .ref (d + 6), .int (w 8), .ref (d + 7), .ref (d + 8), .ref (d + 9), .ref (d + 10), .ref (d + 11), .ref (d + 12), .ref (d + 13), .ref (d + 14), .ref (d + 15), .ref (d + 16), .ref (d + 17), .int (w 20), .ref (d + 18), .int (w 22), .ref (d + 19), .ref (d + 20), .ref (d + 21), .int (w 26), .int (w 27), .int (w 28), .ref (d + 22), .ref (d + 23), .ref (d + 24), .ref (d + 25), .ref (d + 26), .int (w 34), .ref (d + 27), .ref (d + 28), .int (w 37), .int (w 38)])) H85 := hR89.1
                      refine g_get X kc_Model mo90 24 (by decide) lk_Model_72 rfl d_Model_state_253 ?_
                      refine lv_iload_n X.1.1 X.1.2.1 d_Model_state_256 rfl (gl_at hl rfl) ?_
                      have ma91 : va_at D CL (d + 20, .inl (q 0, 580, .inl (ar 20))) H85 := hR89.a20
                      refine g_iald X 0 ma91 rfl x (by omega) (by omega) d_Model_state_257 ?_
                      refine g_top (nI (pl x)) hx2 ?_
                      refine gn_ne0 X.1.1 X.1.2.1 (pl x) (by omega) d_Model_state_258 rfl (fun hc258 => ?_) (fun hc258 => ?_)
                      · exact g_vret X B ⟨⟨rfl, Or.inl ⟨r0, hr0.1, hr0.2, (hR89.as (fun j => by unfold d_st; first | rw [if_pos hc258] | (rw [if_neg hc258]; simp only [upd]; (repeat' split) <;> first | rfl | omega | (subst_vars; rfl))) (fun _ => rfl))⟩⟩, z87, fun p hp => (oq88 p (by omega))⟩ hL d_Model_state_267 (by omega) (by omega)
                      · refine lv_aload_n X.1.1 X.1.2.1 d_Model_state_261 rfl (gl_at hl rfl) ?_
                        refine lv_iload X.1.1 X.1.2.1 d_Model_state_262 (gl_at hl rfl) ?_
                        refine g_put (A := (fun p => d ≤ p ∧ p ≤ d + 28)) X kc_Model mo90 28 (by decide) lk_Model_202 rfl rfl rfl (Nat.le_of_ble_eq_true rfl) d_Model_state_264 ⟨by omega, by omega⟩ hL (fun H92 locs h93 z94 oq95 hL => ?_)
                        have hR96 : dR D q H92 d (upd w 28 (nI r0)) (va_up ar 21 (upd (ar 21) x (nI r0))) := hR89.putO h93 oq95
                        exact g_vret X B ⟨⟨rfl, Or.inl ⟨r0, hr0.1, hr0.2, (hR96.as (fun j => by unfold d_st; first | rw [if_pos hc258] | (rw [if_neg hc258]; simp only [upd]; (repeat' split) <;> first | rfl | omega | (subst_vars; rfl))) (fun _ => rfl))⟩⟩, (z94.trans z87), fun p hp => ((oq95 p (by omega)).trans (oq88 p (by omega)))⟩ hL d_Model_state_267 (by omega) (by omega)
                    · exact absurd hc118 (d_m1 (by omega))
                  · exact absurd hc66 (d_m1 (by omega))
        exact loop54 _ 0 none locs ls (Nat.lt_succ_self _) (Nat.zero_le _) (fun _ s1 h9 => absurd h9 (Nat.not_lt_zero s1)) (fun r h9 => by cases h9) hL hl
      · refine lv_iload X.1.1 X.1.2.1 d_Model_state_22 (gl_at hl rfl) ?_
        refine lv_aload_n X.1.1 X.1.2.1 d_Model_state_24 rfl (gl_at hl rfl) ?_
        refine lv_iload X.1.1 X.1.2.1 d_Model_state_25 (gl_at hl rfl) ?_
        refine lv_iload_n X.1.1 X.1.2.1 d_Model_state_27 rfl (gl_at hl rfl) ?_
        refine g_cv (A := (fun p => d ≤ p ∧ p ≤ d + 28)) X gWS_good mw_Model_217 kc_Model mo1 (c_Model_follows l D q H d w ar hR kk hk pn pg pl hq i x (by omega) (by omega)) (fun _ _ _ => trivial) gBlind.tt rfl rfl hl.1 (Nat.le_of_ble_eq_true rfl) rfl rfl ⟨by decide, by decide⟩ ⟨by decide, by decide⟩ d_Model_state_28 (fun _ h => h.elim) hL (fun v97 H98 locs hp99 hL => ?_)
        obtain ⟨rfl, hHe⟩ := hp99
        rw [hHe]
        refine lv_if_eq X.1.1 X.1.2.1 d_Model_state_31 rfl (fun hc31 => ?_) (fun hc31 => ?_)
        · replace hc31 := gz_f hc31
          refine lv_iconst (v := nI 0) X.1.1 X.1.2.1 d_Model_state_38 (by decide) ?_
          refine lv_iadd X.1.1 X.1.2.1 d_Model_state_39 ?_
          refine g_top (nI (z0 + 0)) (nI_add _ _) ?_
          refine g_ist X.1.1 X.1.2.1 hl 4 d_Model_state_40 (Nat.le_of_ble_eq_true rfl) rfl (fun ls hl => ?_)
          refine g_iinc X.1.1 X.1.2.1 (nI (i + 1)) hl 5 d_Model_state_42 rfl (nI_1 _) rfl (fun ls hl => ?_)
          refine lv_goto X.1.1 X.1.2.1 d_Model_state_45 rfl ?_
          exact ih13 (i + 1) (z0 + 0) locs ls (by omega) (by omega) (by
            rw [v_cnt_s0]
            first
            | rw [if_pos hc31, ← hi13_1]
            | rw [if_neg hc31, ← hi13_1]) hL hl
        · replace hc31 := gz_t hc31
          refine lv_iconst (v := nI 1) X.1.1 X.1.2.1 d_Model_state_34 (by decide) ?_
          refine lv_goto X.1.1 X.1.2.1 d_Model_state_35 rfl ?_
          refine lv_iadd X.1.1 X.1.2.1 d_Model_state_39 ?_
          refine g_top (nI (z0 + 1)) (nI_add _ _) ?_
          refine g_ist X.1.1 X.1.2.1 hl 4 d_Model_state_40 (Nat.le_of_ble_eq_true rfl) rfl (fun ls hl => ?_)
          refine g_iinc X.1.1 X.1.2.1 (nI (i + 1)) hl 5 d_Model_state_42 rfl (nI_1 _) rfl (fun ls hl => ?_)
          refine lv_goto X.1.1 X.1.2.1 d_Model_state_45 rfl ?_
          exact ih13 (i + 1) (z0 + 1) locs ls (by omega) (by omega) (by
            rw [v_cnt_s0]
            first
            | rw [if_pos hc31, ← hi13_1]
            | rw [if_neg hc31, ← hi13_1]) hL hl
  exact loop13 _ 0 0 locs ls (Nat.lt_succ_self _) (Nat.zero_le _) rfl hL hl
