/-! counting and ranks: pure -/
def v_cnt (p : Nat → Bool) (a : Nat) : Nat → Nat
  | 0 => 0
  | k + 1 => v_cnt p a k + if p (a + k) = true then 1 else 0
theorem v_cnt_le (p : Nat → Bool) (a : Nat) : ∀ k, v_cnt p a k ≤ k
  | 0 => Nat.le_refl 0
  | k + 1 => by
    have h := v_cnt_le p a k
    unfold v_cnt
    split <;> omega
theorem v_cnt_s {p : Nat → Bool} {a i : Nat} (h : a ≤ i) : v_cnt p a (i + 1 - a) = v_cnt p a (i - a) + if p i = true then 1 else 0 := by
  rw [show i + 1 - a = (i - a) + 1 by omega, v_cnt, show a + (i - a) = i by omega]
def v_o (tn : Nat) (ks : Nat → List Nat) (ys : List Nat) (i : Nat) : Int := if tn ≠ 0 then t_ord ys (ks i) else t_ord (ks i) ys
def v_bef (tn sm : Nat) (ks : Nat → List Nat) (ys : List Nat) (i : Nat) : Bool := decide (v_o tn ks ys i < 0 ∨ (sm ≠ 0 ∧ v_o tn ks ys i = 0))
theorem v_bef_t1 {tn sm : Nat} {ks : Nat → List Nat} {ys : List Nat} {i : Nat} {r : Int32} (h : r.toInt = v_o tn ks ys i) (h1 : r < 0) : v_bef tn sm ks ys i = true := by
  unfold v_bef
  rw [decide_eq_true_eq, ← h]
  exact Or.inl (gi_lt h1)
theorem v_bef_t2 {tn sm : Nat} {ks : Nat → List Nat} {ys : List Nat} {i : Nat} {r : Int32} (h : r.toInt = v_o tn ks ys i) (h1 : sm ≠ 0) (h2 : r = 0) : v_bef tn sm ks ys i = true := by
  unfold v_bef
  rw [decide_eq_true_eq, ← h]
  exact Or.inr ⟨h1, gi_eq h2⟩
theorem v_bef_f1 {tn sm : Nat} {ks : Nat → List Nat} {ys : List Nat} {i : Nat} {r : Int32} (h : r.toInt = v_o tn ks ys i) (h0 : ¬ r < 0) (h1 : sm = 0) : v_bef tn sm ks ys i = false := by
  unfold v_bef
  rw [decide_eq_false_iff_not, ← h]
  rintro (h2 | h2)
  · have := gi_nlt h0
    omega
  · exact h2.1 h1
theorem v_bef_f2 {tn sm : Nat} {ks : Nat → List Nat} {ys : List Nat} {i : Nat} {r : Int32} (h : r.toInt = v_o tn ks ys i) (h0 : ¬ r < 0) (h1 : ¬ r = 0) : v_bef tn sm ks ys i = false := by
  unfold v_bef
  rw [decide_eq_false_iff_not, ← h]
  rintro (h2 | h2)
  · have := gi_nlt h0
    omega
  · exact gi_ne h1 h2.2
/-- a number, or -1 for none -/
def gm1 : Option Nat → Int32
  | none => -1
  | some r => nI r
theorem gm1_le_none {a : Nat} (ha : a < 2 ^ 31) : ¬ nI a ≤ gm1 none := by
  intro h
  have h1 := Int32.le_iff_toInt_le.mp h
  rw [nI_toInt ha] at h1
  have h2 : (gm1 none).toInt = -1 := by decide
  omega
theorem gm1_le_some {a b : Nat} (ha : a < 2 ^ 31) (hb : b < 2 ^ 31) : nI a ≤ gm1 (some b) ↔ a ≤ b := nI_leI ha hb
/-- the place of the key of rank k -/
def v_pl (tn f0 t0 k : Nat) : Nat := if tn ≠ 0 then t0 - 1 - k else f0 + k
theorem v_pl_in {tn f0 t0 k : Nat} (h : f0 + k < t0) : f0 ≤ v_pl tn f0 t0 k ∧ v_pl tn f0 t0 k < t0 := by
  unfold v_pl
  split <;> omega
/-- of the first m ranks, the rank of the longest key with which ys begins -/
def v_long (tn f0 t0 : Nat) (ks : Nat → List Nat) (ys : List Nat) (m : Nat) : Option Nat → Prop
  | none => ∀ k, k < m → t_lcp ys (ks (v_pl tn f0 t0 k)) ≠ (ks (v_pl tn f0 t0 k)).length
  | some r => r < m ∧ t_lcp ys (ks (v_pl tn f0 t0 r)) = (ks (v_pl tn f0 t0 r)).length ∧ ∀ k, k < m → t_lcp ys (ks (v_pl tn f0 t0 k)) = (ks (v_pl tn f0 t0 k)).length → (ks (v_pl tn f0 t0 k)).length ≤ (ks (v_pl tn f0 t0 r)).length
theorem v_long_0 {tn f0 t0 : Nat} {ks : Nat → List Nat} {ys : List Nat} : v_long tn f0 t0 ks ys 0 none := fun k h => absurd h (Nat.not_lt_zero k)
theorem v_long_keep {tn f0 t0 m : Nat} {ks : Nat → List Nat} {ys : List Nat} {w : Option Nat} (h : v_long tn f0 t0 ks ys m w) (hk : t_lcp ys (ks (v_pl tn f0 t0 m)) = (ks (v_pl tn f0 t0 m)).length → ∃ r, w = some r ∧ (ks (v_pl tn f0 t0 m)).length ≤ (ks (v_pl tn f0 t0 r)).length) : v_long tn f0 t0 ks ys (m + 1) w := by
  cases w with
  | none =>
    intro k hk1
    by_cases h9 : k = m
    · rw [h9]
      intro h8
      obtain ⟨r, hr, -⟩ := hk h8
      cases hr
    · exact h k (by omega)
  | some r =>
    obtain ⟨h1, h2, h3⟩ := h
    refine ⟨by omega, h2, fun k hk1 hk2 => ?_⟩
    by_cases h9 : k = m
    · rw [h9] at hk2 ⊢
      obtain ⟨r', hr, hle⟩ := hk hk2
      cases hr
      exact hle
    · exact h3 k (by omega) hk2
theorem v_long_new {tn f0 t0 m : Nat} {ks : Nat → List Nat} {ys : List Nat} {w : Option Nat} (h : v_long tn f0 t0 ks ys m w) (hp : t_lcp ys (ks (v_pl tn f0 t0 m)) = (ks (v_pl tn f0 t0 m)).length) (hl : ∀ r, w = some r → (ks (v_pl tn f0 t0 r)).length < (ks (v_pl tn f0 t0 m)).length) : v_long tn f0 t0 ks ys (m + 1) (some m) := by
  refine ⟨by omega, hp, fun k hk1 hk2 => ?_⟩
  by_cases h9 : k = m
  · rw [h9]
    exact Nat.le_refl _
  · cases w with
    | none => exact absurd hk2 (h k (by omega))
    | some r =>
      have h1 := h.2.2 k (by omega) hk2
      have h2 := hl r rfl
      omega
/-- what rankBy answers -/
def v_rk (tn f0 t0 : Nat) (ks : Nat → List Nat) (ys : List Nat) (h : Nat) (r : Int32) : Prop := match h with
  | 0 => r = nI (v_cnt (v_bef tn 1 ks ys) f0 (t0 - f0)) - 1
  | 1 => r = nI (v_cnt (v_bef tn 0 ks ys) f0 (t0 - f0)) - 1
  | 2 => r = nI (v_cnt (v_bef tn 0 ks ys) f0 (t0 - f0))
  | 3 => r = nI (v_cnt (v_bef tn 1 ks ys) f0 (t0 - f0))
  | 4 => r = nI 0
  | 5 => r = nI (t0 - f0) - 1
  | _ => ∃ w, r = gm1 w ∧ v_long tn f0 t0 ks ys (t0 - f0) w
section GN
variable {p : Program} {l : Launch} {e : Env} {R : Room} {s : State} {m : MethodId} {args : Array Value} {below : List Frame} {meth : Method} {c : Code} {H : Heap} {locs : List Loc} {cells slots : Nat} {Q : State → Prop}
variable {cc : ByteArray} {nL pc : Nat} {ls : Array Slot} {rest : List Value} {D : va_G} {cl : List vw_C} {A A1 : Nat → Prop} {tys : List (ClassId × FieldType)} {own host : String} {index : Nat} {Ts : List Cond} {Post' : Option Value → Heap → Prop} {mc ms : Nat} {E : State → Prop}
variable {y : MethodName} {bytes : ByteArray} {maxL n : Nat} {rm : Room} {b : Nat} {As st : List Value}
/-- a nest mate's private constructor -/
theorem g_cin (X : gX p m c cc nL s args own Ts D cl tys) (hG : gGood Ts) (hN : va_Nw (.methodLinkNest own index y host) s) (w2 : Cond.instanceMethod y ∈ Ts) (w3 : Cond.initialized y.cls ∈ Ts) (w4 : Cond.code y bytes maxL none ∈ Ts) (hy : y.name = "<init>") (hd : y.cls ≠ "java/lang/invoke/MethodHandle" ∧ y.cls ≠ "java/lang/invoke/VarHandle" ∧ (parseMethodDescriptor y.desc).map (fun d => d.parameters.length) = some n)
    (hM : gC l y (Cond.code y bytes maxL none :: Ts) rm D cl tys E (.ref b :: As) H Post' mc ms A1) (hE : ∀ U : State, U.heap = H → s.WarmedH U.vm → E U) (hEb : gBlind E)
    (hn : As.length = n) (hst : st = As.reverse ++ .ref b :: rest) (hls : ls.size = nL) (hW : (rest.map fun v => v.category).sum ≤ 8) (hrc : rm.cells = mc) (hrs : rm.slots = ms) (hR : rm.frames + 1 ≤ R.frames ∧ 8 + (maxL + 11) + rm.locals ≤ R.locals) (hf : cells + mc ≤ R.cells ∧ slots + ms ≤ R.slots)
    (hdg : decode cc pc = .ok (.invokespecial index, 3)) (hA : ∀ q, A1 q → A q) (hL : ∀ x ∈ locs, A x.base)
    (kk : ∀ (v : Option Value) (H1 : Heap) (locs1 : List Loc), Post' v H1 → (∀ x ∈ locs1, A x.base) → W p l e R s m args below meth c H1 locs1 (cells + mc) (slots + ms) Q (F0 m (pc + 3) ls (v.toList ++ rest))) : W p l e R s m args below meth c H locs cells slots Q (F0 m pc ls st) := by
  have hin : ∀ w' ∈ (Cond.code y bytes maxL none :: Ts), w' ∈ Ts := by
    intro w' hw'
    rcases List.mem_cons.mp hw' with h | h
    · rw [h]; exact w4
    · exact h
  have cn := va_cnB (R := R) (own := own) (host := host) (index := index) (rm := rm) (mc := mc) (ms := ms) n X.1.2.2.2.2 (hG.in hin) rfl hrc hrs hN (X.1.2.2.2.2 _ w3) hd hR
  exact g_run (va_runIN (As := As) (b := b) (rest := rest) X.1 hM ⟨cn, hy, X.1.2.2.2.2 _ w2⟩ (g_pre (As := .ref b :: As) X.2 hE hEb) rfl hn hls hst (lv_room hW) hdg hf) hA hL kk
end GN
theorem gz_n {x : Nat} (h : x ≤ 1) : narrow .boolean (.int (nI x)) = .int (nI x) := by
  rcases (show x = 0 ∨ x = 1 by omega) with rfl | rfl <;> decide
/-- whether a view made so of another is turned -/
def v_tn (srt otn : Nat) : Nat := if (if srt = 3 then 1 else 0) = otn then 0 else 1
theorem v_tn_le (srt otn : Nat) : v_tn srt otn ≤ 1 := by
  unfold v_tn
  split <;> split <;> omega
theorem gz_fit {x : Nat} (h : x ≤ 1) : fits .boolean (.int (nI x)) = true := by
  rcases (show x = 0 ∨ x = 1 by omega) with rfl | rfl <;> decide
