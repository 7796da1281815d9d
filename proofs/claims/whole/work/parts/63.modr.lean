/-! the class KeyHallModel: its picture. printed by wip/specs/modr.py -/
def dn : Nat → Nat := fun k => match k with
  | 1 => 8
  | 2 => 3
  | 3 => 3
  | 4 => 1536
  | 5 => 192
  | 6 => 192
  | 7 => 12
  | 8 => 12
  | 9 => 12
  | 10 => 96
  | 11 => 12
  | 12 => 12
  | 13 => 12
  | 14 => 12
  | 15 => 12
  | 16 => 96
  | 17 => 8
  | 18 => 140
  | 19 => 580
  | 20 => 580
  | 21 => 580
  | 22 => 580
  | 23 => 580
  | 24 => 580
  | 25 => 580
  | 26 => 120
  | 27 => 2520
  | _ => 21
def dt : Nat → Nat := fun k => match k with
  | 11 => 1
  | 12 => 1
  | 13 => 1
  | 18 => 1
  | 22 => 1
  | _ => 0
/-- the object: its ints by field number, its arrays behind it -/
def dO (D : va_G) (H : Heap) (d : Nat) (w : Nat → Int32) : Prop := va_at D CL (d, .inr (10, [.int (w 0), .ref (d + 1), .int (w 2), .ref (d + 2), .ref (d + 3), .ref (d + 4), .ref (d + 5), .ref (d + 6), .int (w 8), .ref (d + 7), .ref (d + 8), .ref (d + 9), .ref (d + 10), .ref (d + 11), .ref (d + 12), .ref (d + 13), .ref (d + 14), .ref (d + 15), .ref (d + 16), .ref (d + 17), .int (w 20), .ref (d + 18), .int (w 22), .ref (d + 19), .ref (d + 20), .ref (d + 21), .int (w 26), .int (w 27), .int (w 28), .ref (d + 22), .ref (d + 23), .ref (d + 24), .ref (d + 25), .ref (d + 26), .int (w 34), .ref (d + 27), .ref (d + 28), .int (w 37), .int (w 38)])) H
def dR (D : va_G) (q : Nat → ClassId) (H : Heap) (d : Nat) (w : Nat → Int32) (ar : Nat → Nat → Int32) : Prop := dO D H d w ∧ ∀ k, 1 ≤ k ∧ k ≤ 28 → va_at D CL (d + k, .inl (q (dt k), dn k, .inl (ar k))) H
theorem dR.a1 {D : va_G} {q : Nat → ClassId} {H : Heap} {d : Nat} {w : Nat → Int32} {ar : Nat → Nat → Int32} (h : dR D q H d w ar) : va_at D CL (d + 1, .inl (q 0, 8, .inl (ar 1))) H := h.2 1 (by decide)
theorem dR.a2 {D : va_G} {q : Nat → ClassId} {H : Heap} {d : Nat} {w : Nat → Int32} {ar : Nat → Nat → Int32} (h : dR D q H d w ar) : va_at D CL (d + 2, .inl (q 0, 3, .inl (ar 2))) H := h.2 2 (by decide)
theorem dR.a3 {D : va_G} {q : Nat → ClassId} {H : Heap} {d : Nat} {w : Nat → Int32} {ar : Nat → Nat → Int32} (h : dR D q H d w ar) : va_at D CL (d + 3, .inl (q 0, 3, .inl (ar 3))) H := h.2 3 (by decide)
theorem dR.a4 {D : va_G} {q : Nat → ClassId} {H : Heap} {d : Nat} {w : Nat → Int32} {ar : Nat → Nat → Int32} (h : dR D q H d w ar) : va_at D CL (d + 4, .inl (q 0, 1536, .inl (ar 4))) H := h.2 4 (by decide)
theorem dR.a5 {D : va_G} {q : Nat → ClassId} {H : Heap} {d : Nat} {w : Nat → Int32} {ar : Nat → Nat → Int32} (h : dR D q H d w ar) : va_at D CL (d + 5, .inl (q 0, 192, .inl (ar 5))) H := h.2 5 (by decide)
theorem dR.a6 {D : va_G} {q : Nat → ClassId} {H : Heap} {d : Nat} {w : Nat → Int32} {ar : Nat → Nat → Int32} (h : dR D q H d w ar) : va_at D CL (d + 6, .inl (q 0, 192, .inl (ar 6))) H := h.2 6 (by decide)
theorem dR.a7 {D : va_G} {q : Nat → ClassId} {H : Heap} {d : Nat} {w : Nat → Int32} {ar : Nat → Nat → Int32} (h : dR D q H d w ar) : va_at D CL (d + 7, .inl (q 0, 12, .inl (ar 7))) H := h.2 7 (by decide)
theorem dR.a8 {D : va_G} {q : Nat → ClassId} {H : Heap} {d : Nat} {w : Nat → Int32} {ar : Nat → Nat → Int32} (h : dR D q H d w ar) : va_at D CL (d + 8, .inl (q 0, 12, .inl (ar 8))) H := h.2 8 (by decide)
theorem dR.a9 {D : va_G} {q : Nat → ClassId} {H : Heap} {d : Nat} {w : Nat → Int32} {ar : Nat → Nat → Int32} (h : dR D q H d w ar) : va_at D CL (d + 9, .inl (q 0, 12, .inl (ar 9))) H := h.2 9 (by decide)
theorem dR.a10 {D : va_G} {q : Nat → ClassId} {H : Heap} {d : Nat} {w : Nat → Int32} {ar : Nat → Nat → Int32} (h : dR D q H d w ar) : va_at D CL (d + 10, .inl (q 0, 96, .inl (ar 10))) H := h.2 10 (by decide)
theorem dR.a11 {D : va_G} {q : Nat → ClassId} {H : Heap} {d : Nat} {w : Nat → Int32} {ar : Nat → Nat → Int32} (h : dR D q H d w ar) : va_at D CL (d + 11, .inl (q 1, 12, .inl (ar 11))) H := h.2 11 (by decide)
theorem dR.a12 {D : va_G} {q : Nat → ClassId} {H : Heap} {d : Nat} {w : Nat → Int32} {ar : Nat → Nat → Int32} (h : dR D q H d w ar) : va_at D CL (d + 12, .inl (q 1, 12, .inl (ar 12))) H := h.2 12 (by decide)
theorem dR.a13 {D : va_G} {q : Nat → ClassId} {H : Heap} {d : Nat} {w : Nat → Int32} {ar : Nat → Nat → Int32} (h : dR D q H d w ar) : va_at D CL (d + 13, .inl (q 1, 12, .inl (ar 13))) H := h.2 13 (by decide)
theorem dR.a14 {D : va_G} {q : Nat → ClassId} {H : Heap} {d : Nat} {w : Nat → Int32} {ar : Nat → Nat → Int32} (h : dR D q H d w ar) : va_at D CL (d + 14, .inl (q 0, 12, .inl (ar 14))) H := h.2 14 (by decide)
theorem dR.a15 {D : va_G} {q : Nat → ClassId} {H : Heap} {d : Nat} {w : Nat → Int32} {ar : Nat → Nat → Int32} (h : dR D q H d w ar) : va_at D CL (d + 15, .inl (q 0, 12, .inl (ar 15))) H := h.2 15 (by decide)
theorem dR.a16 {D : va_G} {q : Nat → ClassId} {H : Heap} {d : Nat} {w : Nat → Int32} {ar : Nat → Nat → Int32} (h : dR D q H d w ar) : va_at D CL (d + 16, .inl (q 0, 96, .inl (ar 16))) H := h.2 16 (by decide)
theorem dR.a17 {D : va_G} {q : Nat → ClassId} {H : Heap} {d : Nat} {w : Nat → Int32} {ar : Nat → Nat → Int32} (h : dR D q H d w ar) : va_at D CL (d + 17, .inl (q 0, 8, .inl (ar 17))) H := h.2 17 (by decide)
theorem dR.a18 {D : va_G} {q : Nat → ClassId} {H : Heap} {d : Nat} {w : Nat → Int32} {ar : Nat → Nat → Int32} (h : dR D q H d w ar) : va_at D CL (d + 18, .inl (q 1, 140, .inl (ar 18))) H := h.2 18 (by decide)
theorem dR.a19 {D : va_G} {q : Nat → ClassId} {H : Heap} {d : Nat} {w : Nat → Int32} {ar : Nat → Nat → Int32} (h : dR D q H d w ar) : va_at D CL (d + 19, .inl (q 0, 580, .inl (ar 19))) H := h.2 19 (by decide)
theorem dR.a20 {D : va_G} {q : Nat → ClassId} {H : Heap} {d : Nat} {w : Nat → Int32} {ar : Nat → Nat → Int32} (h : dR D q H d w ar) : va_at D CL (d + 20, .inl (q 0, 580, .inl (ar 20))) H := h.2 20 (by decide)
theorem dR.a21 {D : va_G} {q : Nat → ClassId} {H : Heap} {d : Nat} {w : Nat → Int32} {ar : Nat → Nat → Int32} (h : dR D q H d w ar) : va_at D CL (d + 21, .inl (q 0, 580, .inl (ar 21))) H := h.2 21 (by decide)
theorem dR.a22 {D : va_G} {q : Nat → ClassId} {H : Heap} {d : Nat} {w : Nat → Int32} {ar : Nat → Nat → Int32} (h : dR D q H d w ar) : va_at D CL (d + 22, .inl (q 1, 580, .inl (ar 22))) H := h.2 22 (by decide)
theorem dR.a23 {D : va_G} {q : Nat → ClassId} {H : Heap} {d : Nat} {w : Nat → Int32} {ar : Nat → Nat → Int32} (h : dR D q H d w ar) : va_at D CL (d + 23, .inl (q 0, 580, .inl (ar 23))) H := h.2 23 (by decide)
theorem dR.a24 {D : va_G} {q : Nat → ClassId} {H : Heap} {d : Nat} {w : Nat → Int32} {ar : Nat → Nat → Int32} (h : dR D q H d w ar) : va_at D CL (d + 24, .inl (q 0, 580, .inl (ar 24))) H := h.2 24 (by decide)
theorem dR.a25 {D : va_G} {q : Nat → ClassId} {H : Heap} {d : Nat} {w : Nat → Int32} {ar : Nat → Nat → Int32} (h : dR D q H d w ar) : va_at D CL (d + 25, .inl (q 0, 580, .inl (ar 25))) H := h.2 25 (by decide)
theorem dR.a26 {D : va_G} {q : Nat → ClassId} {H : Heap} {d : Nat} {w : Nat → Int32} {ar : Nat → Nat → Int32} (h : dR D q H d w ar) : va_at D CL (d + 26, .inl (q 0, 120, .inl (ar 26))) H := h.2 26 (by decide)
theorem dR.a27 {D : va_G} {q : Nat → ClassId} {H : Heap} {d : Nat} {w : Nat → Int32} {ar : Nat → Nat → Int32} (h : dR D q H d w ar) : va_at D CL (d + 27, .inl (q 0, 2520, .inl (ar 27))) H := h.2 27 (by decide)
theorem dR.a28 {D : va_G} {q : Nat → ClassId} {H : Heap} {d : Nat} {w : Nat → Int32} {ar : Nat → Nat → Int32} (h : dR D q H d w ar) : va_at D CL (d + 28, .inl (q 0, 21, .inl (ar 28))) H := h.2 28 (by decide)
theorem dR.putO {D : va_G} {q : Nat → ClassId} {H H1 : Heap} {d : Nat} {w w1 : Nat → Int32} {ar : Nat → Nat → Int32} (h : dR D q H d w ar) (h1 : dO D H1 d w1) (oq : ∀ p : Nat, p ≠ d → H1[p]? = H[p]?) : dR D q H1 d w1 ar := ⟨h1, fun k hk => va_at.kept (h.2 k hk) (oq _ (by omega))⟩
theorem dR.putA {D : va_G} {q : Nat → ClassId} {H H1 : Heap} {d : Nat} {w : Nat → Int32} {ar : Nat → Nat → Int32} (h : dR D q H d w ar) (k : Nat) (hk : 1 ≤ k ∧ k ≤ 28) {F : Nat → Int32} (h1 : va_at D CL (d + k, .inl (q (dt k), dn k, .inl F)) H1) (oq : ∀ p : Nat, p ≠ d + k → H1[p]? = H[p]?) : dR D q H1 d w (va_up ar k F) := by
  refine ⟨va_at.kept h.1 (oq _ (by omega)), fun j hj => ?_⟩
  by_cases e : j = k
  · subst e
    have e1 : va_up ar j F j = F := if_pos rfl
    rw [e1]
    exact h1
  · have e1 : va_up ar k F j = ar j := if_neg e
    rw [e1]
    exact va_at.kept (h.2 j hj) (oq _ (by omega))
theorem dR.putB {D : va_G} {q : Nat → ClassId} {H H1 : Heap} {d : Nat} {w : Nat → Int32} {ar : Nat → Nat → Int32} (h : dR D q H d w ar) (k : Nat) (hk : 1 ≤ k ∧ k ≤ 28) {F : Nat → Int32} (h1 : va_at D CL (d + k, .inl (q (dt k), dn k, .inl F)) H1) (oq : ∀ p : Nat, p ≠ d + k → H1[p]? = H[p]?) {ar1 : Nat → Nat → Int32} (e1 : ar1 k = F) (e2 : ∀ j, j ≠ k → ar1 j = ar j) : dR D q H1 d w ar1 := by
  refine ⟨va_at.kept h.1 (oq _ (by omega)), fun j hj => ?_⟩
  by_cases e : j = k
  · subst e
    rw [e1]
    exact h1
  · rw [e2 j e]
    exact va_at.kept (h.2 j hj) (oq _ (by omega))
theorem dR.as {D : va_G} {q : Nat → ClassId} {H : Heap} {d : Nat} {w w1 : Nat → Int32} {ar ar1 : Nat → Nat → Int32} (h : dR D q H d w ar) (e1 : ∀ j, w1 j = w j) (e2 : ∀ j, ar1 j = ar j) : dR D q H d w1 ar1 := by
  rw [show w1 = w from funext e1, show ar1 = ar from funext e2]
  exact h
theorem dR.kept {D : va_G} {q : Nat → ClassId} {H H1 : Heap} {d : Nat} {w : Nat → Int32} {ar : Nat → Nat → Int32} (h : dR D q H d w ar) (fr : ∀ p : Nat, d ≤ p → p ≤ d + 28 → H1[p]? = H[p]?) : dR D q H1 d w ar := ⟨va_at.kept h.1 (fr _ (by omega) (by omega)), fun k hk => va_at.kept (h.2 k hk) (fr _ (by omega) (by omega))⟩
/-- an int array that holds the text xs from place o on -/
def tXo (f : Nat → Int32) (o : Nat) (xs : List Nat) : Prop := ∀ j, j < xs.length → f (o + j) = nI (xs.getD j 0)
abbrev t16 (xs : List Nat) : Prop := ∀ z ∈ xs, z < 65536
/-- what was typed -/
def pT (w : Nat → Int32) (ar : Nat → Nat → Int32) (tp : List Nat) : Prop := w 2 = nI tp.length ∧ tXo (ar 1) 0 tp ∧ tp.length ≤ 8 ∧ t16 tp
/-- the keys of all places -/
def pK (ar : Nat → Nat → Int32) (kk : Nat → List Nat) : Prop := ∀ g, g < 192 → tXo (ar 4) (8 * g) (kk g) ∧ ar 5 g = nI (kk g).length ∧ (kk g).length ≤ 8 ∧ t16 (kk g)
/-- how many keys a map has, and how often it changed -/
def pM (ar : Nat → Nat → Int32) (n chg : Nat → Nat) : Prop := ∀ m, m < 3 → ar 2 m = nI (n m) ∧ n m ≤ 64 ∧ ar 3 m = nI (chg m)
/-- the views -/
def pV (w : Nat → Int32) (ar : Nat → Nat → Int32) (c0 : Nat) (org : Nat → Option Nat) (srt : Nat → Nat) (bt : Nat → List Nat) : Prop := w 8 = nI c0 ∧ 3 ≤ c0 ∧ c0 ≤ 12 ∧ ∀ k, k < c0 → ar 7 k = gm1 (org k) ∧ (∀ j, org k = some j → ar 8 k = nI (srt k) ∧ ar 9 k = nI (bt k).length ∧ tXo (ar 10) (8 * k) (bt k)) ∧ (bt k).length ≤ 8 ∧ t16 (bt k)
/-- how views hang together -/
def pN (c0 : Nat) (org : Nat → Option Nat) (srt tn mp : Nat → Nat) : Prop := ∀ k, k < c0 → mp k < 3 ∧ tn k ≤ 1 ∧ (org k = none → mp k = k ∧ tn k = 0 ∧ srt k = 4) ∧ ∀ j, org k = some j → j < k ∧ mp k = mp j ∧ tn k = v_tn (srt k) (tn j) ∧ srt k ≤ 3
/-- the text that was found last -/
def pF (w : Nat → Int32) (ar : Nat → Nat → Int32) (tl : List Nat) : Prop := w 20 = nI tl.length ∧ tXo (ar 17) 0 tl ∧ tl.length ≤ 8 ∧ t16 tl
theorem d_bo {t : Nat} (h : t ≤ 1) : narrow .boolean (.int (nI t)) = .int (nI t) := by
  rcases (show t = 0 ∨ t = 1 by omega) with e | e <;> subst e <;> decide
theorem d_neg {r : Int32} (h1 : -65536 ≤ r.toInt) (h2 : r.toInt ≤ 65536) : (-r).toInt = - r.toInt := by
  rw [Int32.toInt_neg]
  exact Int.bmod_eq_of_le (by omega) (by omega)
theorem gi_le0 {r : Int32} (h : r ≤ 0) : r.toInt ≤ 0 := by simpa using Int32.le_iff_toInt_le.mp h
theorem gi_nle0 {r : Int32} (h : ¬ r ≤ 0) : 0 < r.toInt := by
  have h1 := mt Int32.le_iff_toInt_le.mpr h
  simpa using h1
theorem d_m1 {j : Nat} (h : j < 2 ^ 31) : nI j ≠ -1 := by
  intro h1
  have h2 := congrArg Int32.toInt h1
  rw [nI_toInt h] at h2
  have h3 : (-1 : Int32).toInt = -1 := by decide
  omega
theorem pV.none {w : Nat → Int32} {ar : Nat → Nat → Int32} {c0 : Nat} {org : Nat → Option Nat} {srt tn mp : Nat → Nat} {bt : Nat → List Nat} (h : pV w ar c0 org srt bt) (hN : pN c0 org srt tn mp) {k : Nat} (hk : k < c0) (e : ar 7 k = -1) : org k = none := by
  cases ho : org k with
  | none => rfl
  | some j =>
    have h1 := (h.2.2.2 k hk).1
    rw [ho, e] at h1
    have h2 := (hN k hk).2.2.2 j ho
    exact absurd h1.symm (d_m1 (by have := h.2.2.1; omega))
theorem pV.some {w : Nat → Int32} {ar : Nat → Nat → Int32} {c0 : Nat} {org : Nat → Option Nat} {srt : Nat → Nat} {bt : Nat → List Nat} (h : pV w ar c0 org srt bt) {k : Nat} (hk : k < c0) (e : ¬ ar 7 k = -1) : ∃ j, org k = some j ∧ ar 7 k = nI j := by
  have h1 := (h.2.2.2 k hk).1
  cases ho : org k with
  | none => rw [ho] at h1; exact absurd h1 e
  | some j => rw [ho] at h1; exact ⟨j, rfl, h1⟩
theorem v_in_some {org : Nat → Option Nat} {srt : Nat → Nat} {bt : Nat → List Nat} {xs : List Nat} {k j : Nat} (ho : ∀ a, a ≤ k → ∀ b, org a = some b → b < a) (h : org k = some j) : v_in org srt bt k xs = (v_ok (srt k) (bt k) xs && v_in org srt bt j xs) := by
  have hlt := ho k (Nat.le_refl _) j h
  show (v_ok (srt k) (bt k) xs && (match org k with | none => true | some j => v_adm org srt bt xs k j)) = _
  rw [h]
  show (_ && v_adm org srt bt xs k j) = (_ && v_adm org srt bt xs (j + 1) j)
  rw [v_adm_fuel ho k (j + 1) j (by omega) (by omega) (by omega)]
theorem v_in_none {org : Nat → Option Nat} {srt : Nat → Nat} {bt : Nat → List Nat} {xs : List Nat} {k : Nat} (h : org k = none) (hs : srt k = 4) : v_in org srt bt k xs = true := by
  show (v_ok (srt k) (bt k) xs && (match org k with | none => true | some j => v_adm org srt bt xs k j)) = _
  rw [h, hs]
  rfl
theorem pN.lt {c0 : Nat} {org : Nat → Option Nat} {srt tn mp : Nat → Nat} (h : pN c0 org srt tn mp) {k : Nat} (hk : k < c0) : ∀ a, a ≤ k → ∀ b, org a = some b → b < a := fun a ha b hb => ((h a (by omega)).2.2.2 b hb).1
theorem t_take_lcp : ∀ xs ys : List Nat, t_lcp xs ys = ys.length ↔ xs.take ys.length = ys
  | [], [] => by simp [t_lcp]
  | [], y :: ys => by simp [t_lcp]
  | x :: xs, [] => by simp [t_lcp]
  | x :: xs, y :: ys => by
    have ih := t_take_lcp xs ys
    unfold t_lcp
    by_cases h : x = y
    · rw [if_pos h]
      simp [h, ih]
    · rw [if_neg h]
      simp [h]
theorem t16_take {xs : List Nat} (h : t16 xs) (n : Nat) : t16 (xs.take n) := fun z hz => h z (List.mem_of_mem_take hz)
theorem tXo_take {f : Nat → Int32} {o : Nat} {xs : List Nat} (h : tXo f o xs) (n : Nat) : tXo f o (xs.take n) := by
  intro j hj
  have h1 : j < xs.length ∧ j < n := by rw [List.length_take] at hj; omega
  rw [h j h1.1, List.getD_eq_getElem?_getD, List.getD_eq_getElem?_getD, List.getElem?_take_of_lt h1.2]
/-- the first i letters of a text are copied to place o on -/
def tCp (F F0 : Nat → Int32) (o : Nat) (xs : List Nat) (i : Nat) : Prop := (∀ j, j < i → F (o + j) = nI (xs.getD j 0)) ∧ ∀ x, (x < o ∨ o + i ≤ x) → F x = F0 x
theorem tCp.zero {F : Nat → Int32} {o : Nat} {xs : List Nat} : tCp F F o xs 0 := ⟨fun j hj => absurd hj (Nat.not_lt_zero j), fun _ _ => rfl⟩
theorem tCp.step {F F0 : Nat → Int32} {o : Nat} {xs : List Nat} {i : Nat} {z : Nat} (h : tCp F F0 o xs i) (hz : z = o + i) : tCp (upd F z (nI (xs.getD i 0))) F0 o xs (i + 1) := by
  subst hz
  refine ⟨fun j hj => ?_, fun x hx => ?_⟩
  · by_cases e : j = i
    · rw [e, pk_us]
    · rw [pk_un (by omega)]
      exact h.1 j (by omega)
  · rw [pk_un (by omega)]
    exact h.2 x (by omega)
