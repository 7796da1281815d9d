/-! views: rows and pictures -/
theorem gz_if (c : Prop) [Decidable c] : narrow .boolean (.int (nI (if c then 1 else 0))) = .int (nI (if c then 1 else 0)) := by
  by_cases h : c
  · rw [if_pos h]
    decide
  · rw [if_neg h]
    decide
theorem gz_t {c : Prop} [Decidable c] (h : ¬ nI (if c then 1 else 0) = 0) : c := by
  by_cases hc : c
  · exact hc
  · rw [if_neg hc] at h
    exact absurd nI_0 h
theorem gz_f {c : Prop} [Decidable c] (h : nI (if c then 1 else 0) = 0) : ¬ c := by
  intro hc
  rw [if_pos hc] at h
  exact absurd h (by decide)
section GV
variable {p : Program} {l : Launch} {e : Env} {R : Room} {s : State} {m : MethodId} {args : Array Value} {below : List Frame} {meth : Method} {c : Code} {H : Heap} {locs : List Loc} {cells slots : Nat} {Q : State → Prop}
variable {cc : ByteArray} {pc : Nat} {ls : Array Slot} {rest : List Value} {L : List (Option Value)}
theorem g_astnN (hexec : p.tables.exec = Jvm.exec) (hb : c.code = cc) {k : Fin 4} (h : gl ls L) (i : Nat) (hdg : decode cc pc = .ok (.astore_n k, 1)) (hi : (k : Nat) = i) (hn : i < L.length) (ho : gl_ok L i = true)
    (kk : ∀ ls' : Array Slot, gl ls' (L.set i (some .null)) → W p l e R s m args below meth c H locs cells slots Q (F0 m (pc + 1) ls' rest)) : W p l e R s m args below meth c H locs cells slots Q (F0 m pc ls (.null :: rest)) :=
  lv_astore_nN hexec hb hdg hi h hn rfl (fun ls' h' => kk ls' (gl_of ho hn h'))
end GV
/-- whether a text meets a view's own condition -/
def v_ok (s : Nat) (b xs : List Nat) : Bool := match s with
  | 0 => decide (t_lcp xs b = b.length)
  | 1 => decide (t_ord xs b < 0)
  | 2 => decide (0 ≤ t_ord xs b)
  | _ => true
/-- whether a text meets the conditions of a view and of those that it is made of -/
def v_adm (org : Nat → Option Nat) (srt : Nat → Nat) (bt : Nat → List Nat) (xs : List Nat) : Nat → Nat → Bool
  | 0, _ => true
  | f + 1, k => v_ok (srt k) (bt k) xs && (match org k with
    | none => true
    | some j => v_adm org srt bt xs f j)
theorem v_adm_fuel {org : Nat → Option Nat} {srt : Nat → Nat} {bt : Nat → List Nat} {xs : List Nat} {v : Nat} (ho : ∀ k, k ≤ v → ∀ j, org k = some j → j < k) : ∀ (f f' k : Nat), k ≤ v → k < f → k < f' → v_adm org srt bt xs f k = v_adm org srt bt xs f' k
  | 0, _, k, _, h, _ => by omega
  | _, 0, k, _, _, h => by omega
  | f + 1, f' + 1, k, hk, h1, h2 => by
    unfold v_adm
    cases hj : org k with
    | none => rfl
    | some j =>
      have hlt := ho k hk j hj
      show (_ && v_adm org srt bt xs f j) = (_ && v_adm org srt bt xs f' j)
      rw [v_adm_fuel ho f f' j (by omega) (by omega) (by omega)]
abbrev v_in (org : Nat → Option Nat) (srt : Nat → Nat) (bt : Nat → List Nat) (v : Nat) (xs : List Nat) : Bool := v_adm org srt bt xs (v + 1) v
/-- the cells of the views up to v: view k at ad k, its bound at bk k -/
def vV (D : va_G) (q : Nat → ClassId) (H : Heap) (v : Nat) (ad : Nat → Nat) (org : Nat → Option Nat) (srt : Nat → Nat) (bk : Nat → Nat) (bt : Nat → List Nat) : Prop := ∀ k, k ≤ v →
  (∃ mb tn wk f0 t0 : Nat, va_at D CL (ad k, .inr (2, [.ref mb, va_rf ((org k).map ad), .int (nI (srt k)), .ref (bk k), .int (nI tn), .ref wk, .int (nI f0), .int (nI t0)])) H) ∧ kA D q H (bk k) (bt k) ∧ (∀ j, org k = some j → j < k) ∧ srt k ≤ 4
def vX (v : Nat) (ad bk : Nat → Nat) : Prop := ∀ k, k ≤ v → (ad k = ad v → k = v) ∧ bk k ≠ ad v ∧ bk k + 1 ≠ ad v
theorem vV.put {D : va_G} {q : Nat → ClassId} {H H1 : Heap} {v : Nat} {ad : Nat → Nat} {org : Nat → Option Nat} {srt bk : Nat → Nat} {bt : Nat → List Nat} {mb tn wk f0 t0 : Nat} (h : vV D q H v ad org srt bk bt) (hx : vX v ad bk)
    (h1 : va_at D CL (ad v, .inr (2, [.ref mb, va_rf ((org v).map ad), .int (nI (srt v)), .ref (bk v), .int (nI tn), .ref wk, .int (nI f0), .int (nI t0)])) H1) (oq : ∀ p : Nat, p ≠ ad v → H1[p]? = H[p]?) : vV D q H1 v ad org srt bk bt := by
  intro k hk
  obtain ⟨⟨mb', tn', wk', f', t', hc⟩, hb, ho, hs⟩ := h k hk
  obtain ⟨x1, x2, x3⟩ := hx k hk
  refine ⟨?_, hb.kept (oq _ x2) (oq _ x3), ho, hs⟩
  by_cases hkv : k = v
  · subst hkv
    exact ⟨mb, tn, wk, f0, t0, h1⟩
  · exact ⟨mb', tn', wk', f', t', hc.kept (oq _ (fun h9 => hkv (x1 h9)))⟩
theorem vV.kept {D : va_G} {q : Nat → ClassId} {H H1 : Heap} {v : Nat} {ad : Nat → Nat} {org : Nat → Option Nat} {srt bk : Nat → Nat} {bt : Nat → List Nat} (h : vV D q H v ad org srt bk bt) (hq : ∀ k, k ≤ v → H1[ad k]? = H[ad k]? ∧ H1[bk k]? = H[bk k]? ∧ H1[bk k + 1]? = H[bk k + 1]?) : vV D q H1 v ad org srt bk bt := by
  intro k hk
  obtain ⟨⟨mb', tn', wk', f', t', hc⟩, hb, ho, hs⟩ := h k hk
  obtain ⟨x1, x2, x3⟩ := hq k hk
  exact ⟨⟨mb', tn', wk', f', t', hc.kept x1⟩, hb.kept x2 x3, ho, hs⟩
