/-! the class KeyHall: pictures -/
def v_bk (ad : Nat → Nat) (k : Nat) : Nat := if k < 3 then ad k + 132 else ad k + 1
def v_wk (ad : Nat → Nat) (k : Nat) : Nat := if k < 3 then ad k + 134 else ad k + 3
def hO (D : va_G) (H : Heap) (b c : Nat) : Prop := va_at D CL (b, .inr (9, [.ref (b + 1), .ref (b + 3), .ref (b + 5), .ref (b + 7), .int (nI c), .ref (b + 413), .ref (b + 416), .ref (b + 551)])) H
def hF (D : va_G) (q : Nat → ClassId) (H : Heap) (b c : Nat) (ad : Nat → Nat) : Prop := ∃ f : Nat → Option Nat, va_at D CL (b + 7, .inl (q 4, 12, .inr (.inr (.inr (.inr f))))) H ∧ ∀ k, k < c → f k = some (ad k)
/-- where the views lie: c of them, in a heap of z cells -/
def hD (z b c : Nat) (ad : Nat → Nat) : Prop := 3 ≤ c ∧ c ≤ 12 ∧ b + 559 ≤ z ∧ (∀ k, k < 3 → ad k = b + 8 + 135 * k) ∧ ∀ k, 3 ≤ k → k < c → b + 559 ≤ ad k ∧ ad k + 4 ≤ z ∧ ∀ j, 3 ≤ j → j < k → ad j + 4 ≤ ad k
/-- what a view is made of: origin, sort, whether turned, map -/
def hN (c : Nat) (org : Nat → Option Nat) (srt tn mp : Nat → Nat) : Prop := ∀ k, k < c → (∀ j, org k = some j → j < k ∧ mp j = mp k) ∧ srt k ≤ 4 ∧ tn k ≤ 1 ∧ mp k < 3
def hVc (D : va_G) (H : Heap) (b : Nat) (ad : Nat → Nat) (org : Nat → Option Nat) (srt tn mp : Nat → Nat) (k f0 t0 : Nat) : Prop :=
  va_at D CL (ad k, .inr (2, [.ref (b + 9 + 135 * mp k), va_rf ((org k).map ad), .int (nI (srt k)), .ref (v_bk ad k), .int (nI (tn k)), .ref (v_wk ad k), .int (nI f0), .int (nI t0)])) H
def hV (D : va_G) (q : Nat → ClassId) (H : Heap) (b c : Nat) (ad : Nat → Nat) (org : Nat → Option Nat) (srt : Nat → Nat) (bt : Nat → List Nat) (tn mp : Nat → Nat) : Prop := ∀ k, k < c → (∃ f0 t0 : Nat, hVc D H b ad org srt tn mp k f0 t0) ∧ kA D q H (v_bk ad k) (bt k)
def hK (D : va_G) (H : Heap) (c : Nat) (ad : Nat → Nat) (wk : Nat → Nat × Nat × Nat × Nat) : Prop := ∀ k, k < c → va_at D CL (v_wk ad k, .inr (3, [.int (nI (wk k).1), .int (nI (wk k).2.1), .int (nI (wk k).2.2.1), .int (nI (wk k).2.2.2)])) H
def hM (D : va_G) (q : Nat → ClassId) (H : Heap) (b : Nat) (n : Nat → Nat) (ks : Nat → Nat → List Nat) (vs : Nat → Nat → Int32) (chg : Nat → Nat) : Prop := ∀ m, m < 3 → mA D q H (b + 9 + 135 * m) (n m) (ks m) (vs m) (chg m) ∧ mS (n m) (ks m)
def hG (D : va_G) (q : Nat → ClassId) (H : Heap) (b : Nat) : Prop := va_at D CL (b + 413, .inr (4, [.ref (b + 414), .ref (b + 415)])) H ∧ (∃ S, va_at D CL (b + 414, .inl (q 0, 64, .inl S)) H) ∧ ∃ T, va_at D CL (b + 415, .inl (q 1, 136, .inl T)) H
/-- a number that names a view -/
abbrev h_ok (c : Nat) (v : Int32) : Prop := ¬ v < 0 ∧ ¬ nI c ≤ v
theorem h_okN {c : Nat} {v : Int32} (hc : c < 2 ^ 31) (h : h_ok c v) : ∃ k, k < c ∧ v = nI k := by
  have h1 := gi_nlt h.1
  have h2 := mt Int32.le_iff_toInt_le.mpr h.2
  rw [nI_toInt hc] at h2
  refine ⟨v.toInt.toNat, by omega, Int32.toInt_inj.mp ?_⟩
  rw [nI_toInt (by omega)]
  omega
theorem h_ok_of {c k : Nat} (hc : c < 2 ^ 31) (h : k < c) : h_ok c (nI k) := by
  refine ⟨fun h1 => ?_, fun h1 => ?_⟩
  · have := gi_lt h1
    rw [nI_toInt (by omega)] at this
    omega
  · have := Int32.le_iff_toInt_le.mp h1
    rw [nI_toInt (by omega), nI_toInt (by omega)] at this
    omega
theorem hV.vV {D : va_G} {q : Nat → ClassId} {H : Heap} {b c : Nat} {ad : Nat → Nat} {org : Nat → Option Nat} {srt : Nat → Nat} {bt : Nat → List Nat} {tn mp : Nat → Nat} (h : hV D q H b c ad org srt bt tn mp) (hN : hN c org srt tn mp) {v : Nat} (hv : v < c) : vV D q H v ad org srt (v_bk ad) bt := by
  intro k hk
  obtain ⟨⟨f0, t0, h1⟩, h2⟩ := h k (by omega)
  obtain ⟨n1, n2, n3, n4⟩ := hN k (by omega)
  exact ⟨⟨_, _, _, _, _, h1⟩, h2, fun j hj => (n1 j hj).1, n2⟩
theorem hD.vX {z b c : Nat} {ad : Nat → Nat} (h : hD z b c ad) {v : Nat} (hv : v < c) : vX v ad (v_bk ad) := by
  obtain ⟨h1, h2, h3, h4, h5⟩ := h
  intro k hk
  unfold v_bk
  by_cases hk3 : k < 3
  · have a1 := h4 k hk3
    rw [if_pos hk3]
    by_cases hv3 : v < 3
    · have a2 := h4 v hv3
      exact ⟨fun e => by omega, by omega, by omega⟩
    · have a2 := (h5 v (by omega) hv).1
      exact ⟨fun e => by omega, by omega, by omega⟩
  · have a1 := h5 k (by omega) (by omega)
    rw [if_neg hk3]
    by_cases hkv : k = v
    · subst hkv
      exact ⟨fun _ => rfl, by omega, by omega⟩
    · have a2 := (h5 v (by omega) hv).2.2 k (by omega) (by omega)
      exact ⟨fun e => by omega, by omega, by omega⟩
theorem hD.cells {z b c : Nat} {ad : Nat → Nat} (h : hD z b c ad) {k : Nat} (hk : k < c) : (k < 3 ∧ ad k = b + 8 + 135 * k ∧ v_bk ad k = ad k + 132 ∧ v_wk ad k = ad k + 134) ∨ (3 ≤ k ∧ b + 559 ≤ ad k ∧ ad k + 4 ≤ z ∧ v_bk ad k = ad k + 1 ∧ v_wk ad k = ad k + 3) := by
  obtain ⟨h1, h2, h3, h4, h5⟩ := h
  unfold v_bk v_wk
  by_cases hk3 : k < 3
  · exact Or.inl ⟨hk3, h4 k hk3, if_pos hk3, if_pos hk3⟩
  · exact Or.inr ⟨by omega, (h5 k (by omega) hk).1, (h5 k (by omega) hk).2.1, if_neg hk3, if_neg hk3⟩
theorem hD.far {z b c : Nat} {ad : Nat → Nat} (h : hD z b c ad) {k m : Nat} (hk : k < c) (hm : m < 3) : ad k < b + 9 + 135 * m ∨ b + 9 + 135 * m + 130 < ad k := by
  rcases h.cells hk with h1 | h1 <;> omega
theorem hD.lt {z b c : Nat} {ad : Nat → Nat} (h : hD z b c ad) {k : Nat} (hk : k < c) : b + 8 ≤ ad k ∧ ad k < z ∧ v_bk ad k + 1 < z ∧ v_wk ad k < z := by
  have h3 := h.2.2.1
  rcases h.cells hk with h1 | h1 <;> omega
/-- a view that was measured: its keys lie from place f0 up to t0 -/
def v_ms (org : Nat → Option Nat) (srt : Nat → Nat) (bt : Nat → List Nat) (k n : Nat) (ks : Nat → List Nat) (f0 t0 : Nat) : Prop :=
  f0 ≤ t0 ∧ t0 ≤ n ∧ (∀ j, j < f0 → ¬ v_in org srt bt k (ks j) = true) ∧ (∀ j, t0 ≤ j → j < n → ¬ v_in org srt bt k (ks j) = true) ∧ (f0 < t0 → v_in org srt bt k (ks f0) = true) ∧ (f0 < t0 → v_in org srt bt k (ks (t0 - 1)) = true)
