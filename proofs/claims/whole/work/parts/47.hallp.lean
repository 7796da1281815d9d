/-! a whole KeyHall: printed by wip/specs/hallp.py -/
theorem hF.kept {D : va_G} {q : Nat → ClassId} {H H1 : Heap} {b c : Nat} {ad : Nat → Nat} (h : hF D q H b c ad) (h1 : H1[b + 7]? = H[b + 7]?) : hF D q H1 b c ad := by
  obtain ⟨f, k1, k2⟩ := h
  exact ⟨f, va_at.kept k1 h1, k2⟩
theorem hV.kept {D : va_G} {q : Nat → ClassId} {H H1 : Heap} {b c : Nat} {ad : Nat → Nat} {org : Nat → Option Nat} {srt : Nat → Nat} {bt : Nat → List Nat} {tn mp : Nat → Nat} (h : hV D q H b c ad org srt bt tn mp) (hk : ∀ k, k < c → H1[ad k]? = H[ad k]? ∧ H1[v_bk ad k]? = H[v_bk ad k]? ∧ H1[v_bk ad k + 1]? = H[v_bk ad k + 1]?) : hV D q H1 b c ad org srt bt tn mp := by
  intro k hk9
  obtain ⟨⟨f0, t0, h1⟩, h2⟩ := h k hk9
  obtain ⟨k1, k2, k3⟩ := hk k hk9
  exact ⟨⟨f0, t0, va_at.kept h1 k1⟩, h2.kept k2 k3⟩
theorem hK.kept {D : va_G} {H H1 : Heap} {c : Nat} {ad : Nat → Nat} {wk : Nat → Nat × Nat × Nat × Nat} (h : hK D H c ad wk) (hk : ∀ k, k < c → H1[v_wk ad k]? = H[v_wk ad k]?) : hK D H1 c ad wk := fun k hk9 => va_at.kept (h k hk9) (hk k hk9)
theorem hM.kept {D : va_G} {q : Nat → ClassId} {H H1 : Heap} {b : Nat} {n : Nat → Nat} {ks : Nat → Nat → List Nat} {vs : Nat → Nat → Int32} {chg : Nat → Nat} (h : hM D q H b n ks vs chg) (hk : ∀ m, m < 3 → ∀ p : Nat, b + 9 + 135 * m ≤ p → p ≤ b + 9 + 135 * m + 130 → H1[p]? = H[p]?) : hM D q H1 b n ks vs chg := fun m hm => ⟨(h m hm).1.kept (hk m hm), (h m hm).2⟩
theorem hG.kept {D : va_G} {q : Nat → ClassId} {H H1 : Heap} {b : Nat} (h : hG D q H b) (hk : ∀ p : Nat, b + 413 ≤ p → p ≤ b + 415 → H1[p]? = H[p]?) : hG D q H1 b := by
  obtain ⟨h1, ⟨S, h2⟩, ⟨T, h3⟩⟩ := h
  exact ⟨va_at.kept h1 (hk _ (by omega) (by omega)), ⟨S, va_at.kept h2 (hk _ (by omega) (by omega))⟩, ⟨T, va_at.kept h3 (hk _ (by omega) (by omega))⟩⟩
theorem hD.grow {z z1 b c : Nat} {ad : Nat → Nat} (h : hD z b c ad) (hz : z ≤ z1) : hD z1 b c ad := by
  obtain ⟨h1, h2, h3, h4, h5⟩ := h
  exact ⟨h1, h2, by omega, h4, fun k k1 k2 => ⟨(h5 k k1 k2).1, by have := (h5 k k1 k2).2.1; omega, (h5 k k1 k2).2.2⟩⟩
theorem hD.two {z b c : Nat} {ad : Nat → Nat} (h : hD z b c ad) {j k : Nat} (hj : j < c) (hk : k < c) (hjk : j ≠ k) : (j < 3 ∨ k < 3) ∨ ad j + 4 ≤ ad k ∨ ad k + 4 ≤ ad j := by
  obtain ⟨h1, h2, h3, h4, h5⟩ := h
  by_cases h6 : j < 3 ∨ k < 3
  · exact Or.inl h6
  · rcases Nat.lt_or_ge j k with h7 | h7
    · exact Or.inr (Or.inl ((h5 k (by omega) hk).2.2 j (by omega) h7))
    · exact Or.inr (Or.inr ((h5 j (by omega) hj).2.2 k (by omega) (by omega)))
/-- a whole KeyHall at b -/
def hA (D : va_G) (q : Nat → ClassId) (H : Heap) (b : Nat) (c0 : Nat) (ad : Nat → Nat) (org : Nat → Option Nat) (srt : Nat → Nat) (bt : Nat → List Nat) (tn : Nat → Nat) (mp : Nat → Nat) (wk : Nat → Nat × Nat × Nat × Nat) (n : Nat → Nat) (ks : Nat → Nat → List Nat) (vs : Nat → Nat → Int32) (chg : Nat → Nat) (tp : List Nat) (ud : List Nat) (tl : List Nat) (an : Nat) (aks : Nat → List Nat) (aus : List Nat) (xs : List Nat) (us : List (List Nat)) (so : Nat) : Prop :=
  hO D H b c0 ∧ hF D q H b c0 ad ∧ hD H.size b c0 ad ∧ hN c0 org srt tn mp ∧ hV D q H b c0 ad org srt bt tn mp ∧ hK D H c0 ad wk ∧ hM D q H b n ks vs chg ∧ hG D q H b ∧ kA D q H (b + 1) tp ∧ kA D q H (b + 3) ud ∧ kA D q H (b + 5) tl ∧ aA D q H (b + 416) an aks aus ∧ txA D q H (b + 551) xs us so
theorem hA.tape {D : va_G} {q : Nat → ClassId} {H H1 : Heap} {b : Nat} {c0 : Nat} {ad : Nat → Nat} {org : Nat → Option Nat} {srt : Nat → Nat} {bt : Nat → List Nat} {tn : Nat → Nat} {mp : Nat → Nat} {wk : Nat → Nat × Nat × Nat × Nat} {n : Nat → Nat} {ks : Nat → Nat → List Nat} {vs : Nat → Nat → Int32} {chg : Nat → Nat} {tp : List Nat} {ud : List Nat} {tl : List Nat} {an : Nat} {aks : Nat → List Nat} {aus : List Nat} {xs : List Nat} {us : List (List Nat)} {so : Nat} (h : hA D q H b c0 ad org srt bt tn mp wk n ks vs chg tp ud tl an aks aus xs us so) {tp1 ud1 : List Nat} (k1 : kA D q H1 (b + 1) tp1) (k2 : kA D q H1 (b + 3) ud1) (hz : H1.size = H.size) (fr : ∀ p : Nat, ¬ (b + 1 ≤ p ∧ p ≤ b + 4) → H1[p]? = H[p]?) : hA D q H1 b c0 ad org srt bt tn mp wk n ks vs chg tp1 ud1 tl an aks aus xs us so := by
  obtain ⟨o, f, d, nn, v, w, mm, gg, t1, t2, t3, aa, xx⟩ := h
  exact ⟨va_at.kept o (fr _ (by omega)), f.kept (fr _ (by omega)), (by rw [hz]; exact d), nn, v.kept (fun k hk => by rcases d.cells hk with h9 | h9 <;> exact ⟨fr _ (by omega), fr _ (by omega), fr _ (by omega)⟩), w.kept (fun k hk => by rcases d.cells hk with h9 | h9 <;> exact fr _ (by omega)), mm.kept (fun m hm p h1 h2 => fr p (by omega)), gg.kept (fun p h1 h2 => fr p (by omega)), k1, k2, t3.kept (fr _ (by omega)) (fr _ (by omega)), aa.kept (fun p h1 h2 => fr p (by omega)), xx.kept (fun p h1 h2 => fr p (by omega))⟩
theorem hA.told {D : va_G} {q : Nat → ClassId} {H H1 : Heap} {b : Nat} {c0 : Nat} {ad : Nat → Nat} {org : Nat → Option Nat} {srt : Nat → Nat} {bt : Nat → List Nat} {tn : Nat → Nat} {mp : Nat → Nat} {wk : Nat → Nat × Nat × Nat × Nat} {n : Nat → Nat} {ks : Nat → Nat → List Nat} {vs : Nat → Nat → Int32} {chg : Nat → Nat} {tp : List Nat} {ud : List Nat} {tl : List Nat} {an : Nat} {aks : Nat → List Nat} {aus : List Nat} {xs : List Nat} {us : List (List Nat)} {so : Nat} (h : hA D q H b c0 ad org srt bt tn mp wk n ks vs chg tp ud tl an aks aus xs us so) {tl1 : List Nat} (k1 : kA D q H1 (b + 5) tl1) (hz : H1.size = H.size) (fr : ∀ p : Nat, ¬ (p = b + 5 ∨ p = b + 6) → H1[p]? = H[p]?) : hA D q H1 b c0 ad org srt bt tn mp wk n ks vs chg tp ud tl1 an aks aus xs us so := by
  obtain ⟨o, f, d, nn, v, w, mm, gg, t1, t2, t3, aa, xx⟩ := h
  exact ⟨va_at.kept o (fr _ (by omega)), f.kept (fr _ (by omega)), (by rw [hz]; exact d), nn, v.kept (fun k hk => by rcases d.cells hk with h9 | h9 <;> exact ⟨fr _ (by omega), fr _ (by omega), fr _ (by omega)⟩), w.kept (fun k hk => by rcases d.cells hk with h9 | h9 <;> exact fr _ (by omega)), mm.kept (fun m hm p h1 h2 => fr p (by omega)), gg.kept (fun p h1 h2 => fr p (by omega)), t1.kept (fr _ (by omega)) (fr _ (by omega)), t2.kept (fr _ (by omega)) (fr _ (by omega)), k1, aa.kept (fun p h1 h2 => fr p (by omega)), xx.kept (fun p h1 h2 => fr p (by omega))⟩
theorem hA.text {D : va_G} {q : Nat → ClassId} {H H1 : Heap} {b : Nat} {c0 : Nat} {ad : Nat → Nat} {org : Nat → Option Nat} {srt : Nat → Nat} {bt : Nat → List Nat} {tn : Nat → Nat} {mp : Nat → Nat} {wk : Nat → Nat × Nat × Nat × Nat} {n : Nat → Nat} {ks : Nat → Nat → List Nat} {vs : Nat → Nat → Int32} {chg : Nat → Nat} {tp : List Nat} {ud : List Nat} {tl : List Nat} {an : Nat} {aks : Nat → List Nat} {aus : List Nat} {xs : List Nat} {us : List (List Nat)} {so : Nat} (h : hA D q H b c0 ad org srt bt tn mp wk n ks vs chg tp ud tl an aks aus xs us so) {xs1 : List Nat} {us1 : List (List Nat)} {so1 : Nat} (k1 : txA D q H1 (b + 551) xs1 us1 so1) (hz : H1.size = H.size) (fr : ∀ p : Nat, ¬ (b + 551 ≤ p ∧ p ≤ b + 551 + 7) → H1[p]? = H[p]?) : hA D q H1 b c0 ad org srt bt tn mp wk n ks vs chg tp ud tl an aks aus xs1 us1 so1 := by
  obtain ⟨o, f, d, nn, v, w, mm, gg, t1, t2, t3, aa, xx⟩ := h
  exact ⟨va_at.kept o (fr _ (by omega)), f.kept (fr _ (by omega)), (by rw [hz]; exact d), nn, v.kept (fun k hk => by rcases d.cells hk with h9 | h9 <;> exact ⟨fr _ (by omega), fr _ (by omega), fr _ (by omega)⟩), w.kept (fun k hk => by rcases d.cells hk with h9 | h9 <;> exact fr _ (by omega)), mm.kept (fun m hm p h1 h2 => fr p (by omega)), gg.kept (fun p h1 h2 => fr p (by omega)), t1.kept (fr _ (by omega)) (fr _ (by omega)), t2.kept (fr _ (by omega)) (fr _ (by omega)), t3.kept (fr _ (by omega)) (fr _ (by omega)), aa.kept (fun p h1 h2 => fr p (by omega)), k1⟩
theorem hA.aut {D : va_G} {q : Nat → ClassId} {H H1 : Heap} {b : Nat} {c0 : Nat} {ad : Nat → Nat} {org : Nat → Option Nat} {srt : Nat → Nat} {bt : Nat → List Nat} {tn : Nat → Nat} {mp : Nat → Nat} {wk : Nat → Nat × Nat × Nat × Nat} {n : Nat → Nat} {ks : Nat → Nat → List Nat} {vs : Nat → Nat → Int32} {chg : Nat → Nat} {tp : List Nat} {ud : List Nat} {tl : List Nat} {an : Nat} {aks : Nat → List Nat} {aus : List Nat} {xs : List Nat} {us : List (List Nat)} {so : Nat} (h : hA D q H b c0 ad org srt bt tn mp wk n ks vs chg tp ud tl an aks aus xs us so) {an1 : Nat} {aks1 : Nat → List Nat} {aus1 : List Nat} (k1 : aA D q H1 (b + 416) an1 aks1 aus1) (hz : H1.size = H.size) (fr : ∀ p : Nat, ¬ (b + 416 ≤ p ∧ p ≤ b + 416 + 134) → H1[p]? = H[p]?) : hA D q H1 b c0 ad org srt bt tn mp wk n ks vs chg tp ud tl an1 aks1 aus1 xs us so := by
  obtain ⟨o, f, d, nn, v, w, mm, gg, t1, t2, t3, aa, xx⟩ := h
  exact ⟨va_at.kept o (fr _ (by omega)), f.kept (fr _ (by omega)), (by rw [hz]; exact d), nn, v.kept (fun k hk => by rcases d.cells hk with h9 | h9 <;> exact ⟨fr _ (by omega), fr _ (by omega), fr _ (by omega)⟩), w.kept (fun k hk => by rcases d.cells hk with h9 | h9 <;> exact fr _ (by omega)), mm.kept (fun m hm p h1 h2 => fr p (by omega)), gg.kept (fun p h1 h2 => fr p (by omega)), t1.kept (fr _ (by omega)) (fr _ (by omega)), t2.kept (fr _ (by omega)) (fr _ (by omega)), t3.kept (fr _ (by omega)) (fr _ (by omega)), k1, xx.kept (fun p h1 h2 => fr p (by omega))⟩
theorem hA.edges {D : va_G} {q : Nat → ClassId} {H H1 : Heap} {b : Nat} {c0 : Nat} {ad : Nat → Nat} {org : Nat → Option Nat} {srt : Nat → Nat} {bt : Nat → List Nat} {tn : Nat → Nat} {mp : Nat → Nat} {wk : Nat → Nat × Nat × Nat × Nat} {n : Nat → Nat} {ks : Nat → Nat → List Nat} {vs : Nat → Nat → Int32} {chg : Nat → Nat} {tp : List Nat} {ud : List Nat} {tl : List Nat} {an : Nat} {aks : Nat → List Nat} {aus : List Nat} {xs : List Nat} {us : List (List Nat)} {so : Nat} (h : hA D q H b c0 ad org srt bt tn mp wk n ks vs chg tp ud tl an aks aus xs us so) (k1 : hG D q H1 b) (hz : H1.size = H.size) (fr : ∀ p : Nat, ¬ (b + 413 ≤ p ∧ p ≤ b + 415) → H1[p]? = H[p]?) : hA D q H1 b c0 ad org srt bt tn mp wk n ks vs chg tp ud tl an aks aus xs us so := by
  obtain ⟨o, f, d, nn, v, w, mm, gg, t1, t2, t3, aa, xx⟩ := h
  exact ⟨va_at.kept o (fr _ (by omega)), f.kept (fr _ (by omega)), (by rw [hz]; exact d), nn, v.kept (fun k hk => by rcases d.cells hk with h9 | h9 <;> exact ⟨fr _ (by omega), fr _ (by omega), fr _ (by omega)⟩), w.kept (fun k hk => by rcases d.cells hk with h9 | h9 <;> exact fr _ (by omega)), mm.kept (fun m hm p h1 h2 => fr p (by omega)), k1, t1.kept (fr _ (by omega)) (fr _ (by omega)), t2.kept (fr _ (by omega)) (fr _ (by omega)), t3.kept (fr _ (by omega)) (fr _ (by omega)), aa.kept (fun p h1 h2 => fr p (by omega)), xx.kept (fun p h1 h2 => fr p (by omega))⟩
theorem hA.map {D : va_G} {q : Nat → ClassId} {H H1 : Heap} {b : Nat} {c0 : Nat} {ad : Nat → Nat} {org : Nat → Option Nat} {srt : Nat → Nat} {bt : Nat → List Nat} {tn : Nat → Nat} {mp : Nat → Nat} {wk : Nat → Nat × Nat × Nat × Nat} {n : Nat → Nat} {ks : Nat → Nat → List Nat} {vs : Nat → Nat → Int32} {chg : Nat → Nat} {tp : List Nat} {ud : List Nat} {tl : List Nat} {an : Nat} {aks : Nat → List Nat} {aus : List Nat} {xs : List Nat} {us : List (List Nat)} {so : Nat} (h : hA D q H b c0 ad org srt bt tn mp wk n ks vs chg tp ud tl an aks aus xs us so) {m1 n1 : Nat} {ks1 : Nat → List Nat} {vs1 : Nat → Int32} {chg1 : Nat} (hm1 : m1 < 3) (k1 : mA D q H1 (b + 9 + 135 * m1) n1 ks1 vs1 chg1) (k2 : mS n1 ks1) (hz : H1.size = H.size) (fr : ∀ p : Nat, ¬ (b + 9 + 135 * m1 ≤ p ∧ p ≤ b + 9 + 135 * m1 + 130) → H1[p]? = H[p]?) : hA D q H1 b c0 ad org srt bt tn mp wk (va_up n m1 n1) (va_up ks m1 ks1) (va_up vs m1 vs1) (va_up chg m1 chg1) tp ud tl an aks aus xs us so := by
  obtain ⟨o, f, d, nn, v, w, mm, gg, t1, t2, t3, aa, xx⟩ := h
  exact ⟨va_at.kept o (fr _ (by omega)), f.kept (fr _ (by omega)), (by rw [hz]; exact d), nn, v.kept (fun k hk => by rcases d.cells hk with h9 | h9 <;> exact ⟨fr _ (by omega), fr _ (by omega), fr _ (by omega)⟩), w.kept (fun k hk => by rcases d.cells hk with h9 | h9 <;> exact fr _ (by omega)), (fun m hm => by
    unfold va_up
    by_cases h9 : m = m1
    · subst h9
      rw [if_pos rfl, if_pos rfl, if_pos rfl, if_pos rfl]
      exact ⟨k1, k2⟩
    · rw [if_neg h9, if_neg h9, if_neg h9, if_neg h9]
      exact ⟨(mm m hm).1.kept (fun p h1 h2 => fr p (by omega)), (mm m hm).2⟩), gg.kept (fun p h1 h2 => fr p (by omega)), t1.kept (fr _ (by omega)) (fr _ (by omega)), t2.kept (fr _ (by omega)) (fr _ (by omega)), t3.kept (fr _ (by omega)) (fr _ (by omega)), aa.kept (fun p h1 h2 => fr p (by omega)), xx.kept (fun p h1 h2 => fr p (by omega))⟩
theorem hA.measure {D : va_G} {q : Nat → ClassId} {H H1 : Heap} {b : Nat} {c0 : Nat} {ad : Nat → Nat} {org : Nat → Option Nat} {srt : Nat → Nat} {bt : Nat → List Nat} {tn : Nat → Nat} {mp : Nat → Nat} {wk : Nat → Nat × Nat × Nat × Nat} {n : Nat → Nat} {ks : Nat → Nat → List Nat} {vs : Nat → Nat → Int32} {chg : Nat → Nat} {tp : List Nat} {ud : List Nat} {tl : List Nat} {an : Nat} {aks : Nat → List Nat} {aus : List Nat} {xs : List Nat} {us : List (List Nat)} {so : Nat} (h : hA D q H b c0 ad org srt bt tn mp wk n ks vs chg tp ud tl an aks aus xs us so) {k f0 t0 : Nat} (hk : k < c0) (k1 : hVc D H1 b ad org srt tn mp k f0 t0) (hz : H1.size = H.size) (fr : ∀ p : Nat, ¬ (p = ad k) → H1[p]? = H[p]?) : hA D q H1 b c0 ad org srt bt tn mp wk n ks vs chg tp ud tl an aks aus xs us so := by
  obtain ⟨o, f, d, nn, v, w, mm, gg, t1, t2, t3, aa, xx⟩ := h
  have hk1 := d.cells hk
  exact ⟨va_at.kept o (fr _ (by omega)), f.kept (fr _ (by omega)), (by rw [hz]; exact d), nn, (fun j hj => by
    obtain ⟨⟨f9, t9, h1⟩, h2⟩ := v j hj
    by_cases h9 : j = k
    · subst h9
      exact ⟨⟨f0, t0, k1⟩, h2.kept (fr _ (by omega)) (fr _ (by omega))⟩
    · have h8 := d.two hj hk h9
      have h7 := d.cells hj
      exact ⟨⟨f9, t9, va_at.kept h1 (fr _ (by omega))⟩, h2.kept (fr _ (by omega)) (fr _ (by omega))⟩), w.kept (fun j hj => by by_cases h9 : j = k; (subst h9; exact fr _ (by omega)); exact (by have h8 := d.two hj hk h9; have h7 := d.cells hj; exact fr _ (by omega))), mm.kept (fun m hm p h1 h2 => fr p (by omega)), gg.kept (fun p h1 h2 => fr p (by omega)), t1.kept (fr _ (by omega)) (fr _ (by omega)), t2.kept (fr _ (by omega)) (fr _ (by omega)), t3.kept (fr _ (by omega)) (fr _ (by omega)), aa.kept (fun p h1 h2 => fr p (by omega)), xx.kept (fun p h1 h2 => fr p (by omega))⟩
theorem hA.walk {D : va_G} {q : Nat → ClassId} {H H1 : Heap} {b : Nat} {c0 : Nat} {ad : Nat → Nat} {org : Nat → Option Nat} {srt : Nat → Nat} {bt : Nat → List Nat} {tn : Nat → Nat} {mp : Nat → Nat} {wk : Nat → Nat × Nat × Nat × Nat} {n : Nat → Nat} {ks : Nat → Nat → List Nat} {vs : Nat → Nat → Int32} {chg : Nat → Nat} {tp : List Nat} {ud : List Nat} {tl : List Nat} {an : Nat} {aks : Nat → List Nat} {aus : List Nat} {xs : List Nat} {us : List (List Nat)} {so : Nat} (h : hA D q H b c0 ad org srt bt tn mp wk n ks vs chg tp ud tl an aks aus xs us so) {k : Nat} {w1 : Nat × Nat × Nat × Nat} (hk : k < c0) (k1 : va_at D CL (v_wk ad k, .inr (3, [.int (nI w1.1), .int (nI w1.2.1), .int (nI w1.2.2.1), .int (nI w1.2.2.2)])) H1) (hz : H1.size = H.size) (fr : ∀ p : Nat, ¬ (p = v_wk ad k) → H1[p]? = H[p]?) : hA D q H1 b c0 ad org srt bt tn mp (va_up wk k w1) n ks vs chg tp ud tl an aks aus xs us so := by
  obtain ⟨o, f, d, nn, v, w, mm, gg, t1, t2, t3, aa, xx⟩ := h
  have hk1 := d.cells hk
  exact ⟨va_at.kept o (fr _ (by omega)), f.kept (fr _ (by omega)), (by rw [hz]; exact d), nn, v.kept (fun j hj => by by_cases h9 : j = k; (subst h9; exact ⟨fr _ (by omega), fr _ (by omega), fr _ (by omega)⟩); exact (by have h8 := d.two hj hk h9; have h7 := d.cells hj; exact ⟨fr _ (by omega), fr _ (by omega), fr _ (by omega)⟩)), (fun j hj => by
    unfold va_up
    by_cases h9 : j = k
    · subst h9
      rw [if_pos rfl]
      exact k1
    · have h8 := d.two hj hk h9
      have h7 := d.cells hj
      rw [if_neg h9]
      exact va_at.kept (w j hj) (fr _ (by omega))), mm.kept (fun m hm p h1 h2 => fr p (by omega)), gg.kept (fun p h1 h2 => fr p (by omega)), t1.kept (fr _ (by omega)) (fr _ (by omega)), t2.kept (fr _ (by omega)) (fr _ (by omega)), t3.kept (fr _ (by omega)) (fr _ (by omega)), aa.kept (fun p h1 h2 => fr p (by omega)), xx.kept (fun p h1 h2 => fr p (by omega))⟩
theorem hA.grow {D : va_G} {q : Nat → ClassId} {H H1 : Heap} {b : Nat} {c0 : Nat} {ad : Nat → Nat} {org : Nat → Option Nat} {srt : Nat → Nat} {bt : Nat → List Nat} {tn : Nat → Nat} {mp : Nat → Nat} {wk : Nat → Nat × Nat × Nat × Nat} {n : Nat → Nat} {ks : Nat → Nat → List Nat} {vs : Nat → Nat → Int32} {chg : Nat → Nat} {tp : List Nat} {ud : List Nat} {tl : List Nat} {an : Nat} {aks : Nat → List Nat} {aus : List Nat} {xs : List Nat} {us : List (List Nat)} {so : Nat} (h : hA D q H b c0 ad org srt bt tn mp wk n ks vs chg tp ud tl an aks aus xs us so)  (hz : H.size ≤ H1.size) (fr : ∀ p : Nat, p < H.size → H1[p]? = H[p]?) : hA D q H1 b c0 ad org srt bt tn mp wk n ks vs chg tp ud tl an aks aus xs us so := by
  obtain ⟨o, f, d, nn, v, w, mm, gg, t1, t2, t3, aa, xx⟩ := h
  have hz9 := d.2.2.1
  exact ⟨va_at.kept o (fr _ (by omega)), f.kept (fr _ (by omega)), d.grow hz, nn, v.kept (fun k hk => by have h9 := d.lt hk; rcases d.cells hk with h8 | h8 <;> exact ⟨fr _ (by omega), fr _ (by omega), fr _ (by omega)⟩), w.kept (fun k hk => fr _ (d.lt hk).2.2.2), mm.kept (fun m hm p h1 h2 => fr p (by omega)), gg.kept (fun p h1 h2 => fr p (by omega)), t1.kept (fr _ (by omega)) (fr _ (by omega)), t2.kept (fr _ (by omega)) (fr _ (by omega)), t3.kept (fr _ (by omega)) (fr _ (by omega)), aa.kept (fun p h1 h2 => fr p (by omega)), xx.kept (fun p h1 h2 => fr p (by omega))⟩
/-- the cells of a KeyHall -/
def hZ (b c : Nat) (ad : Nat → Nat) (p : Nat) : Prop := (b ≤ p ∧ p < b + 559) ∨ ∃ k, 3 ≤ k ∧ k < c ∧ ad k ≤ p ∧ p < ad k + 4
theorem hZ_b {b c p : Nat} {ad : Nat → Nat} (h : ¬ hZ b c ad p) : p < b ∨ b + 559 ≤ p := by
  rcases Nat.lt_or_ge p b with h1 | h1
  · exact Or.inl h1
  · exact Or.inr (Nat.le_of_not_lt (fun h2 => h (Or.inl ⟨h1, h2⟩)))
theorem hZ_v {z b c p k : Nat} {ad : Nat → Nat} (hd : hD z b c ad) (hk : k < c) (h : ¬ hZ b c ad p) : p ≠ ad k ∧ p ≠ v_bk ad k ∧ p ≠ v_bk ad k + 1 ∧ p ≠ v_wk ad k := by
  have h1 := hZ_b h
  rcases hd.cells hk with h2 | h2
  · omega
  · have h3 : ¬ (ad k ≤ p ∧ p < ad k + 4) := fun h9 => h (Or.inr ⟨k, h2.1, hk, h9.1, h9.2⟩)
    omega
/-- a letter that is asked for; -1: the length -/
def h_let (xs : List Nat) (i : Int32) : Int32 := if i = -1 then nI xs.length else if h_ok xs.length i then nI (xs.getD i.toInt.toNat 0) else -1
theorem h_let_1 (xs : List Nat) {i : Int32} (h : i = -1) : h_let xs i = nI xs.length := if_pos h
theorem h_let_n (xs : List Nat) {i : Int32} (h : ¬ i = -1) (h1 : ¬ h_ok xs.length i) : h_let xs i = -1 := by unfold h_let; rw [if_neg h, if_neg h1]
theorem h_let_k (xs : List Nat) {k : Nat} (hx : xs.length < 2 ^ 31) (h : ¬ nI k = -1) (h1 : k < xs.length) : h_let xs (nI k) = nI (xs.getD k 0) := by
  unfold h_let
  rw [if_neg h, if_pos (h_ok_of hx h1), nI_toInt (by omega)]
  rfl

