/-! one step of the law: printed by wip/specs/lawk.py -/
theorem pT.eq {w w1 : Nat → Int32} {ar ar1 : Nat → Nat → Int32} {tp : List Nat} (h : pT w ar tp) (h1 : w1 2 = w 2) (h2 : ar1 1 = ar 1) : pT w1 ar1 tp := by
  unfold pT at h ⊢
  rw [h1, h2]
  exact h
theorem pV.eq {w w1 : Nat → Int32} {ar ar1 : Nat → Nat → Int32} {c0 : Nat} {org : Nat → Option Nat} {srt : Nat → Nat} {bt : Nat → List Nat} (h : pV w ar c0 org srt bt) (h1 : w1 8 = w 8) (h7 : ar1 7 = ar 7) (h8 : ar1 8 = ar 8) (h9 : ar1 9 = ar 9) (h10 : ar1 10 = ar 10) : pV w1 ar1 c0 org srt bt := by
  unfold pV at h ⊢
  rw [h1, h7, h8, h9, h10]
  exact h
theorem pF.eq {w w1 : Nat → Int32} {ar ar1 : Nat → Nat → Int32} {tl : List Nat} (h : pF w ar tl) (h1 : w1 20 = w 20) (h2 : ar1 17 = ar 17) : pF w1 ar1 tl := by
  unfold pF at h ⊢
  rw [h1, h2]
  exact h
theorem pP.eq {w w1 : Nat → Int32} {ar ar1 : Nat → Nat → Int32} {xs : List Nat} {us : List (List Nat)} {ed : Nat} (h : pP w ar xs us ed) (h1 : w1 34 = w 34) (h2 : w1 37 = w 37) (h3 : w1 38 = w 38) (h4 : ar1 26 = ar 26) (h5 : ar1 27 = ar 27) (h6 : ar1 28 = ar 28) : pP w1 ar1 xs us ed := by
  unfold pP at h ⊢
  rw [h1, h2, h3, h4, h5, h6]
  exact h
theorem lA.eq {w w1 : Nat → Int32} {ar ar1 : Nat → Nat → Int32} {an : Nat} {aks : Nat → List Nat} (h : lA w ar an aks) (h1 : w1 26 = w 26) (h2 : w1 27 = w 27) (h3 : w1 28 = w 28) (h4 : ar1 22 = ar 22) (h5 : ar1 23 = ar 23) (h6 : ar1 24 = ar 24) (h7 : ar1 25 = ar 25) : lA w1 ar1 an aks := by
  unfold lA pA at h ⊢
  rw [h1, h2, h3, h4, h5, h6, h7]
  exact h
theorem lG.eq {T T1 : Nat} {ar ar1 : Nat → Nat → Int32} {n : Nat → Nat} {ks : Nat → Nat → List Nat} {vs : Nat → Nat → Int32} {chg : Nat → Nat} {kk : Nat → List Nat} (h : lG T ar n ks vs chg kk) (hT : T ≤ T1) (h2 : ar1 2 = ar 2) (h3 : ar1 3 = ar 3) (h4 : ar1 4 = ar 4) (h5 : ar1 5 = ar 5) (h6 : ar1 6 = ar 6) : lG T1 ar1 n ks vs chg kk := by
  unfold lG pK pM at h ⊢
  rw [h2, h3, h4, h5, h6]
  exact ⟨h.1, h.2.1, h.2.2.1, fun m hm => Nat.le_trans (h.2.2.2 m hm) hT⟩
theorem lW.eq {ar ar1 : Nat → Nat → Int32} {c0 : Nat} {org : Nat → Option Nat} {srt : Nat → Nat} {bt : Nat → List Nat} {tn mp : Nat → Nat} {wk : Nat → Nat × Nat × Nat × Nat} {n : Nat → Nat} {ks : Nat → Nat → List Nat} {chg : Nat → Nat} (h : lW ar c0 org srt bt tn mp wk n ks chg) (h1 : ar1 11 = ar 11) (h2 : ar1 12 = ar 12) (h3 : ar1 13 = ar 13) (h4 : ar1 14 = ar 14) (h5 : ar1 15 = ar 15) (h6 : ar1 16 = ar 16) : lW ar1 c0 org srt bt tn mp wk n ks chg := by
  unfold lW lWk lWs lWt at h ⊢
  rw [h1, h2, h3, h4, h5, h6]
  exact h
theorem pT.nil {w : Nat → Int32} {ar : Nat → Nat → Int32} (h : w 2 = nI 0) : pT w ar [] := ⟨h, fun j hj => absurd hj (Nat.not_lt_zero _), Nat.zero_le _, fun x hx => nomatch hx⟩
/-- what the class answers, then the model -/
def lY (l : Launch) (D : va_G) (q : Nat → ClassId) (b z1 z2 : Nat) (F1 F2 : Nat → Int32) (T : Nat) (y : MethodName) (ws : List Cond) (as : List Value) (H : Heap) (r : Option Value) (H1 : Heap) : Prop := ∃ z : Int32, r = some (.int z) ∧ H.size ≤ H1.size ∧ (∀ p : Nat, p < b → H1[p]? = H[p]?) ∧ (∃ fs, va_at D CL (b + 559, .inr (10, fs)) H1) ∧
  gC l y ws (gR 10 200 0 0) D CL (gY q) (fun _ => True) (.ref (b + 559) :: as) H1 (fun r2 H2 => r2 = some (.int z) ∧ (∃ x, lJ D q b z1 z2 F1 F2 (T + 1) x H2) ∧ H2.size = H1.size ∧ ∀ p : Nat, p < b → H2[p]? = H1[p]?) 0 0 (fun p => b ≤ p)
/-- the same through a wrapper: k is which exception, G1 what lies in out -/
def lX (l : Launch) (D : va_G) (q : Nat → ClassId) (b z1 z2 : Nat) (F1 F2 : Nat → Int32) (T : Nat) (y : MethodName) (ws : List Cond) (as : List Value) (H : Heap) (r : Option Value) (H1 : Heap) : Prop := ∃ (k : Nat) (G1 : Nat → Int64), k ≤ 3 ∧ r = some (.int (nI k)) ∧ va_at D CL (b + 588, .inl (q 2, 1, .inr (.inl G1))) H1 ∧ H.size ≤ H1.size ∧ (∀ p : Nat, p < b → H1[p]? = H[p]?) ∧ (∃ fs, va_at D CL (b + 559, .inr (10, fs)) H1) ∧
  gC l y ws (gR 10 200 0 0) D CL (gY q) (fun _ => True) (.ref (b + 559) :: as) H1 (fun r2 H2 => ∃ z : Int32, r2 = some (.int z) ∧ (k = 0 → G1 0 = z.toInt64) ∧ H2[b + 588]? = H1[b + 588]? ∧ lJ D q b z1 z2 F1 F2 (T + 1) (nI k) H2 ∧ H2.size = H1.size ∧ ∀ p : Nat, p < b → H2[p]? = H1[p]?) 0 0 (fun p => b ≤ p)

set_option maxHeartbeats 4000000 in
theorem l_found (l : Launch) (D : va_G) (q : Nat → ClassId) (b z1 z2 : Nat) (F1 F2 : Nat → Int32) (T : Nat) (x0 : Int32) (H : Heap) (hJ : lJ D q b z1 z2 F1 F2 T x0 H) (i : Int32) : gC l y_Hall_found (Cond.code y_Hall_found b_Hall_found 2 (some .int) :: gWS) (gR 10 200 5 22) D CL (gY q) (fun _ => True) [.ref b, .int i] H (lY l D q b z1 z2 F1 F2 T y_Model_found (Cond.code y_Model_found b_Model_found 2 (some .int) :: gWS) [.int i] H) 5 22 (fun p => b ≤ p) := by
  obtain ⟨c0, ad, org, srt, bt, tn, mp, wk, n, ks, vs, chg, tp, ud, tl, an, aks, aus, xs, us, so, w, ar, G, hQ, hx0, hP⟩ := hJ
  have ha := hQ.1
  have hR := hQ.2.1
  obtain ⟨⟨kk, hG⟩, ht, ⟨hv, hN, h3⟩, hf, ⟨ed, hp, he⟩, hA, hW⟩ := hP
  refine gC.up (c_Hall_found l D q H b c0 ad org srt bt tn mp wk n ks vs chg tp ud tl an aks aus xs us so ha i) (by decide) (by decide) (by decide) (by decide) (fun _ _ _ => trivial) ?_ (fun _ h => h)
  rintro r H1 ⟨rfl, h1, hz, fr⟩
  obtain ⟨hQ1, -, fb⟩ := lQ.hall hQ h1 (by omega) (fun k k1 k2 => Or.inl ⟨k2, rfl⟩) fr
  refine ⟨_, rfl, by omega, fb, ⟨_, hQ1.2.1.1⟩, ?_⟩
  refine gC.up (c_Model_found l D q H1 (b + 559) w ar hQ1.2.1 tl hf i) (by decide) (by decide) (by decide) (by decide) (fun _ _ _ => trivial) ?_ (fun p hp => by omega)
  rintro r H2 ⟨rfl, h2, hz2, fr2⟩
  exact ⟨rfl, ⟨_, _, _, _, _, _, _, _, _, _, _, _, _, _, _, _, _, _, _, _, _, _, _, _, _, hQ1.model h2 hz2 fr2, rfl, ⟨⟨kk, hG.eq (by omega) rfl rfl rfl rfl rfl⟩, ht.eq rfl rfl, ⟨hv.eq rfl rfl rfl rfl rfl, hN, h3⟩, hf.eq rfl rfl, ⟨ed, hp.eq rfl rfl rfl rfl rfl rfl, by omega⟩, hA.eq rfl rfl rfl rfl rfl rfl rfl, hW.eq rfl rfl rfl rfl rfl rfl⟩⟩, hz2, fun p hp => fr2 p (by omega)⟩
