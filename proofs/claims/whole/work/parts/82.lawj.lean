/-! the law's invariant: printed by wip/specs/lawj.py -/
theorem gC.up {l : Launch} {y : MethodName} {ws : List Cond} {D : va_G} {cl : List vw_C} {tys : List (ClassId × FieldType)} {E E' : State → Prop} {vs : List Value} {H0 : Heap} {Post Post' : Option Value → Heap → Prop} {mc ms mc' ms' f k f' k' : Nat} {A A' : Nat → Prop}
    (h : gC l y ws (gR f k mc ms) D cl tys E vs H0 Post mc ms A) (hf : f ≤ f') (hk : k ≤ k') (hc : mc ≤ mc') (hs : ms ≤ ms') (hE : ∀ U : State, U.heap = H0 → E' U → E U) (hP : ∀ v H1, Post v H1 → Post' v H1) (hA : ∀ p, A p → A' p) : gC l y ws (gR f' k' mc' ms') D cl tys E' vs H0 Post' mc' ms' A' := by
  unfold gC Met at h ⊢
  refine MetFree.mono (MetFree.respec h (S' := headSpec ws (gR f' k' mc' ms')) (fun _ _ h => h) hf hk hc hs) ?_ (fun _ _ _ _ _ h => h) ?_
  · intro a s hp
    exact ⟨hp.1, hp.2.1, hp.2.2.1, hE _ hp.2.1 hp.2.2.2⟩
  · rintro a s o t - ⟨⟨v, hv, hp⟩, L, ⟨f1, f2, f3⟩, hL⟩
    exact ⟨⟨v, hv, hP _ _ hp⟩, L, ⟨f1, f2, State.sameButNew.mono f3 hc hs⟩, fun q hq => hA _ (hL q hq)⟩
theorem hA.keptZ {D : va_G} {q : Nat → ClassId} {H H1 : Heap} {b : Nat} {c0 : Nat} {ad : Nat → Nat} {org : Nat → Option Nat} {srt : Nat → Nat} {bt : Nat → List Nat} {tn : Nat → Nat} {mp : Nat → Nat} {wk : Nat → Nat × Nat × Nat × Nat} {n : Nat → Nat} {ks : Nat → Nat → List Nat} {vs : Nat → Nat → Int32} {chg : Nat → Nat} {tp : List Nat} {ud : List Nat} {tl : List Nat} {an : Nat} {aks : Nat → List Nat} {aus : List Nat} {xs : List Nat} {us : List (List Nat)} {so : Nat} (h : hA D q H b c0 ad org srt bt tn mp wk n ks vs chg tp ud tl an aks aus xs us so) (hz : H1.size = H.size) (fr : ∀ p : Nat, hZ b c0 ad p → H1[p]? = H[p]?) : hA D q H1 b c0 ad org srt bt tn mp wk n ks vs chg tp ud tl an aks aus xs us so := by
  obtain ⟨o, f, d, nn, v, w, mm, gg, t1, t2, t3, aa, xx⟩ := h
  have fb : ∀ p : Nat, b ≤ p → p < b + 559 → H1[p]? = H[p]? := fun p h1 h2 => fr p (Or.inl ⟨h1, h2⟩)
  have fv : ∀ k, k < c0 → H1[ad k]? = H[ad k]? ∧ H1[v_bk ad k]? = H[v_bk ad k]? ∧ H1[v_bk ad k + 1]? = H[v_bk ad k + 1]? ∧ H1[v_wk ad k]? = H[v_wk ad k]? := by
    intro k hk
    rcases d.cells hk with h9 | h9
    · exact ⟨fb _ (by omega) (by omega), fb _ (by omega) (by omega), fb _ (by omega) (by omega), fb _ (by omega) (by omega)⟩
    · exact ⟨fr _ (Or.inr ⟨k, h9.1, hk, by omega, by omega⟩), fr _ (Or.inr ⟨k, h9.1, hk, by omega, by omega⟩), fr _ (Or.inr ⟨k, h9.1, hk, by omega, by omega⟩), fr _ (Or.inr ⟨k, h9.1, hk, by omega, by omega⟩)⟩
  exact ⟨va_at.kept o (fb _ (by omega) (by omega)), f.kept (fb _ (by omega) (by omega)), (by rw [hz]; exact d), nn, v.kept (fun k hk => ⟨(fv k hk).1, (fv k hk).2.1, (fv k hk).2.2.1⟩), w.kept (fun k hk => (fv k hk).2.2.2), mm.kept (fun m hm p h1 h2 => fb p (by omega) (by omega)), gg.kept (fun p h1 h2 => fb p (by omega) (by omega)), t1.kept (fb _ (by omega) (by omega)) (fb _ (by omega) (by omega)), t2.kept (fb _ (by omega) (by omega)) (fb _ (by omega) (by omega)), t3.kept (fb _ (by omega) (by omega)) (fb _ (by omega) (by omega)), aa.kept (fun p h1 h2 => fb p (by omega) (by omega)), xx.kept (fun p h1 h2 => fb p (by omega) (by omega))⟩
/-- the walker's last text -/
def lWt (ar : Nat → Nat → Int32) (P : List Nat → Bool) (tn : Nat) (u : Nat × Nat × Nat × Nat) (n : Nat) (ks : Nat → List Nat) (k : Nat) (la : List Nat) : Prop := ar 15 k = nI la.length ∧ tXo (ar 16) (8 * k) la ∧ la.length ≤ 8 ∧ t16 la ∧ u.2.1 = v_cnt (fun j => P (ks j) && decide (d_s tn (ks j) la ≤ 0)) 0 n ∧ (u.2.2.1 ≠ 0 → P la = true ∧ kS ks n la)
def lWs (ar : Nat → Nat → Int32) (P : List Nat → Bool) (tn : Nat) (u : Nat × Nat × Nat × Nat) (n : Nat) (ks : Nat → List Nat) (k : Nat) : Prop := (ar 12 k = 0 ∧ u.2.1 = 0 ∧ u.2.2.1 = 0) ∨ (ar 12 k ≠ 0 ∧ ∃ la, lWt ar P tn u n ks k la)
/-- a walker of the class and of the model -/
def lWk (ar : Nat → Nat → Int32) (P : List Nat → Bool) (tn : Nat) (u : Nat × Nat × Nat × Nat) (n : Nat) (ks : Nat → List Nat) (chg k : Nat) : Prop :=
  (ar 11 k = nI u.1 ∧ u.1 ≤ 1) ∧ (ar 13 k = nI u.2.2.1 ∧ u.2.2.1 ≤ 1) ∧ (ar 14 k = nI u.2.2.2 ∧ u.2.2.2 ≤ chg) ∧ u.2.1 ≤ 64 ∧ (u.1 ≠ 0 → chg = u.2.2.2 → lWs ar P tn u n ks k)
def lW (ar : Nat → Nat → Int32) (c0 : Nat) (org : Nat → Option Nat) (srt : Nat → Nat) (bt : Nat → List Nat) (tn mp : Nat → Nat) (wk : Nat → Nat × Nat × Nat × Nat) (n : Nat → Nat) (ks : Nat → Nat → List Nat) (chg : Nat → Nat) : Prop := (∀ k, k < c0 → lWk ar (v_in org srt bt k) (tn k) (wk k) (n (mp k)) (ks (mp k)) (chg (mp k)) k) ∧ ∀ k, c0 ≤ k → ar 11 k = 0 ∧ ar 13 k = 0 ∧ ar 14 k = 0
/-- the maps -/
def lG (T : Nat) (ar : Nat → Nat → Int32) (n : Nat → Nat) (ks : Nat → Nat → List Nat) (vs : Nat → Nat → Int32) (chg : Nat → Nat) (kk : Nat → List Nat) : Prop := pK ar kk ∧ pM ar n chg ∧ (∀ m, m < 3 → mR (n m) (ks m) (vs m) kk (ar 6) (64 * m)) ∧ ∀ m, m < 3 → chg m ≤ T
/-- the automata -/
def lA (w : Nat → Int32) (ar : Nat → Nat → Int32) (an : Nat) (aks : Nat → List Nat) : Prop := mS an aks ∧ (∀ i, i < an → t16 (aks i)) ∧ ∃ (sN tN : Nat) (rs : Nat → List Nat), pA w ar (kS aks an) sN tN rs ∧ tN = v_sum (fun s => k_deg (kS aks an) (rs s)) sN
def lP (T : Nat) (w : Nat → Int32) (ar : Nat → Nat → Int32) (c0 : Nat) (org : Nat → Option Nat) (srt : Nat → Nat) (bt : Nat → List Nat) (tn : Nat → Nat) (mp : Nat → Nat) (wk : Nat → Nat × Nat × Nat × Nat) (n : Nat → Nat) (ks : Nat → Nat → List Nat) (vs : Nat → Nat → Int32) (chg : Nat → Nat) (tp : List Nat) (tl : List Nat) (an : Nat) (aks : Nat → List Nat) (xs : List Nat) (us : List (List Nat)) : Prop := (∃ kk, lG T ar n ks vs chg kk) ∧ pT w ar tp ∧ (pV w ar c0 org srt bt ∧ pN c0 org srt tn mp ∧ ∀ k, k < 3 → org k = none) ∧ pF w ar tl ∧ (∃ ed, pP w ar xs us ed ∧ ed ≤ T) ∧ lA w ar an aks ∧ lW ar c0 org srt bt tn mp wk n ks chg
/-- what lies beside the class -/
def lS (D : va_G) (q : Nat → ClassId) (b z1 z2 : Nat) (F1 F2 : Nat → Int32) (H : Heap) (c0 : Nat) (ad : Nat → Nat) : Prop := z1 < b ∧ z2 < b ∧ b + 588 < H.size ∧ ∀ k, 3 ≤ k → k < c0 → b + 588 < ad k
/-- both, side by side -/
def lQ (D : va_G) (q : Nat → ClassId) (b z1 z2 : Nat) (F1 F2 : Nat → Int32) (H : Heap) (w : Nat → Int32) (ar : Nat → Nat → Int32) (G : Nat → Int64) (c0 : Nat) (ad : Nat → Nat) (org : Nat → Option Nat) (srt : Nat → Nat) (bt : Nat → List Nat) (tn : Nat → Nat) (mp : Nat → Nat) (wk : Nat → Nat × Nat × Nat × Nat) (n : Nat → Nat) (ks : Nat → Nat → List Nat) (vs : Nat → Nat → Int32) (chg : Nat → Nat) (tp : List Nat) (ud : List Nat) (tl : List Nat) (an : Nat) (aks : Nat → List Nat) (aus : List Nat) (xs : List Nat) (us : List (List Nat)) (so : Nat) : Prop := hA D q H b c0 ad org srt bt tn mp wk n ks vs chg tp ud tl an aks aus xs us so ∧ dR D q H (b + 559) w ar ∧ va_at D CL (b + 588, .inl (q 2, 1, .inr (.inl G))) H ∧ lS D q b z1 z2 F1 F2 H c0 ad
/-- between two steps -/
def lJ (D : va_G) (q : Nat → ClassId) (b z1 z2 : Nat) (F1 F2 : Nat → Int32) (T : Nat) (x : Int32) (H : Heap) : Prop := ∃ (c0 : Nat) (ad : Nat → Nat) (org : Nat → Option Nat) (srt : Nat → Nat) (bt : Nat → List Nat) (tn : Nat → Nat) (mp : Nat → Nat) (wk : Nat → Nat × Nat × Nat × Nat) (n : Nat → Nat) (ks : Nat → Nat → List Nat) (vs : Nat → Nat → Int32) (chg : Nat → Nat) (tp : List Nat) (ud : List Nat) (tl : List Nat) (an : Nat) (aks : Nat → List Nat) (aus : List Nat) (xs : List Nat) (us : List (List Nat)) (so : Nat) (w : Nat → Int32) (ar : Nat → Nat → Int32) (G : Nat → Int64), lQ D q b z1 z2 F1 F2 H w ar G c0 ad org srt bt tn mp wk n ks vs chg tp ud tl an aks aus xs us so ∧ w 0 = x ∧ lP T w ar c0 org srt bt tn mp wk n ks vs chg tp tl an aks xs us
theorem lQ.hall {D : va_G} {q : Nat → ClassId} {b z1 z2 : Nat} {F1 F2 : Nat → Int32} {H H1 : Heap} {w : Nat → Int32} {ar : Nat → Nat → Int32} {G : Nat → Int64} {c0 : Nat} {ad : Nat → Nat} {org : Nat → Option Nat} {srt : Nat → Nat} {bt : Nat → List Nat} {tn : Nat → Nat} {mp : Nat → Nat} {wk : Nat → Nat × Nat × Nat × Nat} {n : Nat → Nat} {ks : Nat → Nat → List Nat} {vs : Nat → Nat → Int32} {chg : Nat → Nat} {tp : List Nat} {ud : List Nat} {tl : List Nat} {an : Nat} {aks : Nat → List Nat} {aus : List Nat} {xs : List Nat} {us : List (List Nat)} {so : Nat} (h : lQ D q b z1 z2 F1 F2 H w ar G c0 ad org srt bt tn mp wk n ks vs chg tp ud tl an aks aus xs us so) {c2 : Nat} {ad2 : Nat → Nat} {org2 : Nat → Option Nat} {srt2 : Nat → Nat} {bt2 : Nat → List Nat} {tn2 : Nat → Nat} {mp2 : Nat → Nat} {wk2 : Nat → Nat × Nat × Nat × Nat} {n2 : Nat → Nat} {ks2 : Nat → Nat → List Nat} {vs2 : Nat → Nat → Int32} {chg2 : Nat → Nat} {tp2 : List Nat} {ud2 : List Nat} {tl2 : List Nat} {an2 : Nat} {aks2 : Nat → List Nat} {aus2 : List Nat} {xs2 : List Nat} {us2 : List (List Nat)} {so2 : Nat} (h1 : hA D q H1 b c2 ad2 org2 srt2 bt2 tn2 mp2 wk2 n2 ks2 vs2 chg2 tp2 ud2 tl2 an2 aks2 aus2 xs2 us2 so2) (hz : H.size ≤ H1.size) (hc : ∀ k, 3 ≤ k → k < c2 → (k < c0 ∧ ad2 k = ad k) ∨ H.size ≤ ad2 k) (fr : ∀ p : Nat, p < H.size → ¬ hZ b c0 ad p → H1[p]? = H[p]?) : lQ D q b z1 z2 F1 F2 H1 w ar G c2 ad2 org2 srt2 bt2 tn2 mp2 wk2 n2 ks2 vs2 chg2 tp2 ud2 tl2 an2 aks2 aus2 xs2 us2 so2 ∧ H1[b + 588]? = H[b + 588]? ∧ ∀ p : Nat, p < b → H1[p]? = H[p]? := by
  obtain ⟨ha, hd, ho, s3, s4, s5, s6⟩ := h
  have f1 : ∀ p : Nat, p < b → H1[p]? = H[p]? := fun p hp => fr p (by omega) (by
    rintro (h9 | ⟨k, k1, k2, k3, k4⟩)
    · omega
    · have := s6 k k1 k2
      omega)
  have f2 : ∀ p : Nat, b + 559 ≤ p → p ≤ b + 588 → H1[p]? = H[p]? := fun p hp hp2 => fr p (by omega) (by
    rintro (h9 | ⟨k, k1, k2, k3, k4⟩)
    · omega
    · have := s6 k k1 k2
      omega)
  refine ⟨⟨h1, hd.kept (fun p h1 h2 => f2 p h1 (by omega)), va_at.kept ho (f2 _ (by omega) (by omega)), s3, s4, by omega, fun k k1 k2 => ?_⟩, f2 _ (by omega) (by omega), f1⟩
  rcases hc k k1 k2 with ⟨h9, h8⟩ | h9
  · rw [h8]
    exact s6 k k1 h9
  · omega
theorem lQ.out {D : va_G} {q : Nat → ClassId} {b z1 z2 : Nat} {F1 F2 : Nat → Int32} {H H1 : Heap} {w : Nat → Int32} {ar : Nat → Nat → Int32} {G G1 : Nat → Int64} {c0 : Nat} {ad : Nat → Nat} {org : Nat → Option Nat} {srt : Nat → Nat} {bt : Nat → List Nat} {tn : Nat → Nat} {mp : Nat → Nat} {wk : Nat → Nat × Nat × Nat × Nat} {n : Nat → Nat} {ks : Nat → Nat → List Nat} {vs : Nat → Nat → Int32} {chg : Nat → Nat} {tp : List Nat} {ud : List Nat} {tl : List Nat} {an : Nat} {aks : Nat → List Nat} {aus : List Nat} {xs : List Nat} {us : List (List Nat)} {so : Nat} (h : lQ D q b z1 z2 F1 F2 H w ar G c0 ad org srt bt tn mp wk n ks vs chg tp ud tl an aks aus xs us so) (ho1 : va_at D CL (b + 588, .inl (q 2, 1, .inr (.inl G1))) H1) (hz : H1.size = H.size) (fr : ∀ p : Nat, p ≠ b + 588 → H1[p]? = H[p]?) : lQ D q b z1 z2 F1 F2 H1 w ar G1 c0 ad org srt bt tn mp wk n ks vs chg tp ud tl an aks aus xs us so := by
  obtain ⟨ha, hd, ho, s3, s4, s5, s6⟩ := h
  refine ⟨ha.keptZ hz (fun p hp => fr p ?_), hd.kept (fun p h1 h2 => fr p (by omega)), ho1, s3, s4, by omega, s6⟩
  rcases hp with h9 | ⟨k, k1, k2, k3, k4⟩
  · omega
  · have := s6 k k1 k2
    omega
theorem lQ.model {D : va_G} {q : Nat → ClassId} {b z1 z2 : Nat} {F1 F2 : Nat → Int32} {H H1 : Heap} {w : Nat → Int32} {ar : Nat → Nat → Int32} {w1 : Nat → Int32} {ar1 : Nat → Nat → Int32} {G : Nat → Int64} {c0 : Nat} {ad : Nat → Nat} {org : Nat → Option Nat} {srt : Nat → Nat} {bt : Nat → List Nat} {tn : Nat → Nat} {mp : Nat → Nat} {wk : Nat → Nat × Nat × Nat × Nat} {n : Nat → Nat} {ks : Nat → Nat → List Nat} {vs : Nat → Nat → Int32} {chg : Nat → Nat} {tp : List Nat} {ud : List Nat} {tl : List Nat} {an : Nat} {aks : Nat → List Nat} {aus : List Nat} {xs : List Nat} {us : List (List Nat)} {so : Nat} (h : lQ D q b z1 z2 F1 F2 H w ar G c0 ad org srt bt tn mp wk n ks vs chg tp ud tl an aks aus xs us so) (h1 : dR D q H1 (b + 559) w1 ar1) (hz : H1.size = H.size) (fr : ∀ p : Nat, (p < b + 559 ∨ b + 559 + 28 < p) → H1[p]? = H[p]?) : lQ D q b z1 z2 F1 F2 H1 w1 ar1 G c0 ad org srt bt tn mp wk n ks vs chg tp ud tl an aks aus xs us so := by
  obtain ⟨ha, hd, ho, s3, s4, s5, s6⟩ := h
  refine ⟨ha.keptZ hz (fun p hp => fr p ?_), h1, va_at.kept ho (fr _ (by omega)), s3, s4, by omega, s6⟩
  rcases hp with h9 | ⟨k, k1, k2, k3, k4⟩
  · omega
  · have := s6 k k1 k2
    omega
