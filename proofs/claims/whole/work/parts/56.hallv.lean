/-! a view more -/
theorem up_ne {α : Type} {f : Nat → α} {k j : Nat} {x : α} (h : j ≠ k) : va_up f k x j = f j := by unfold va_up; rw [if_neg h]
theorem up_eq {α : Type} {f : Nat → α} {k : Nat} {x : α} : va_up f k x k = x := by unfold va_up; rw [if_pos rfl]
theorem up_map {ad : Nat → Nat} {c z : Nat} {o : Option Nat} (h : ∀ j, o = some j → j < c) : o.map (va_up ad c z) = o.map ad := by
  cases o with
  | none => rfl
  | some j =>
    have := h j rfl
    show some _ = some _
    rw [up_ne (by omega)]
theorem up_bk {ad : Nat → Nat} {c z k : Nat} (h : k ≠ c) : v_bk (va_up ad c z) k = v_bk ad k := by unfold v_bk; rw [up_ne h]
theorem up_wk {ad : Nat → Nat} {c z k : Nat} (h : k ≠ c) : v_wk (va_up ad c z) k = v_wk ad k := by unfold v_wk; rw [up_ne h]
theorem hD.more {z b c : Nat} {ad : Nat → Nat} (h : hD z b c ad) (hc : c < 12) : hD (z + 4) b (c + 1) (va_up ad c z) := by
  obtain ⟨h1, h2, h3, h4, h5⟩ := h
  refine ⟨by omega, by omega, by omega, fun k hk => by rw [up_ne (by omega)]; exact h4 k hk, fun k k1 k2 => ?_⟩
  by_cases hk : k = c
  · subst hk
    rw [up_eq]
    refine ⟨by omega, by omega, fun j j1 j2 => ?_⟩
    rw [up_ne (by omega)]
    exact (h5 j j1 j2).2.1
  · rw [up_ne hk]
    have a := h5 k k1 (by omega)
    refine ⟨a.1, by omega, fun j j1 j2 => ?_⟩
    rw [up_ne (by omega)]
    exact a.2.2 j j1 j2
theorem hN.more {c : Nat} {org : Nat → Option Nat} {srt tn mp : Nat → Nat} (h : hN c org srt tn mp) {k s1 : Nat} (hk : k < c) (hs : s1 ≤ 3) : hN (c + 1) (va_up org c (some k)) (va_up srt c s1) (va_up tn c (v_tn s1 (tn k))) (va_up mp c (mp k)) := by
  intro j hj
  by_cases hjc : j = c
  · subst hjc
    rw [up_eq, up_eq, up_eq, up_eq]
    refine ⟨fun i hi => ?_, by omega, v_tn_le _ _, (h k hk).2.2.2⟩
    have e : i = k := (Option.some.inj hi).symm
    rw [e, up_ne (by omega)]
    exact ⟨hk, rfl⟩
  · obtain ⟨h1, h2, h3, h4⟩ := h j (by omega)
    rw [up_ne hjc, up_ne hjc, up_ne hjc, up_ne hjc]
    refine ⟨fun i hi => ?_, h2, h3, h4⟩
    have a := h1 i hi
    rw [up_ne (by omega)]
    exact a
/-- a view is made, of view k -/
theorem hA.view {D : va_G} {q : Nat → ClassId} {H H1 : Heap} {b : Nat} {c0 : Nat} {ad : Nat → Nat} {org : Nat → Option Nat} {srt : Nat → Nat} {bt : Nat → List Nat} {tn : Nat → Nat} {mp : Nat → Nat} {wk : Nat → Nat × Nat × Nat × Nat} {n : Nat → Nat} {ks : Nat → Nat → List Nat} {vs : Nat → Nat → Int32} {chg : Nat → Nat} {tp : List Nat} {ud : List Nat} {tl : List Nat} {an : Nat} {aks : Nat → List Nat} {aus : List Nat} {xs : List Nat} {us : List (List Nat)} {so : Nat} {k s1 z : Nat} {xs1 : List Nat} (h : hA D q H b c0 ad org srt bt tn mp wk n ks vs chg tp ud tl an aks aus xs us so) (hz0 : H.size = z) (hk : k < c0) (hc : c0 < 12) (hs1 : s1 ≤ 3) (k0 : hO D H1 b (c0 + 1)) (k1 : hF D q H1 b (c0 + 1) (va_up ad c0 z))
    (k2 : va_at D CL (z, .inr (2, [.ref (b + 9 + 135 * mp k), .ref (ad k), .int (nI s1), .ref (z + 1), .int (nI (v_tn s1 (tn k))), .ref (z + 3), .int 0, .int 0])) H1) (k3 : kA D q H1 (z + 1) xs1) (k4 : va_at D CL (z + 3, .inr (3, [.int 0, .int 0, .int 0, .int 0])) H1) (hz : H1.size = z + 4) (fr : ∀ p : Nat, p < z → ¬ (p = b ∨ p = b + 7) → H1[p]? = H[p]?) : hA D q H1 b (c0 + 1) (va_up ad c0 z) (va_up org c0 (some k)) (va_up srt c0 s1) (va_up bt c0 xs1) (va_up tn c0 (v_tn s1 (tn k))) (va_up mp c0 (mp k)) (va_up wk c0 (0, 0, 0, 0)) n ks vs chg tp ud tl an aks aus xs us so := by
  obtain ⟨o, f, d, nn, v, w, mm, gg, t1, t2, t3, aa, xx⟩ := h
  have hz9 := d.2.2.1
  have hc3 := d.1
  refine ⟨k0, k1, by rw [hz]; rw [hz0] at d; exact d.more hc, nn.more hk hs1, fun j hj => ?_, fun j hj => ?_, mm.kept (fun m hm p h1 h2 => fr p (by omega) (by omega)), gg.kept (fun p h1 h2 => fr p (by omega) (by omega)), t1.kept (fr _ (by omega) (by omega)) (fr _ (by omega) (by omega)), t2.kept (fr _ (by omega) (by omega)) (fr _ (by omega) (by omega)), t3.kept (fr _ (by omega) (by omega)) (fr _ (by omega) (by omega)), aa.kept (fun p h1 h2 => fr p (by omega) (by omega)), xx.kept (fun p h1 h2 => fr p (by omega) (by omega))⟩
  · unfold hVc
    by_cases hjc : j = c0
    · subst hjc
      have e1 : v_bk (va_up ad j z) j = z + 1 := by unfold v_bk; rw [if_neg (by omega), up_eq]
      have e2 : v_wk (va_up ad j z) j = z + 3 := by unfold v_wk; rw [if_neg (by omega), up_eq]
      rw [up_eq, up_eq, up_eq, up_eq, up_eq, up_eq, e1, e2]
      refine ⟨⟨0, 0, ?_⟩, k3⟩
      rw [show (some k).map (va_up ad j z) = some (ad k) by show some _ = some _; rw [up_ne (by omega)]]
      exact k2
    · obtain ⟨⟨f0, t0, v1⟩, v2⟩ := v j (by omega)
      have hl := d.lt (k := j) (by omega)
      have hcl := d.cells (k := j) (by omega)
      rw [up_ne hjc, up_ne hjc, up_ne hjc, up_ne hjc, up_ne hjc, up_ne hjc, up_bk hjc, up_wk hjc, up_map (fun i hi => by have := (nn j (by omega)).1 i hi; omega)]
      exact ⟨⟨f0, t0, va_at.kept v1 (fr _ (by omega) (by omega))⟩, v2.kept (fr _ (by omega) (by omega)) (fr _ (by omega) (by omega))⟩
  · by_cases hjc : j = c0
    · subst hjc
      have e2 : v_wk (va_up ad j z) j = z + 3 := by unfold v_wk; rw [if_neg (by omega), up_eq]
      rw [up_eq, e2]
      exact k4
    · have hl := d.lt (k := j) (by omega)
      have hcl := d.cells (k := j) (by omega)
      rw [up_ne hjc, up_wk hjc]
      exact va_at.kept (w j (by omega)) (fr _ (by omega) (by omega))
