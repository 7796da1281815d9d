/-! the automaton's step: printed by wip/specs/lawm.py -/
theorem v_cnt_sum (p : Nat → Bool) : ∀ n, v_cnt p 0 n = v_sum (fun s => if p s = true then 1 else 0) n
  | 0 => rfl
  | n + 1 => by
    show v_cnt p 0 n + (if p (0 + n) = true then 1 else 0) = v_sum _ n + _
    rw [v_cnt_sum p n, Nat.zero_add]
theorem a_u_pre {ks : Nat → List Nat} {n : Nat} (hS : mS n ks) {x : Nat} (hx : x < (a_pre ks n).length) : k_pre (kS ks n) (a_u ks (a_pre ks n) x) := by
  have h := a_ent hx
  exact ⟨(ks (a_f (a_pre ks n) x)).drop (a_n (a_pre ks n) x), (a_kS hS hx _).mpr ⟨_, Nat.le_refl _, h.2.2.1, rfl⟩⟩
theorem k_eq.at {K : List Nat → Prop} {u v : List Nat} (h : k_eq K u v) : K u ↔ K v := by
  have := h []
  rwa [List.append_nil, List.append_nil] at this
theorem au_ans {w : Nat → Int32} {ar : Nat → Nat → Int32} {an : Nat} {aks : Nat → List Nat} {aus : List Nat} {sN tN : Nat} {rs : Nat → List Nat} (hS : mS an aks) (h16 : ∀ i, i < an → t16 (aks i)) (hf : a_fin aks an (a_pre aks an) aus) (h : pA w ar (kS aks an) sN tN rs) (ht : tN = v_sum (fun s => k_deg (kS aks an) (rs s)) sN) :
    aus.length = sN ∧ a_sum (a_stp aks an (a_pre aks an)) aus = tN ∧ a_sum (a_fnl aks (a_pre aks an)) aus = v_cnt (fun s => decide (¬ ar 22 s = 0)) 0 sN := by
  obtain ⟨t1, t2, t3⟩ := a_fin.two hS hf
  obtain ⟨p1, p2, p3, p4, p5, p6, p7, p8, p9⟩ := h
  obtain ⟨e1, e2⟩ := two_sys (K := kS aks an) (A := fun t => a_u aks (a_pre aks an) (aus.getD t 0)) (B := rs) (fun i hi => a_u_pre hS (t3 i hi)) p5 t1 p6 t2 p7
  refine ⟨e1, ?_, ?_⟩
  · rw [ht, ← e2 (k_deg (kS aks an)) (fun u v h9 => k_deg_eq h9), a_sum_v]
    exact v_sum_congr (fun i hi => a_stp_deg hS h16 (t3 i hi))
  · rw [v_cnt_sum, a_sum_v]
    have e3 := e2 (fun u => @ite Nat (kS aks an u) (Classical.propDecidable _) 1 0) (fun u v h9 => by
      by_cases hu : kS aks an u
      · show @ite Nat _ (_) 1 0 = @ite Nat _ (_) 1 0
        rw [if_pos hu, if_pos (h9.at.mp hu)]
      · show @ite Nat _ (_) 1 0 = @ite Nat _ (_) 1 0
        rw [if_neg hu, if_neg (fun h => hu (h9.at.mpr h))])
    have e4 : v_sum (fun t => a_fnl aks (a_pre aks an) (aus.getD t 0)) aus.length = v_sum (fun i => @ite Nat (kS aks an (a_u aks (a_pre aks an) (aus.getD i 0))) (Classical.propDecidable _) 1 0) aus.length := v_sum_congr (fun i hi => by
      have h9 := a_fnl_K hS (t3 i hi)
      by_cases hu : kS aks an (a_u aks (a_pre aks an) (aus.getD i 0))
      · rw [if_pos hu]
        exact if_pos (h9.mpr hu)
      · rw [if_neg hu]
        exact if_neg (fun h => hu (h9.mp h)))
    rw [e4]
    refine Eq.trans e3 (v_sum_congr (fun i hi => ?_))
    by_cases hu : kS aks an (rs i)
    · rw [if_pos hu, (p8 i hi).1 hu]
      rfl
    · rw [if_neg hu, (p8 i hi).2 hu]
      rfl
theorem au_none {w : Nat → Int32} {ar : Nat → Nat → Int32} {an : Nat} {aks : Nat → List Nat} {sN tN : Nat} {rs : Nat → List Nat} (h : pA w ar (kS aks an) sN tN rs) : (an = 0 → sN = 0) ∧ (0 < an → 0 < sN) := by
  obtain ⟨p1, p2, p3, p4, p5, p6, p7, p8⟩ := h
  constructor
  · intro e
    rcases Nat.eq_zero_or_pos sN with h9 | h9
    · exact h9
    · obtain ⟨v, i, hi, _⟩ := p5 0 h9
      omega
  · intro e
    obtain ⟨s, hs, _⟩ := p7 [] ⟨aks 0, 0, e, rfl⟩
    omega
theorem x04 (x : Int32) : ((x = nI 0 ∨ x = nI 1 ∨ x = nI 2) ∨ x = nI 3 ∨ x = nI 4) ∨ ((x.toInt < 0 ∨ 4 < x.toInt) ∧ ¬ x = 0 ∧ ¬ x = nI 1 ∧ ¬ x = nI 2 ∧ ¬ x = nI 3 ∧ ¬ x = nI 4) := by
  by_cases e0 : x = nI 0
  · exact Or.inl (Or.inl (Or.inl e0))
  by_cases e1 : x = nI 1
  · exact Or.inl (Or.inl (Or.inr (Or.inl e1)))
  by_cases e2 : x = nI 2
  · exact Or.inl (Or.inl (Or.inr (Or.inr e2)))
  by_cases e3 : x = nI 3
  · exact Or.inl (Or.inr (Or.inl e3))
  by_cases e4 : x = nI 4
  · exact Or.inl (Or.inr (Or.inr e4))
  refine Or.inr ⟨?_, e0, e1, e2, e3, e4⟩
  have a0 : x.toInt ≠ 0 := fun h => e0 (Int32.toInt_inj.mp h)
  have a1 : x.toInt ≠ 1 := fun h => e1 (Int32.toInt_inj.mp h)
  have a2 : x.toInt ≠ 2 := fun h => e2 (Int32.toInt_inj.mp h)
  have a3 : x.toInt ≠ 3 := fun h => e3 (Int32.toInt_inj.mp h)
  have a4 : x.toInt ≠ 4 := fun h => e4 (Int32.toInt_inj.mp h)
  omega
theorem au_ac {aks : Nat → List Nat} {an : Nat} {tp : List Nat} {r : Option Value} (b1 : kS aks an tp → r = some (.int (nI 1))) (b2 : ¬ kS aks an tp → r = some (.int (nI 0))) : r = some (.int (nI (if a_ac aks an tp = true then 1 else 0))) := by
  by_cases h : kS aks an tp
  · rw [if_pos (a_ac_iff.mpr h)]
    exact b1 h
  · rw [if_neg (fun h9 => h (a_ac_iff.mp h9))]
    exact b2 h

set_option maxHeartbeats 4000000 in
theorem l_automaton (l : Launch) (D : va_G) (q : Nat → ClassId) (b z1 z2 : Nat) (F1 F2 : Nat → Int32) (T : Nat) (x0 : Int32) (H : Heap) (hJ : lJ D q b z1 z2 F1 F2 T x0 H) (y : Int32) : gC l y_Hall_automaton (Cond.code y_Hall_automaton b_Hall_automaton 2 (some .int) :: gWS) (gR 10 200 5 22) D CL (gY q) (fun _ => True) [.ref b, .int y] H (lY l D q b z1 z2 F1 F2 T y_Model_automaton (Cond.code y_Model_automaton b_Model_automaton 5 (some .int) :: gWS) [.int y] H) 5 22 (fun p => b ≤ p) := by
  obtain ⟨c0, ad, org, srt, bt, tn, mp, wk, n, ks, vs, chg, tp, ud, tl, an, aks, aus, xs, us, so, w, ar, G, hQ, hx0, hP⟩ := hJ
  have ha := hQ.1
  have hR := hQ.2.1
  obtain ⟨⟨kk, hG⟩, ht, ⟨hv, hN, h3⟩, hf, ⟨ed, hp, he⟩, hA, hW⟩ := hP
  obtain ⟨gS, g16, sN, tN, rs, gA, gt⟩ := id hA
  have gf : a_fin aks an (a_pre aks an) aus := ha.2.2.2.2.2.2.2.2.2.2.2.1.2.2.2.2
  obtain ⟨g1, g2, g3⟩ := au_ans gS g16 gf gA gt
  rcases x04 y with ((rfl | rfl | rfl) | rfl | rfl) | ⟨hy1, hy2⟩
  · refine gC.up (c_Hall_automaton0 l D q H b c0 ad org srt bt tn mp wk n ks vs chg tp ud tl an aks aus xs us so ha ) (by decide) (by decide) (by decide) (by decide) (fun _ _ _ => trivial) ?_ (fun _ h => h)
    rintro r H1 ⟨rfl, h1, hz, fr⟩
    obtain ⟨hQ1, -, fb⟩ := lQ.hall hQ h1 (by omega) (fun k k1 k2 => Or.inl ⟨k2, rfl⟩) fr
    refine ⟨_, rfl, by omega, fb, ⟨_, hQ1.2.1.1⟩, ?_⟩
    refine gC.up (c_Model_automaton0 l D q H1 (b + 559) w ar hQ1.2.1 ) (by decide) (by decide) (by decide) (by decide) (fun _ _ _ => trivial) ?_ (fun p hp => by omega)
    rintro r H2 ⟨rfl, h2, hz2, fr2⟩
    exact ⟨by rw [gA.1, g1], ⟨_, _, _, _, _, _, _, _, _, _, _, _, _, _, _, _, _, _, _, _, _, _, _, _, _, hQ1.model h2 hz2 fr2, rfl, ⟨⟨kk, hG.eq (by omega) rfl rfl rfl rfl rfl⟩, ht.eq rfl rfl, ⟨hv.eq rfl rfl rfl rfl rfl, hN, h3⟩, hf.eq rfl rfl, ⟨ed, hp.eq rfl rfl rfl rfl rfl rfl, by omega⟩, hA.eq rfl rfl rfl rfl rfl rfl rfl, hW.eq rfl rfl rfl rfl rfl rfl⟩⟩, hz2, fun p hp => fr2 p (by omega)⟩
  · refine gC.up (c_Hall_automaton1 l D q H b c0 ad org srt bt tn mp wk n ks vs chg tp ud tl an aks aus xs us so ha ) (by decide) (by decide) (by decide) (by decide) (fun _ _ _ => trivial) ?_ (fun _ h => h)
    rintro r H1 ⟨rfl, h1, hz, fr⟩
    obtain ⟨hQ1, -, fb⟩ := lQ.hall hQ h1 (by omega) (fun k k1 k2 => Or.inl ⟨k2, rfl⟩) fr
    refine ⟨_, rfl, by omega, fb, ⟨_, hQ1.2.1.1⟩, ?_⟩
    refine gC.up (c_Model_automaton1 l D q H1 (b + 559) w ar hQ1.2.1 ) (by decide) (by decide) (by decide) (by decide) (fun _ _ _ => trivial) ?_ (fun p hp => by omega)
    rintro r H2 ⟨rfl, h2, hz2, fr2⟩
    exact ⟨by rw [gA.2.1, g2], ⟨_, _, _, _, _, _, _, _, _, _, _, _, _, _, _, _, _, _, _, _, _, _, _, _, _, hQ1.model h2 hz2 fr2, rfl, ⟨⟨kk, hG.eq (by omega) rfl rfl rfl rfl rfl⟩, ht.eq rfl rfl, ⟨hv.eq rfl rfl rfl rfl rfl, hN, h3⟩, hf.eq rfl rfl, ⟨ed, hp.eq rfl rfl rfl rfl rfl rfl, by omega⟩, hA.eq rfl rfl rfl rfl rfl rfl rfl, hW.eq rfl rfl rfl rfl rfl rfl⟩⟩, hz2, fun p hp => fr2 p (by omega)⟩
  · refine gC.up (c_Hall_automaton2 l D q H b c0 ad org srt bt tn mp wk n ks vs chg tp ud tl an aks aus xs us so ha ) (by decide) (by decide) (by decide) (by decide) (fun _ _ _ => trivial) ?_ (fun _ h => h)
    rintro r H1 ⟨rfl, h1, hz, fr⟩
    obtain ⟨hQ1, -, fb⟩ := lQ.hall hQ h1 (by omega) (fun k k1 k2 => Or.inl ⟨k2, rfl⟩) fr
    refine ⟨_, rfl, by omega, fb, ⟨_, hQ1.2.1.1⟩, ?_⟩
    refine gC.up (c_Model_automaton2 l D q H1 (b + 559) w ar hQ1.2.1 (kS aks an) sN tN rs gA) (by decide) (by decide) (by decide) (by decide) (fun _ _ _ => trivial) ?_ (fun p hp => by omega)
    rintro r H2 ⟨rfl, h2, hz2, fr2⟩
    exact ⟨by rw [g3], ⟨_, _, _, _, _, _, _, _, _, _, _, _, _, _, _, _, _, _, _, _, _, _, _, _, _, hQ1.model h2 hz2 fr2, rfl, ⟨⟨kk, hG.eq (by omega) rfl rfl rfl rfl rfl⟩, ht.eq rfl rfl, ⟨hv.eq rfl rfl rfl rfl rfl, hN, h3⟩, hf.eq rfl rfl, ⟨ed, hp.eq rfl rfl rfl rfl rfl rfl, by omega⟩, hA.eq rfl rfl rfl rfl rfl rfl rfl, hW.eq rfl rfl rfl rfl rfl rfl⟩⟩, hz2, fun p hp => fr2 p (by omega)⟩
  · by_cases e : an = 0
    · refine gC.up (c_Hall_automaton3 l D q H b c0 ad org srt bt tn mp wk n ks vs chg tp ud tl an aks aus xs us so ha ) (by decide) (by decide) (by decide) (by decide) (fun _ _ _ => trivial) ?_ (fun _ h => h)
      rintro r H1 ⟨rfl, h1, hz, fr⟩
      obtain ⟨hQ1, -, fb⟩ := lQ.hall hQ h1 (by omega) (fun k k1 k2 => Or.inl ⟨k2, rfl⟩) fr
      refine ⟨_, rfl, by omega, fb, ⟨_, hQ1.2.1.1⟩, ?_⟩
      refine gC.up (c_Model_automaton3E l D q H1 (b + 559) w ar hQ1.2.1 tp ht (gA.1.trans (by rw [(au_none gA).1 e]))) (by decide) (by decide) (by decide) (by decide) (fun _ _ _ => trivial) ?_ (fun p hp => by omega)
      rintro r H2 ⟨rfl, h2, hz2, fr2⟩
      exact ⟨by subst e; rfl, ⟨_, _, _, _, _, _, _, _, _, _, _, _, _, _, _, _, _, _, _, _, _, _, _, _, _, hQ1.model h2 hz2 fr2, rfl, ⟨⟨kk, hG.eq (by omega) rfl rfl rfl rfl rfl⟩, pT.nil rfl, ⟨hv.eq rfl rfl rfl rfl rfl, hN, h3⟩, hf.eq rfl rfl, ⟨ed, hp.eq rfl rfl rfl rfl rfl rfl, by omega⟩, hA.eq rfl rfl rfl rfl rfl rfl rfl, hW.eq rfl rfl rfl rfl rfl rfl⟩⟩, hz2, fun p hp => fr2 p (by omega)⟩
    · refine gC.up (c_Hall_automaton3 l D q H b c0 ad org srt bt tn mp wk n ks vs chg tp ud tl an aks aus xs us so ha ) (by decide) (by decide) (by decide) (by decide) (fun _ _ _ => trivial) ?_ (fun _ h => h)
      rintro r H1 ⟨rfl, h1, hz, fr⟩
      obtain ⟨hQ1, -, fb⟩ := lQ.hall hQ h1 (by omega) (fun k k1 k2 => Or.inl ⟨k2, rfl⟩) fr
      refine ⟨_, rfl, by omega, fb, ⟨_, hQ1.2.1.1⟩, ?_⟩
      refine gC.up (c_Model_automaton3 l D q H1 (b + 559) w ar hQ1.2.1 tp ht (kS aks an) sN tN rs gA ((au_none gA).2 (Nat.pos_of_ne_zero e))) (by decide) (by decide) (by decide) (by decide) (fun _ _ _ => trivial) ?_ (fun p hp => by omega)
      rintro r H2 ⟨⟨kx, rfl, b1, b2, b3⟩, h2, hz2, fr2⟩
      exact ⟨by rw [rv_ans (Nat.pos_of_ne_zero e) b1 b2 b3], ⟨_, _, _, _, _, _, _, _, _, _, _, _, _, _, _, _, _, _, _, _, _, _, _, _, _, hQ1.model h2 hz2 fr2, rfl, ⟨⟨kk, hG.eq (by omega) rfl rfl rfl rfl rfl⟩, pT.nil rfl, ⟨hv.eq rfl rfl rfl rfl rfl, hN, h3⟩, hf.eq rfl rfl, ⟨ed, hp.eq rfl rfl rfl rfl rfl rfl, by omega⟩, hA.eq rfl rfl rfl rfl rfl rfl rfl, hW.eq rfl rfl rfl rfl rfl rfl⟩⟩, hz2, fun p hp => fr2 p (by omega)⟩
  · by_cases e : an = 0
    · refine gC.up (c_Hall_automaton4 l D q H b c0 ad org srt bt tn mp wk n ks vs chg tp ud tl an aks aus xs us so ha ) (by decide) (by decide) (by decide) (by decide) (fun _ _ _ => trivial) ?_ (fun _ h => h)
      rintro r H1 ⟨rfl, h1, hz, fr⟩
      obtain ⟨hQ1, -, fb⟩ := lQ.hall hQ h1 (by omega) (fun k k1 k2 => Or.inl ⟨k2, rfl⟩) fr
      refine ⟨_, rfl, by omega, fb, ⟨_, hQ1.2.1.1⟩, ?_⟩
      refine gC.up (c_Model_automaton4E l D q H1 (b + 559) w ar hQ1.2.1 tp ht (gA.1.trans (by rw [(au_none gA).1 e]))) (by decide) (by decide) (by decide) (by decide) (fun _ _ _ => trivial) ?_ (fun p hp => by omega)
      rintro r H2 ⟨rfl, h2, hz2, fr2⟩
      exact ⟨by subst e; rfl, ⟨_, _, _, _, _, _, _, _, _, _, _, _, _, _, _, _, _, _, _, _, _, _, _, _, _, hQ1.model h2 hz2 fr2, rfl, ⟨⟨kk, hG.eq (by omega) rfl rfl rfl rfl rfl⟩, pT.nil rfl, ⟨hv.eq rfl rfl rfl rfl rfl, hN, h3⟩, hf.eq rfl rfl, ⟨ed, hp.eq rfl rfl rfl rfl rfl rfl, by omega⟩, hA.eq rfl rfl rfl rfl rfl rfl rfl, hW.eq rfl rfl rfl rfl rfl rfl⟩⟩, hz2, fun p hp => fr2 p (by omega)⟩
    · refine gC.up (c_Hall_automaton4 l D q H b c0 ad org srt bt tn mp wk n ks vs chg tp ud tl an aks aus xs us so ha ) (by decide) (by decide) (by decide) (by decide) (fun _ _ _ => trivial) ?_ (fun _ h => h)
      rintro r H1 ⟨rfl, h1, hz, fr⟩
      obtain ⟨hQ1, -, fb⟩ := lQ.hall hQ h1 (by omega) (fun k k1 k2 => Or.inl ⟨k2, rfl⟩) fr
      refine ⟨_, rfl, by omega, fb, ⟨_, hQ1.2.1.1⟩, ?_⟩
      refine gC.up (c_Model_automaton4 l D q H1 (b + 559) w ar hQ1.2.1 tp ht (kS aks an) sN tN rs gA ((au_none gA).2 (Nat.pos_of_ne_zero e))) (by decide) (by decide) (by decide) (by decide) (fun _ _ _ => trivial) ?_ (fun p hp => by omega)
      rintro r H2 ⟨⟨b1, b2⟩, h2, hz2, fr2⟩
      exact ⟨au_ac b1 b2, ⟨_, _, _, _, _, _, _, _, _, _, _, _, _, _, _, _, _, _, _, _, _, _, _, _, _, hQ1.model h2 hz2 fr2, rfl, ⟨⟨kk, hG.eq (by omega) rfl rfl rfl rfl rfl⟩, pT.nil rfl, ⟨hv.eq rfl rfl rfl rfl rfl, hN, h3⟩, hf.eq rfl rfl, ⟨ed, hp.eq rfl rfl rfl rfl rfl rfl, by omega⟩, hA.eq rfl rfl rfl rfl rfl rfl rfl, hW.eq rfl rfl rfl rfl rfl rfl⟩⟩, hz2, fun p hp => fr2 p (by omega)⟩
  · refine gC.up (c_Hall_automatonN l D q H b c0 ad org srt bt tn mp wk n ks vs chg tp ud tl an aks aus xs us so ha y hy1) (by decide) (by decide) (by decide) (by decide) (fun _ _ _ => trivial) ?_ (fun _ h => h)
    rintro r H1 ⟨rfl, h1, hz, fr⟩
    obtain ⟨hQ1, -, fb⟩ := lQ.hall hQ h1 (by omega) (fun k k1 k2 => Or.inl ⟨k2, rfl⟩) fr
    refine ⟨_, rfl, by omega, fb, ⟨_, hQ1.2.1.1⟩, ?_⟩
    refine gC.up (c_Model_automatonN l D q H1 (b + 559) w ar hQ1.2.1 y hy2) (by decide) (by decide) (by decide) (by decide) (fun _ _ _ => trivial) ?_ (fun p hp => by omega)
    rintro r H2 ⟨rfl, h2, hz2, fr2⟩
    exact ⟨rfl, ⟨_, _, _, _, _, _, _, _, _, _, _, _, _, _, _, _, _, _, _, _, _, _, _, _, _, hQ1.model h2 hz2 fr2, rfl, ⟨⟨kk, hG.eq (by omega) rfl rfl rfl rfl rfl⟩, ht.eq rfl rfl, ⟨hv.eq rfl rfl rfl rfl rfl, hN, h3⟩, hf.eq rfl rfl, ⟨ed, hp.eq rfl rfl rfl rfl rfl rfl, by omega⟩, hA.eq rfl rfl rfl rfl rfl rfl rfl, hW.eq rfl rfl rfl rfl rfl rfl⟩⟩, hz2, fun p hp => fr2 p (by omega)⟩
