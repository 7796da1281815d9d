/-! the automaton: pictures, and pure facts -/
def aK (D : va_G) (q : Nat → ClassId) (H : Heap) (ab : Nat) (ks : Nat → List Nat) : Prop :=
  (∃ f : Nat → Option Nat, va_at D CL (ab + 1, .inl (q 3, 64, .inr (.inr (.inr (.inr f))))) H ∧ ∀ i, i < 64 → f i = some (ab + 2 + 2 * i)) ∧ ∀ i, i < 64 → kA D q H (ab + 2 + 2 * i) (ks i)
theorem aK.kept {D : va_G} {q : Nat → ClassId} {H H1 : Heap} {ab : Nat} {ks : Nat → List Nat} (h : aK D q H ab ks) (hk : ∀ p : Nat, ab + 1 ≤ p → p ≤ ab + 129 → H1[p]? = H[p]?) : aK D q H1 ab ks := by
  obtain ⟨⟨f, hf, hfg⟩, hks⟩ := h
  exact ⟨⟨f, va_at.kept hf (hk _ (by omega) (by omega)), hfg⟩, fun i hi => (hks i hi).kept (hk _ (by omega) (by omega)) (hk _ (by omega) (by omega))⟩
/-- what follows a text of length len: the last letter seen from key fr on, and how many different ones -/
def a_lv : Option Nat → Int32
  | none => -1
  | some x => nI x
theorem a_lv_eq {x : Nat} {la : Option Nat} (hx : x < 65536) (hla : ∀ y, la = some y → y < 65536) : nI x = a_lv la ↔ la = some x := by
  cases la with
  | none => exact ⟨fun h => absurd (congrArg Int32.toInt h) (by rw [nI_toInt (by omega)]; show (x : Int) ≠ -1; omega), fun h => nomatch h⟩
  | some y =>
    have hy := hla y rfl
    refine ⟨fun h => ?_, fun h => by rw [Option.some.inj h]; rfl⟩
    have h1 := congrArg Int32.toInt h
    rw [show a_lv (some y) = nI y from rfl, nI_toInt (by omega), nI_toInt (by omega)] at h1
    rw [show y = x by omega]
def a_lat (ks : Nat → List Nat) (len fr : Nat) : Nat → Option Nat
  | 0 => none
  | i + 1 => if i < fr then none else if len < (ks i).length then some ((ks i).getD len 0) else a_lat ks len fr i
def a_fol (ks : Nat → List Nat) (len fr : Nat) : Nat → Nat
  | 0 => 0
  | i + 1 => if i < fr then 0 else a_fol ks len fr i + if len < (ks i).length ∧ a_lat ks len fr i ≠ some ((ks i).getD len 0) then 1 else 0
theorem a_lat_0 {ks : Nat → List Nat} {len fr : Nat} : a_lat ks len fr fr = none := by
  cases fr with
  | zero => rfl
  | succ n => rw [a_lat, if_pos (by omega)]
theorem a_fol_0 {ks : Nat → List Nat} {len fr : Nat} : a_fol ks len fr fr = 0 := by
  cases fr with
  | zero => rfl
  | succ n => rw [a_fol, if_pos (by omega)]
theorem a_lat_f {ks : Nat → List Nat} {len fr i : Nat} (h : fr ≤ i) (h1 : (ks i).length ≤ len) : a_lat ks len fr (i + 1) = a_lat ks len fr i := by
  rw [a_lat, if_neg (by omega), if_neg (by omega)]
theorem a_lat_t {ks : Nat → List Nat} {len fr i : Nat} (h : fr ≤ i) (h1 : len < (ks i).length) : a_lat ks len fr (i + 1) = some ((ks i).getD len 0) := by
  rw [a_lat, if_neg (by omega), if_pos h1]
theorem a_fol_f {ks : Nat → List Nat} {len fr i : Nat} (h : fr ≤ i) (h1 : ¬ (len < (ks i).length ∧ a_lat ks len fr i ≠ some ((ks i).getD len 0))) : a_fol ks len fr (i + 1) = a_fol ks len fr i := by
  rw [a_fol, if_neg (by omega), if_neg h1]; rfl
theorem a_fol_t {ks : Nat → List Nat} {len fr i : Nat} (h : fr ≤ i) (h1 : len < (ks i).length) (h2 : a_lat ks len fr i ≠ some ((ks i).getD len 0)) : a_fol ks len fr (i + 1) = a_fol ks len fr i + 1 := by
  rw [a_fol, if_neg (by omega), if_pos ⟨h1, h2⟩]
theorem a_fol_le (ks : Nat → List Nat) (len fr : Nat) : ∀ i, a_fol ks len fr i ≤ i
  | 0 => Nat.le_refl 0
  | i + 1 => by
    have := a_fol_le ks len fr i
    unfold a_fol
    split
    · omega
    · split <;> omega
/-- the same texts behind both -/
def a_alr (ks : Nat → List Nat) (f1 t1 n1 f2 t2 n2 : Nat) : Bool := decide (t1 - f1 = t2 - f2) && (List.range (t1 - f1)).all (fun i => decide ((ks (f1 + i)).drop n1 = (ks (f2 + i)).drop n2))
theorem a_alr_iff {ks : Nat → List Nat} {f1 t1 n1 f2 t2 n2 : Nat} : a_alr ks f1 t1 n1 f2 t2 n2 = true ↔ (t1 - f1 = t2 - f2 ∧ ∀ i, i < t1 - f1 → (ks (f1 + i)).drop n1 = (ks (f2 + i)).drop n2) := by
  unfold a_alr
  rw [Bool.and_eq_true, List.all_eq_true]
  exact ⟨fun h => ⟨of_decide_eq_true h.1, fun i hi => of_decide_eq_true (h.2 i (List.mem_range.mpr hi))⟩, fun h => ⟨decide_eq_true h.1, fun i hi => decide_eq_true (h.2 i (List.mem_range.mp hi))⟩⟩
/-- where the keys that begin alike end -/
def a_toF (ks : Nat → List Nat) (n fr len : Nat) : Nat → Nat → Nat
  | 0, t => t
  | f + 1, t => if t < n ∧ len ≤ t_lcp (ks t) (ks fr) then a_toF ks n fr len f (t + 1) else t
def a_hiF (ks : Nat → List Nat) (n fr len : Nat) : Nat → Nat → Nat → Nat
  | 0, _, m => m
  | f + 1, t, m => if t < n ∧ len ≤ t_lcp (ks t) (ks fr) then a_hiF ks n fr len f (t + 1) (if m < (ks t).length then (ks t).length else m) else m
def a_to (ks : Nat → List Nat) (n fr len : Nat) : Nat := a_toF ks n fr len (n - fr) fr
def a_he (ks : Nat → List Nat) (n fr len : Nat) : Nat := a_hiF ks n fr len (n - fr) fr len - len
theorem a_toF_end {ks : Nat → List Nat} {n fr len t : Nat} (h : ¬ (t < n ∧ len ≤ t_lcp (ks t) (ks fr))) : a_toF ks n fr len (n - t) t = t := by
  cases hf : n - t with
  | zero => rfl
  | succ u => rw [a_toF, if_neg h]
theorem a_hiF_end {ks : Nat → List Nat} {n fr len t m : Nat} (h : ¬ (t < n ∧ len ≤ t_lcp (ks t) (ks fr))) : a_hiF ks n fr len (n - t) t m = m := by
  cases hf : n - t with
  | zero => rfl
  | succ u => rw [a_hiF, if_neg h]
theorem a_toF_s {ks : Nat → List Nat} {n fr len t : Nat} (h : t < n) (h1 : len ≤ t_lcp (ks t) (ks fr)) : a_toF ks n fr len (n - t) t = a_toF ks n fr len (n - (t + 1)) (t + 1) := by
  rw [show n - t = (n - (t + 1)) + 1 by omega, a_toF, if_pos ⟨h, h1⟩]
theorem a_hiF_s {ks : Nat → List Nat} {n fr len t m : Nat} (h : t < n) (h1 : len ≤ t_lcp (ks t) (ks fr)) : a_hiF ks n fr len (n - t) t m = a_hiF ks n fr len (n - (t + 1)) (t + 1) (if m < (ks t).length then (ks t).length else m) := by
  rw [show n - t = (n - (t + 1)) + 1 by omega, a_hiF, if_pos ⟨h, h1⟩]
theorem a_toF_run (ks : Nat → List Nat) (n fr len : Nat) : ∀ (f t : Nat), t ≤ n → t ≤ a_toF ks n fr len f t ∧ a_toF ks n fr len f t ≤ n ∧ ∀ j, t ≤ j → j < a_toF ks n fr len f t → len ≤ t_lcp (ks j) (ks fr)
  | 0, t, h => ⟨Nat.le_refl t, h, fun j h1 (h2 : j < t) => by omega⟩
  | f + 1, t, h => by
    unfold a_toF
    split
    · rename_i h1
      obtain ⟨a1, a2, a3⟩ := a_toF_run ks n fr len f (t + 1) (by omega)
      refine ⟨by omega, a2, fun j h2 h3 => ?_⟩
      by_cases h4 : j = t
      · rw [h4]; exact h1.2
      · exact a3 j (by omega) h3
    · exact ⟨Nat.le_refl t, h, fun j h1 h2 => by omega⟩
theorem a_hiF_le (ks : Nat → List Nat) (n fr len : Nat) (hk : ∀ i, i < n → (ks i).length ≤ 8) : ∀ (f t m : Nat), m ≤ 8 → a_hiF ks n fr len f t m ≤ 8
  | 0, _, m, h => h
  | f + 1, t, m, h => by
    unfold a_hiF
    split
    · rename_i h1
      have := hk t h1.1
      exact a_hiF_le ks n fr len hk f (t + 1) _ (by split <;> omega)
    · exact h
theorem t_lcp_self (xs : List Nat) : t_lcp xs xs = xs.length := t_lcp_eq xs xs xs.length (Nat.le_refl _) (Nat.le_refl _) (fun _ _ => rfl) (Or.inl rfl)
theorem a_to_ok {ks : Nat → List Nat} {n fr len : Nat} (h : fr < n) (h1 : len ≤ (ks fr).length) : fr < a_to ks n fr len ∧ a_to ks n fr len ≤ n ∧ ∀ j, fr ≤ j → j < a_to ks n fr len → len ≤ (ks j).length := by
  unfold a_to
  rw [a_toF_s h (by rw [t_lcp_self]; exact h1)]
  obtain ⟨a1, a2, a3⟩ := a_toF_run ks n fr len (n - (fr + 1)) (fr + 1) (by omega)
  refine ⟨by omega, a2, fun j h2 h3 => ?_⟩
  by_cases h4 : j = fr
  · rw [h4]; exact h1
  · exact Nat.le_trans (a3 j (by omega) h3) (t_lcp_le1 _ _)
theorem a_he_le {ks : Nat → List Nat} {n fr len : Nat} (hk : ∀ i, i < n → (ks i).length ≤ 8) (h : len ≤ 8) : a_he ks n fr len ≤ 8 := by
  have := a_hiF_le ks n fr len hk (n - fr) fr len h
  unfold a_he
  omega
/-- the texts with which keys begin: key and length -/
def a_f (es : List (Nat × Nat)) (x : Nat) : Nat := (es.getD x (0, 0)).1
def a_n (es : List (Nat × Nat)) (x : Nat) : Nat := (es.getD x (0, 0)).2
def a_t (ks : Nat → List Nat) (n : Nat) (es : List (Nat × Nat)) (x : Nat) : Nat := a_to ks n (a_f es x) (a_n es x)
def a_h (ks : Nat → List Nat) (n : Nat) (es : List (Nat × Nat)) (x : Nat) : Nat := a_he ks n (a_f es x) (a_n es x)
def a_ok (ks : Nat → List Nat) (n : Nat) (es : List (Nat × Nat)) : Prop := ∀ x, x < es.length → a_f es x < n ∧ a_n es x ≤ (ks (a_f es x)).length
def aE (ks : Nat → List Nat) (n : Nat) (es : List (Nat × Nat)) (F T L G : Nat → Int32) : Prop := ∀ x, x < es.length → F x = nI (a_f es x) ∧ T x = nI (a_t ks n es x) ∧ L x = nI (a_n es x) ∧ G x = nI (a_h ks n es x)
theorem a_f_app {es : List (Nat × Nat)} {z : Nat × Nat} {x : Nat} (h : x < es.length) : a_f (es ++ [z]) x = a_f es x := by
  unfold a_f; rw [List.getD_eq_getElem?_getD, List.getD_eq_getElem?_getD, List.getElem?_append_left h]
theorem a_n_app {es : List (Nat × Nat)} {z : Nat × Nat} {x : Nat} (h : x < es.length) : a_n (es ++ [z]) x = a_n es x := by
  unfold a_n; rw [List.getD_eq_getElem?_getD, List.getD_eq_getElem?_getD, List.getElem?_append_left h]
theorem a_f_last {es : List (Nat × Nat)} {z : Nat × Nat} : a_f (es ++ [z]) es.length = z.1 := by
  unfold a_f; rw [List.getD_eq_getElem?_getD]; simp
theorem a_n_last {es : List (Nat × Nat)} {z : Nat × Nat} : a_n (es ++ [z]) es.length = z.2 := by
  unfold a_n; rw [List.getD_eq_getElem?_getD]; simp
theorem a_ok.app {ks : Nat → List Nat} {n i len : Nat} {es : List (Nat × Nat)} (h : a_ok ks n es) (hi : i < n) (hl : len ≤ (ks i).length) : a_ok ks n (es ++ [(i, len)]) := by
  intro x hx
  rw [List.length_append, List.length_singleton] at hx
  by_cases h1 : x = es.length
  · rw [h1, a_f_last, a_n_last]; exact ⟨hi, hl⟩
  · rw [a_f_app (by omega), a_n_app (by omega)]; exact h x (by omega)
theorem aE.app {ks : Nat → List Nat} {n i len t m : Nat} {es : List (Nat × Nat)} {F T L G : Nat → Int32} (h : aE ks n es F T L G) (ht : a_to ks n i len = t) (hm : a_he ks n i len = m) :
    aE ks n (es ++ [(i, len)]) (upd F es.length (nI i)) (upd T es.length (nI t)) (upd L es.length (nI len)) (upd G es.length (nI m)) := by
  intro x hx
  rw [List.length_append, List.length_singleton] at hx
  by_cases h1 : x = es.length
  · rw [h1, pk_us, pk_us, pk_us, pk_us]
    unfold a_t a_h
    rw [a_f_last, a_n_last, ht, hm]
    exact ⟨rfl, rfl, rfl, rfl⟩
  · rw [pk_un h1, pk_un h1, pk_un h1, pk_un h1]
    unfold a_t a_h
    rw [a_f_app (by omega), a_n_app (by omega)]
    exact h x (by omega)
def a_sh (ks : Nat → List Nat) (i : Nat) : Nat := if i = 0 then 0 else t_lcp (ks i) (ks (i - 1)) + 1
def a_seg (i sh : Nat) : Nat → List (Nat × Nat)
  | 0 => []
  | c + 1 => a_seg i sh c ++ [(i, sh + c)]
def a_pre (ks : Nat → List Nat) : Nat → List (Nat × Nat)
  | 0 => []
  | i + 1 => a_pre ks i ++ a_seg i (a_sh ks i) ((ks i).length + 1 - a_sh ks i)
theorem a_seg_len (i sh : Nat) : ∀ c, (a_seg i sh c).length = c
  | 0 => rfl
  | c + 1 => by rw [a_seg, List.length_append, a_seg_len i sh c, List.length_singleton]
theorem a_pre_len {ks : Nat → List Nat} {n : Nat} (hk : ∀ i, i < n → (ks i).length ≤ 8) : ∀ i, i ≤ n → (a_pre ks i).length ≤ 1 + 8 * i
  | 0, _ => by show 0 ≤ _; omega
  | i + 1, h => by
    have h1 := a_pre_len hk i (by omega)
    have h2 := hk i (by omega)
    rw [a_pre, List.length_append, a_seg_len]
    by_cases h3 : i = 0
    · subst h3
      have h4 : (a_pre ks 0).length = 0 := rfl
      omega
    · have h5 : 1 ≤ a_sh ks i := by unfold a_sh; rw [if_neg h3]; omega
      omega
/-- the states: one text for each -/
def a_al (ks : Nat → List Nat) (n : Nat) (es : List (Nat × Nat)) (x y : Nat) : Bool := a_alr ks (a_f es x) (a_t ks n es x) (a_n es x) (a_f es y) (a_t ks n es y) (a_n es y)
def a_kn (ks : Nat → List Nat) (n : Nat) (es : List (Nat × Nat)) (us : List Nat) (f0 x : Nat) : Bool := (List.range us.length).any (fun t => decide (f0 ≤ t) && a_al ks n es x (us.getD t 0))
theorem a_kn_iff {ks : Nat → List Nat} {n : Nat} {es : List (Nat × Nat)} {us : List Nat} {f0 x : Nat} : a_kn ks n es us f0 x = true ↔ ∃ t, f0 ≤ t ∧ t < us.length ∧ a_al ks n es x (us.getD t 0) = true := by
  unfold a_kn
  rw [List.any_eq_true]
  refine ⟨fun ⟨t, h1, h2⟩ => ?_, fun ⟨t, h1, h2, h3⟩ => ⟨t, List.mem_range.mpr h2, by rw [decide_eq_true h1, h3]; rfl⟩⟩
  rw [Bool.and_eq_true] at h2
  exact ⟨t, of_decide_eq_true h2.1, List.mem_range.mp h1, h2.2⟩
theorem a_pig : ∀ (P : Nat) (us : List Nat), us.Nodup → (∀ u, u ∈ us → u < P) → us.length ≤ P
  | 0, us, _, h => by
    cases us with
    | nil => exact Nat.le_refl 0
    | cons a b => exact absurd (h a (by simp)) (Nat.not_lt_zero _)
  | P + 1, us, hn, h => by
    have h1 := a_pig P (us.erase P) (hn.erase P) (fun u hu => by
      have h2 := hn.mem_erase_iff.mp hu
      have h3 := h u h2.2
      have h4 := h2.1
      omega)
    rw [List.length_erase] at h1
    split at h1 <;> omega
def a_stI (ks : Nat → List Nat) (n : Nat) (es : List (Nat × Nat)) (h x : Nat) (us : List Nat) : Prop :=
  us.Nodup ∧ (∀ u, u ∈ us → u < es.length ∧ (a_h ks n es u < h ∨ a_h ks n es u = h ∧ u < x)) ∧ us.Pairwise (fun a b => a_h ks n es a = a_h ks n es b → ¬ a_al ks n es b a = true) ∧
  ∀ y, y < es.length → a_h ks n es y < h ∨ a_h ks n es y = h ∧ y < x → ∃ u, u ∈ us ∧ a_h ks n es u = a_h ks n es y ∧ (y = u ∨ a_al ks n es y u = true)
/-- the texts up to place f0 are lower than h, those from there on of height h -/
def a_lo (ks : Nat → List Nat) (n : Nat) (es : List (Nat × Nat)) (h f0 : Nat) (us : List Nat) : Prop := f0 ≤ us.length ∧ (∀ t, t < f0 → a_h ks n es (us.getD t 0) < h) ∧ ∀ t, f0 ≤ t → t < us.length → a_h ks n es (us.getD t 0) = h
theorem a_mem {us : List Nat} {t : Nat} (h : t < us.length) : us.getD t 0 ∈ us := by
  rw [List.getD_eq_getElem?_getD, List.getElem?_eq_getElem h]
  exact List.getElem_mem h
theorem a_stI.lt {ks : Nat → List Nat} {n h x : Nat} {es : List (Nat × Nat)} {us : List Nat} (hs : a_stI ks n es h x us) (hx : x < es.length) (hh : a_h ks n es x = h) : us.length < es.length := by
  obtain ⟨h1, h2, h3, h4⟩ := hs
  have hm : x ∉ us := fun h9 => by
    have := (h2 x h9).2
    omega
  have h5 := a_pig es.length (x :: us) (List.nodup_cons.mpr ⟨hm, h1⟩) (fun u hu => by
    rcases List.mem_cons.mp hu with h6 | h6
    · rw [h6]; exact hx
    · exact (h2 u h6).1)
  rw [List.length_cons] at h5
  omega
theorem a_stI.skip {ks : Nat → List Nat} {n h x : Nat} {es : List (Nat × Nat)} {us : List Nat} (hs : a_stI ks n es h x us) (hh : ¬ a_h ks n es x = h) : a_stI ks n es h (x + 1) us := by
  obtain ⟨h1, h2, h3, h4⟩ := hs
  refine ⟨h1, fun u hu => ⟨(h2 u hu).1, by have := (h2 u hu).2; omega⟩, h3, fun y hy h5 => h4 y hy ?_⟩
  rcases h5 with h5 | h5
  · exact Or.inl h5
  · by_cases h6 : y = x
    · rw [h6] at h5; exact absurd h5.1 hh
    · exact Or.inr ⟨h5.1, by omega⟩
theorem a_stI.known {ks : Nat → List Nat} {n h x f0 : Nat} {es : List (Nat × Nat)} {us : List Nat} (hs : a_stI ks n es h x us) (hl : a_lo ks n es h f0 us) (hh : a_h ks n es x = h) (hk : a_kn ks n es us f0 x = true) : a_stI ks n es h (x + 1) us := by
  obtain ⟨h1, h2, h3, h4⟩ := hs
  refine ⟨h1, fun u hu => ⟨(h2 u hu).1, by have := (h2 u hu).2; omega⟩, h3, fun y hy h5 => ?_⟩
  by_cases h6 : y = x
  · obtain ⟨t, k1, k2, k3⟩ := a_kn_iff.mp hk
    exact ⟨us.getD t 0, a_mem k2, by rw [hl.2.2 t k1 k2, h6, hh], Or.inr (by rw [h6]; exact k3)⟩
  · exact h4 y hy (by omega)
theorem a_stI.add {ks : Nat → List Nat} {n h x f0 : Nat} {es : List (Nat × Nat)} {us : List Nat} (hs : a_stI ks n es h x us) (hl : a_lo ks n es h f0 us) (hx : x < es.length) (hh : a_h ks n es x = h) (hk : ¬ a_kn ks n es us f0 x = true) : a_stI ks n es h (x + 1) (us ++ [x]) := by
  obtain ⟨h1, h2, h3, h4⟩ := hs
  have hm : x ∉ us := fun h9 => by
    have := (h2 x h9).2
    omega
  refine ⟨?_, fun u hu => ?_, ?_, fun y hy h5 => ?_⟩
  · rw [List.nodup_append]
    refine ⟨h1, by simp, fun a ha b hb => ?_⟩
    rw [List.mem_singleton.mp hb]
    exact fun h9 => hm (h9 ▸ ha)
  · rcases List.mem_append.mp hu with h6 | h6
    · exact ⟨(h2 u h6).1, by have := (h2 u h6).2; omega⟩
    · rw [List.mem_singleton.mp h6]
      exact ⟨hx, Or.inr ⟨hh, by omega⟩⟩
  · rw [List.pairwise_append]
    refine ⟨h3, by simp, fun a ha b hb h7 h8 => ?_⟩
    rw [List.mem_singleton.mp hb] at h7 h8
    obtain ⟨t, ht, hat⟩ := List.getElem_of_mem ha
    have e1 : us.getD t 0 = a := by rw [List.getD_eq_getElem?_getD, List.getElem?_eq_getElem ht, hat]; rfl
    rcases Nat.lt_or_ge t f0 with h9 | h9
    · have := hl.2.1 t h9
      rw [e1] at this
      omega
    · exact hk (a_kn_iff.mpr ⟨t, h9, ht, by rw [e1]; exact h8⟩)
  · by_cases h6 : y = x
    · exact ⟨x, by simp, by rw [h6], Or.inl h6⟩
    · obtain ⟨u, k1, k2⟩ := h4 y hy (by omega)
      exact ⟨u, List.mem_append.mpr (Or.inl k1), k2⟩
theorem a_lo.add {ks : Nat → List Nat} {n h x f0 : Nat} {es : List (Nat × Nat)} {us : List Nat} (hl : a_lo ks n es h f0 us) (hh : a_h ks n es x = h) : a_lo ks n es h f0 (us ++ [x]) := by
  obtain ⟨h1, h2, h3⟩ := hl
  refine ⟨by rw [List.length_append]; omega, fun t ht => ?_, fun t k1 k2 => ?_⟩
  · rw [t_get_app (by omega)]; exact h2 t ht
  · rw [List.length_append, List.length_singleton] at k2
    by_cases h4 : t = us.length
    · rw [h4, t_get_last]; exact hh
    · rw [t_get_app (by omega)]; exact h3 t k1 (by omega)
theorem a_stI.next {ks : Nat → List Nat} {n h : Nat} {es : List (Nat × Nat)} {us : List Nat} (hs : a_stI ks n es h es.length us) : a_stI ks n es (h + 1) 0 us := by
  obtain ⟨h1, h2, h3, h4⟩ := hs
  exact ⟨h1, fun u hu => ⟨(h2 u hu).1, by have := (h2 u hu).2; omega⟩, h3, fun y hy h5 => h4 y hy (by omega)⟩
theorem a_stI.lo {ks : Nat → List Nat} {n h : Nat} {es : List (Nat × Nat)} {us : List Nat} (hs : a_stI ks n es h 0 us) : a_lo ks n es h us.length us :=
  ⟨Nat.le_refl _, fun t ht => by have := (hs.2.1 _ (a_mem ht)).2; omega, fun t k1 k2 => by omega⟩
theorem a_stI_0 {ks : Nat → List Nat} {n : Nat} {es : List (Nat × Nat)} : a_stI ks n es 0 0 [] := ⟨List.nodup_nil, fun u hu => absurd hu (by simp), List.Pairwise.nil, fun y hy h5 => by omega⟩
/-- a full set of states -/
def a_fin (ks : Nat → List Nat) (n : Nat) (es : List (Nat × Nat)) (us : List Nat) : Prop :=
  us.Nodup ∧ (∀ u, u ∈ us → u < es.length) ∧ us.Pairwise (fun a b => a_h ks n es a = a_h ks n es b → ¬ a_al ks n es b a = true) ∧ ∀ y, y < es.length → ∃ u, u ∈ us ∧ a_h ks n es u = a_h ks n es y ∧ (y = u ∨ a_al ks n es y u = true)
theorem a_stI.fin {ks : Nat → List Nat} {n : Nat} {es : List (Nat × Nat)} {us : List Nat} (hs : a_stI ks n es 9 0 us) (hk : ∀ i, i < n → (ks i).length ≤ 8) (ho : a_ok ks n es) : a_fin ks n es us := by
  obtain ⟨h1, h2, h3, h4⟩ := hs
  refine ⟨h1, fun u hu => (h2 u hu).1, h3, fun y hy => h4 y hy (Or.inl ?_)⟩
  have a1 := ho y hy
  have a2 := hk _ a1.1
  have := a_he_le (ks := ks) (n := n) (fr := a_f es y) (len := a_n es y) hk (by omega)
  unfold a_h
  omega
def a_sum (f : Nat → Nat) (us : List Nat) : Nat := (us.map f).sum
theorem a_sum_app (f : Nat → Nat) (us : List Nat) (x : Nat) : a_sum f (us ++ [x]) = a_sum f us + f x := by
  unfold a_sum; rw [List.map_append, List.sum_append]; simp
/-- the steps from a state, and whether it is final -/
def a_stp (ks : Nat → List Nat) (n : Nat) (es : List (Nat × Nat)) (x : Nat) : Nat := a_fol ks (a_n es x) (a_f es x) (a_t ks n es x)
def a_fnl (ks : Nat → List Nat) (es : List (Nat × Nat)) (x : Nat) : Nat := if (ks (a_f es x)).length = a_n es x then 1 else 0
def a_rn (ks : Nat → List Nat) (ys : List Nat) : Nat → Nat
  | 0 => t_lcp (ks 0) ys
  | i + 1 => if a_rn ks ys i < t_lcp (ks (i + 1)) ys then t_lcp (ks (i + 1)) ys else a_rn ks ys i
theorem a_rn_le {ks : Nat → List Nat} {ys : List Nat} : ∀ i, a_rn ks ys i ≤ ys.length
  | 0 => t_lcp_le2 _ _
  | i + 1 => by
    have h1 := a_rn_le (ks := ks) (ys := ys) i
    have h2 := t_lcp_le2 (ks (i + 1)) ys
    unfold a_rn
    split <;> omega
/-- how far a text can be followed -/
def a_rv (ks : Nat → List Nat) (ys : List Nat) : Nat → Int32
  | 0 => -1
  | i + 1 => nI (a_rn ks ys i)
theorem a_rv_s {ks : Nat → List Nat} {ys : List Nat} (hy : ys.length ≤ 8) (i : Nat) : (if a_rv ks ys i < nI (t_lcp (ks i) ys) then nI (t_lcp (ks i) ys) else a_rv ks ys i) = a_rv ks ys (i + 1) := by
  have h2 := t_lcp_le2 (ks i) ys
  cases i with
  | zero =>
    rw [if_pos]
    · rfl
    · rw [Int32.lt_iff_toInt_lt, nI_toInt (by omega)]
      show (-1 : Int) < _
      omega
  | succ i =>
    have h3 := a_rn_le (ks := ks) (ys := ys) i
    show (if nI (a_rn ks ys i) < _ then _ else nI (a_rn ks ys i)) = nI (a_rn ks ys (i + 1))
    rw [gn_max (by omega) (by omega)]
    rfl
def a_ac (ks : Nat → List Nat) (n : Nat) (ys : List Nat) : Bool := (List.range n).any (fun i => decide (ks i = ys))
theorem a_ac_iff {ks : Nat → List Nat} {n : Nat} {ys : List Nat} : a_ac ks n ys = true ↔ ∃ i, i < n ∧ ks i = ys := by
  unfold a_ac
  rw [List.any_eq_true]
  exact ⟨fun ⟨t, h1, h2⟩ => ⟨t, List.mem_range.mp h1, of_decide_eq_true h2⟩, fun ⟨t, h1, h2⟩ => ⟨t, List.mem_range.mpr h1, decide_eq_true h2⟩⟩
theorem a_t_ok {ks : Nat → List Nat} {n : Nat} {es : List (Nat × Nat)} (h : a_ok ks n es) {x : Nat} (hx : x < es.length) : a_f es x < a_t ks n es x ∧ a_t ks n es x ≤ n ∧ ∀ j, a_f es x ≤ j → j < a_t ks n es x → a_n es x ≤ (ks j).length := a_to_ok (h x hx).1 (h x hx).2
/-- the texts listed so far, in the midst of key i -/
def a_es (ks : Nat → List Nat) (i len : Nat) : List (Nat × Nat) := a_pre ks i ++ a_seg i (a_sh ks i) (len - a_sh ks i)
theorem a_es_0 (ks : Nat → List Nat) (i : Nat) : a_es ks i (a_sh ks i) = a_pre ks i := by unfold a_es; rw [Nat.sub_self, a_seg, List.append_nil]
theorem a_es_s {ks : Nat → List Nat} {i len : Nat} (h : a_sh ks i ≤ len) : a_es ks i len ++ [(i, len)] = a_es ks i (len + 1) := by
  unfold a_es; rw [show len + 1 - a_sh ks i = (len - a_sh ks i) + 1 by omega, a_seg, show a_sh ks i + (len - a_sh ks i) = len by omega, List.append_assoc]
theorem a_es_end {ks : Nat → List Nat} {i len : Nat} (h : (ks i).length < len) (h1 : len ≤ (ks i).length + 1 ∨ len = a_sh ks i) : a_es ks i len = a_pre ks (i + 1) := by
  unfold a_es; rw [a_pre, show len - a_sh ks i = (ks i).length + 1 - a_sh ks i by omega]
theorem a_es_len {ks : Nat → List Nat} {n i len : Nat} (hk : ∀ j, j < n → (ks j).length ≤ 8) (hn : n ≤ 64) (hi : i < n) (h : a_sh ks i ≤ len) (h1 : len ≤ (ks i).length) : (a_es ks i len).length < 513 := by
  have a1 := a_pre_len hk i (by omega)
  have a2 := hk i hi
  unfold a_es
  rw [List.length_append, a_seg_len]
  by_cases h3 : i = 0
  · subst h3
    have h4 : (a_pre ks 0).length = 0 := rfl
    omega
  · have h5 : 1 ≤ a_sh ks i := by unfold a_sh; rw [if_neg h3]; omega
    omega
theorem a_pre_ok {ks : Nat → List Nat} {n : Nat} : ∀ i, i ≤ n → a_ok ks n (a_pre ks i)
  | 0, _ => fun x hx => absurd hx (Nat.not_lt_zero x)
  | i + 1, h => by
    have h1 := a_pre_ok (ks := ks) i (by omega : i ≤ n)
    have h2 : ∀ c, c ≤ (ks i).length + 1 - a_sh ks i → a_ok ks n (a_pre ks i ++ a_seg i (a_sh ks i) c) := by
      intro c
      induction c with
      | zero => intro _; rw [a_seg, List.append_nil]; exact h1
      | succ c ih =>
        intro hc
        rw [a_seg, ← List.append_assoc]
        exact (ih (by omega)).app (by omega) (by omega)
    exact h2 _ (Nat.le_refl _)
theorem a_h_le {ks : Nat → List Nat} {n : Nat} {es : List (Nat × Nat)} (hk : ∀ i, i < n → (ks i).length ≤ 8) (ho : a_ok ks n es) {y : Nat} (hy : y < es.length) : a_h ks n es y ≤ 8 := by
  have a1 := ho y hy
  have a2 := hk _ a1.1
  exact a_he_le (ks := ks) (n := n) (fr := a_f es y) (len := a_n es y) hk (by omega)
/-- the first i keys written over -/
def a_cp (km : Nat → List Nat) (f0 : Nat) (ks : Nat → List Nat) (i : Nat) : Nat → List Nat := fun j => if j < i then km (f0 + j) else ks j
theorem a_cp_0 (km : Nat → List Nat) (f0 : Nat) (ks : Nat → List Nat) : a_cp km f0 ks 0 = ks := by
  funext j; unfold a_cp; rw [if_neg (by omega)]
theorem aK.cp {D : va_G} {q : Nat → ClassId} {H H1 : Heap} {ab i f0 : Nat} {km ks : Nat → List Nat} (h : aK D q H ab (a_cp km f0 ks i)) (hi : i < 64) (h1 : kA D q H1 (ab + 2 + 2 * i) (km (f0 + i))) (fr : ∀ p : Nat, ¬ (p = ab + 2 + 2 * i ∨ p = ab + 2 + 2 * i + 1) → H1[p]? = H[p]?) : aK D q H1 ab (a_cp km f0 ks (i + 1)) := by
  obtain ⟨⟨f, hf, hfg⟩, hks⟩ := h
  refine ⟨⟨f, va_at.kept hf (fr _ (by omega)), hfg⟩, fun j hj => ?_⟩
  unfold a_cp
  by_cases h2 : j = i
  · rw [h2, if_pos (by omega)]; exact h1
  · have h3 := (hks j hj).kept (fr _ (by omega)) (fr _ (by omega))
    unfold a_cp at h3
    by_cases h4 : j < i
    · rw [if_pos h4] at h3; rw [if_pos (by omega)]; exact h3
    · rw [if_neg h4] at h3; rw [if_neg (by omega)]; exact h3
/-- the whole automaton: of n keys ks, its states us -/
def aA (D : va_G) (q : Nat → ClassId) (H : Heap) (ab n : Nat) (ks : Nat → List Nat) (us : List Nat) : Prop :=
  va_at D CL (ab, .inr (5, [.ref (ab + 1), .int (nI n), .ref (ab + 130), .ref (ab + 131), .ref (ab + 132), .ref (ab + 133), .int (nI (a_pre ks n).length), .ref (ab + 134), .int (nI us.length), .int (nI (a_sum (a_stp ks n (a_pre ks n)) us)), .int (nI (a_sum (a_fnl ks (a_pre ks n)) us))])) H ∧ aK D q H ab ks ∧ n ≤ 64 ∧
  (∃ F T L G U : Nat → Int32, va_at D CL (ab + 130, .inl (q 0, 513, .inl F)) H ∧ va_at D CL (ab + 131, .inl (q 0, 513, .inl T)) H ∧ va_at D CL (ab + 132, .inl (q 0, 513, .inl L)) H ∧ va_at D CL (ab + 133, .inl (q 0, 513, .inl G)) H ∧ va_at D CL (ab + 134, .inl (q 0, 513, .inl U)) H) ∧ a_fin ks n (a_pre ks n) us
theorem aA.kept {D : va_G} {q : Nat → ClassId} {H H1 : Heap} {ab n : Nat} {ks : Nat → List Nat} {us : List Nat} (h : aA D q H ab n ks us) (hk : ∀ p : Nat, ab ≤ p → p ≤ ab + 134 → H1[p]? = H[p]?) : aA D q H1 ab n ks us := by
  obtain ⟨h1, h2, h3, ⟨F, T, L, G, U, k1, k2, k3, k4, k5⟩, h4⟩ := h
  exact ⟨va_at.kept h1 (hk _ (by omega) (by omega)), h2.kept (fun p a b => hk p (by omega) (by omega)), h3, ⟨F, T, L, G, U, va_at.kept k1 (hk _ (by omega) (by omega)), va_at.kept k2 (hk _ (by omega) (by omega)), va_at.kept k3 (hk _ (by omega) (by omega)), va_at.kept k4 (hk _ (by omega) (by omega)), va_at.kept k5 (hk _ (by omega) (by omega))⟩, h4⟩
theorem a_fin_0 {ks : Nat → List Nat} : a_fin ks 0 (a_pre ks 0) [] := ⟨List.nodup_nil, fun u hu => absurd hu (by simp), List.Pairwise.nil, fun y hy => absurd hy (Nat.not_lt_zero y)⟩
