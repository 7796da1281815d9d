section
/-- a private method of a class that the tables say can be made, by its rows of tables_1 -/
def lw_okq (q : MethodName × Nat) : Prop := (q.1.cls ≠ "java/lang/invoke/MethodHandle" ∧ q.1.cls ≠ "java/lang/invoke/VarHandle") ∧ Cond.instantiable q.1.cls q.2 ∈ tables_1 ∧ Cond.privateMethod q.1 ∈ tables_1 ∧ Cond.instanceMethod q.1 ∈ tables_1
theorem lw_p0 : lw_okq (⟨"KeyHall", "isView", "(I)Z"⟩, 8) := ⟨⟨by decide +kernel, by decide +kernel⟩, List.mem_of_getElem? (i := 22) (by decide +kernel), List.mem_of_getElem? (i := 301) (by decide +kernel), List.mem_of_getElem? (i := 302) (by decide +kernel)⟩
theorem lw_p1 : lw_okq (⟨"KeyHall", "measured", "(I)LKeyHall$View;"⟩, 8) := ⟨⟨by decide +kernel, by decide +kernel⟩, List.mem_of_getElem? (i := 22) (by decide +kernel), List.mem_of_getElem? (i := 305) (by decide +kernel), List.mem_of_getElem? (i := 306) (by decide +kernel)⟩
theorem lw_p2 : lw_okq (⟨"KeyHall", "viewNumbered", "(I)LKeyHall$View;"⟩, 8) := ⟨⟨by decide +kernel, by decide +kernel⟩, List.mem_of_getElem? (i := 22) (by decide +kernel), List.mem_of_getElem? (i := 309) (by decide +kernel), List.mem_of_getElem? (i := 310) (by decide +kernel)⟩
theorem lw_p3 : lw_okq (⟨"java/lang/Throwable", "fillInStackTrace", "(I)Ljava/lang/Throwable;"⟩, 6) := ⟨⟨by decide +kernel, by decide +kernel⟩, List.mem_of_getElem? (i := 352) (by decide +kernel), List.mem_of_getElem? (i := 350) (by decide +kernel), List.mem_of_getElem? (i := 351) (by decide +kernel)⟩
theorem lw_p4 : lw_okq (⟨"KeyHall", "useTape", "()V"⟩, 8) := ⟨⟨by decide +kernel, by decide +kernel⟩, List.mem_of_getElem? (i := 22) (by decide +kernel), List.mem_of_getElem? (i := 421) (by decide +kernel), List.mem_of_getElem? (i := 422) (by decide +kernel)⟩
theorem lw_p5 : lw_okq (⟨"KeyHall", "tell", "(LKeyHall$View;I)I"⟩, 8) := ⟨⟨by decide +kernel, by decide +kernel⟩, List.mem_of_getElem? (i := 22) (by decide +kernel), List.mem_of_getElem? (i := 621) (by decide +kernel), List.mem_of_getElem? (i := 622) (by decide +kernel)⟩
theorem lw_p6 : lw_okq (⟨"KeyHallModel", "isView", "(I)Z"⟩, 39) := ⟨⟨by decide +kernel, by decide +kernel⟩, List.mem_of_getElem? (i := 803) (by decide +kernel), List.mem_of_getElem? (i := 940) (by decide +kernel), List.mem_of_getElem? (i := 941) (by decide +kernel)⟩
theorem lw_p7 : lw_okq (⟨"KeyHallModel", "raise", "(I)I"⟩, 39) := ⟨⟨by decide +kernel, by decide +kernel⟩, List.mem_of_getElem? (i := 803) (by decide +kernel), List.mem_of_getElem? (i := 944) (by decide +kernel), List.mem_of_getElem? (i := 945) (by decide +kernel)⟩
theorem lw_p8 : lw_okq (⟨"KeyHallModel", "within", "(I[III)Z"⟩, 39) := ⟨⟨by decide +kernel, by decide +kernel⟩, List.mem_of_getElem? (i := 803) (by decide +kernel), List.mem_of_getElem? (i := 952) (by decide +kernel), List.mem_of_getElem? (i := 953) (by decide +kernel)⟩
theorem lw_p9 : lw_okq (⟨"KeyHallModel", "mapOf", "(I)I"⟩, 39) := ⟨⟨by decide +kernel, by decide +kernel⟩, List.mem_of_getElem? (i := 803) (by decide +kernel), List.mem_of_getElem? (i := 962) (by decide +kernel), List.mem_of_getElem? (i := 963) (by decide +kernel)⟩
theorem lw_p10 : lw_okq (⟨"KeyHallModel", "keyOf", "(I[III)I"⟩, 39) := ⟨⟨by decide +kernel, by decide +kernel⟩, List.mem_of_getElem? (i := 803) (by decide +kernel), List.mem_of_getElem? (i := 966) (by decide +kernel), List.mem_of_getElem? (i := 967) (by decide +kernel)⟩
theorem lw_p11 : lw_okq (⟨"KeyHallModel", "orderOf", "(I[III)I"⟩, 39) := ⟨⟨by decide +kernel, by decide +kernel⟩, List.mem_of_getElem? (i := 803) (by decide +kernel), List.mem_of_getElem? (i := 970) (by decide +kernel), List.mem_of_getElem? (i := 971) (by decide +kernel)⟩
theorem lw_p12 : lw_okq (⟨"KeyHallModel", "used", "(I)I"⟩, 39) := ⟨⟨by decide +kernel, by decide +kernel⟩, List.mem_of_getElem? (i := 803) (by decide +kernel), List.mem_of_getElem? (i := 978) (by decide +kernel), List.mem_of_getElem? (i := 979) (by decide +kernel)⟩
theorem lw_p13 : lw_okq (⟨"KeyHallModel", "clear", "(II)V"⟩, 39) := ⟨⟨by decide +kernel, by decide +kernel⟩, List.mem_of_getElem? (i := 803) (by decide +kernel), List.mem_of_getElem? (i := 986) (by decide +kernel), List.mem_of_getElem? (i := 987) (by decide +kernel)⟩
theorem lw_p14 : lw_okq (⟨"KeyHallModel", "has", "(II)Z"⟩, 39) := ⟨⟨by decide +kernel, by decide +kernel⟩, List.mem_of_getElem? (i := 803) (by decide +kernel), List.mem_of_getElem? (i := 994) (by decide +kernel), List.mem_of_getElem? (i := 995) (by decide +kernel)⟩
theorem lw_p15 : lw_okq (⟨"KeyHallModel", "nearest", "(IZZ[III)I"⟩, 39) := ⟨⟨by decide +kernel, by decide +kernel⟩, List.mem_of_getElem? (i := 803) (by decide +kernel), List.mem_of_getElem? (i := 1002) (by decide +kernel), List.mem_of_getElem? (i := 1003) (by decide +kernel)⟩
def lw_privs_1 : List (MethodName × Nat) := [(⟨"KeyHall", "isView", "(I)Z"⟩, 8), (⟨"KeyHall", "measured", "(I)LKeyHall$View;"⟩, 8), (⟨"KeyHall", "viewNumbered", "(I)LKeyHall$View;"⟩, 8), (⟨"java/lang/Throwable", "fillInStackTrace", "(I)Ljava/lang/Throwable;"⟩, 6), (⟨"KeyHall", "useTape", "()V"⟩, 8), (⟨"KeyHall", "tell", "(LKeyHall$View;I)I"⟩, 8), (⟨"KeyHallModel", "isView", "(I)Z"⟩, 39), (⟨"KeyHallModel", "raise", "(I)I"⟩, 39), (⟨"KeyHallModel", "within", "(I[III)Z"⟩, 39), (⟨"KeyHallModel", "mapOf", "(I)I"⟩, 39), (⟨"KeyHallModel", "keyOf", "(I[III)I"⟩, 39), (⟨"KeyHallModel", "orderOf", "(I[III)I"⟩, 39), (⟨"KeyHallModel", "used", "(I)I"⟩, 39), (⟨"KeyHallModel", "clear", "(II)V"⟩, 39), (⟨"KeyHallModel", "has", "(II)Z"⟩, 39), (⟨"KeyHallModel", "nearest", "(IZZ[III)I"⟩, 39)]
theorem lw_r1 : ∀ q ∈ lw_privs_1, lw_okq q := List.forall_mem_cons.mpr ⟨lw_p0, List.forall_mem_cons.mpr ⟨lw_p1, List.forall_mem_cons.mpr ⟨lw_p2, List.forall_mem_cons.mpr ⟨lw_p3, List.forall_mem_cons.mpr ⟨lw_p4, List.forall_mem_cons.mpr ⟨lw_p5, List.forall_mem_cons.mpr ⟨lw_p6, List.forall_mem_cons.mpr ⟨lw_p7, List.forall_mem_cons.mpr ⟨lw_p8, List.forall_mem_cons.mpr ⟨lw_p9, List.forall_mem_cons.mpr ⟨lw_p10, List.forall_mem_cons.mpr ⟨lw_p11, List.forall_mem_cons.mpr ⟨lw_p12, List.forall_mem_cons.mpr ⟨lw_p13, List.forall_mem_cons.mpr ⟨lw_p14, List.forall_mem_cons.mpr ⟨lw_p15, fun _ h => absurd h List.not_mem_nil⟩⟩⟩⟩⟩⟩⟩⟩⟩⟩⟩⟩⟩⟩⟩⟩
theorem lw_p16 : lw_okq (⟨"KeyHallModel", "side", "(II[III)I"⟩, 39) := ⟨⟨by decide +kernel, by decide +kernel⟩, List.mem_of_getElem? (i := 803) (by decide +kernel), List.mem_of_getElem? (i := 1006) (by decide +kernel), List.mem_of_getElem? (i := 1007) (by decide +kernel)⟩
theorem lw_p17 : lw_okq (⟨"KeyHallModel", "isTurned", "(I)Z"⟩, 39) := ⟨⟨by decide +kernel, by decide +kernel⟩, List.mem_of_getElem? (i := 803) (by decide +kernel), List.mem_of_getElem? (i := 1010) (by decide +kernel), List.mem_of_getElem? (i := 1011) (by decide +kernel)⟩
theorem lw_p18 : lw_okq (⟨"KeyHallModel", "tell", "(II)I"⟩, 39) := ⟨⟨by decide +kernel, by decide +kernel⟩, List.mem_of_getElem? (i := 803) (by decide +kernel), List.mem_of_getElem? (i := 1014) (by decide +kernel), List.mem_of_getElem? (i := 1015) (by decide +kernel)⟩
theorem lw_p19 : lw_okq (⟨"KeyHallModel", "longest", "(II)I"⟩, 39) := ⟨⟨by decide +kernel, by decide +kernel⟩, List.mem_of_getElem? (i := 803) (by decide +kernel), List.mem_of_getElem? (i := 1018) (by decide +kernel), List.mem_of_getElem? (i := 1019) (by decide +kernel)⟩
theorem lw_p20 : lw_okq (⟨"KeyHallModel", "stale", "(I)Z"⟩, 39) := ⟨⟨by decide +kernel, by decide +kernel⟩, List.mem_of_getElem? (i := 803) (by decide +kernel), List.mem_of_getElem? (i := 1043) (by decide +kernel), List.mem_of_getElem? (i := 1044) (by decide +kernel)⟩
theorem lw_p21 : lw_okq (⟨"KeyHallModel", "inner", "(I)I"⟩, 39) := ⟨⟨by decide +kernel, by decide +kernel⟩, List.mem_of_getElem? (i := 803) (by decide +kernel), List.mem_of_getElem? (i := 1059) (by decide +kernel), List.mem_of_getElem? (i := 1060) (by decide +kernel)⟩
theorem lw_p22 : lw_okq (⟨"KeyHallModel", "fan", "(II)I"⟩, 39) := ⟨⟨by decide +kernel, by decide +kernel⟩, List.mem_of_getElem? (i := 803) (by decide +kernel), List.mem_of_getElem? (i := 1063) (by decide +kernel), List.mem_of_getElem? (i := 1064) (by decide +kernel)⟩
theorem lw_p23 : lw_okq (⟨"KeyHallModel", "sameBytes", "(III)Z"⟩, 39) := ⟨⟨by decide +kernel, by decide +kernel⟩, List.mem_of_getElem? (i := 803) (by decide +kernel), List.mem_of_getElem? (i := 1067) (by decide +kernel), List.mem_of_getElem? (i := 1068) (by decide +kernel)⟩
theorem lw_p24 : lw_okq (⟨"KeyHallModel", "octet", "(II)I"⟩, 39) := ⟨⟨by decide +kernel, by decide +kernel⟩, List.mem_of_getElem? (i := 803) (by decide +kernel), List.mem_of_getElem? (i := 1071) (by decide +kernel), List.mem_of_getElem? (i := 1072) (by decide +kernel)⟩
theorem lw_p25 : lw_okq (⟨"KeyHallModel", "depth", "(I)I"⟩, 39) := ⟨⟨by decide +kernel, by decide +kernel⟩, List.mem_of_getElem? (i := 803) (by decide +kernel), List.mem_of_getElem? (i := 1075) (by decide +kernel), List.mem_of_getElem? (i := 1076) (by decide +kernel)⟩
theorem lw_p26 : lw_okq (⟨"KeyHallModel", "bit", "(II)I"⟩, 39) := ⟨⟨by decide +kernel, by decide +kernel⟩, List.mem_of_getElem? (i := 803) (by decide +kernel), List.mem_of_getElem? (i := 1079) (by decide +kernel), List.mem_of_getElem? (i := 1080) (by decide +kernel)⟩
theorem lw_p27 : lw_okq (⟨"KeyHallModel", "prefixesOf", "(II)V"⟩, 39) := ⟨⟨by decide +kernel, by decide +kernel⟩, List.mem_of_getElem? (i := 803) (by decide +kernel), List.mem_of_getElem? (i := 1087) (by decide +kernel), List.mem_of_getElem? (i := 1088) (by decide +kernel)⟩
theorem lw_p28 : lw_okq (⟨"KeyHallModel", "samePrefix", "(III)Z"⟩, 39) := ⟨⟨by decide +kernel, by decide +kernel⟩, List.mem_of_getElem? (i := 803) (by decide +kernel), List.mem_of_getElem? (i := 1091) (by decide +kernel), List.mem_of_getElem? (i := 1092) (by decide +kernel)⟩
theorem lw_p29 : lw_okq (⟨"KeyHallModel", "state", "(II)V"⟩, 39) := ⟨⟨by decide +kernel, by decide +kernel⟩, List.mem_of_getElem? (i := 803) (by decide +kernel), List.mem_of_getElem? (i := 1095) (by decide +kernel), List.mem_of_getElem? (i := 1096) (by decide +kernel)⟩
theorem lw_p30 : lw_okq (⟨"KeyHallModel", "endsAt", "(II)Z"⟩, 39) := ⟨⟨by decide +kernel, by decide +kernel⟩, List.mem_of_getElem? (i := 803) (by decide +kernel), List.mem_of_getElem? (i := 1099) (by decide +kernel), List.mem_of_getElem? (i := 1100) (by decide +kernel)⟩
theorem lw_p31 : lw_okq (⟨"KeyHallModel", "follows", "(II)Z"⟩, 39) := ⟨⟨by decide +kernel, by decide +kernel⟩, List.mem_of_getElem? (i := 803) (by decide +kernel), List.mem_of_getElem? (i := 1103) (by decide +kernel), List.mem_of_getElem? (i := 1104) (by decide +kernel)⟩
def lw_privs_2 : List (MethodName × Nat) := [(⟨"KeyHallModel", "side", "(II[III)I"⟩, 39), (⟨"KeyHallModel", "isTurned", "(I)Z"⟩, 39), (⟨"KeyHallModel", "tell", "(II)I"⟩, 39), (⟨"KeyHallModel", "longest", "(II)I"⟩, 39), (⟨"KeyHallModel", "stale", "(I)Z"⟩, 39), (⟨"KeyHallModel", "inner", "(I)I"⟩, 39), (⟨"KeyHallModel", "fan", "(II)I"⟩, 39), (⟨"KeyHallModel", "sameBytes", "(III)Z"⟩, 39), (⟨"KeyHallModel", "octet", "(II)I"⟩, 39), (⟨"KeyHallModel", "depth", "(I)I"⟩, 39), (⟨"KeyHallModel", "bit", "(II)I"⟩, 39), (⟨"KeyHallModel", "prefixesOf", "(II)V"⟩, 39), (⟨"KeyHallModel", "samePrefix", "(III)Z"⟩, 39), (⟨"KeyHallModel", "state", "(II)V"⟩, 39), (⟨"KeyHallModel", "endsAt", "(II)Z"⟩, 39), (⟨"KeyHallModel", "follows", "(II)Z"⟩, 39)]
theorem lw_r2 : ∀ q ∈ lw_privs_2, lw_okq q := List.forall_mem_cons.mpr ⟨lw_p16, List.forall_mem_cons.mpr ⟨lw_p17, List.forall_mem_cons.mpr ⟨lw_p18, List.forall_mem_cons.mpr ⟨lw_p19, List.forall_mem_cons.mpr ⟨lw_p20, List.forall_mem_cons.mpr ⟨lw_p21, List.forall_mem_cons.mpr ⟨lw_p22, List.forall_mem_cons.mpr ⟨lw_p23, List.forall_mem_cons.mpr ⟨lw_p24, List.forall_mem_cons.mpr ⟨lw_p25, List.forall_mem_cons.mpr ⟨lw_p26, List.forall_mem_cons.mpr ⟨lw_p27, List.forall_mem_cons.mpr ⟨lw_p28, List.forall_mem_cons.mpr ⟨lw_p29, List.forall_mem_cons.mpr ⟨lw_p30, List.forall_mem_cons.mpr ⟨lw_p31, fun _ h => absurd h List.not_mem_nil⟩⟩⟩⟩⟩⟩⟩⟩⟩⟩⟩⟩⟩⟩⟩⟩
theorem lw_p32 : lw_okq (⟨"KeyHallModel", "stepsOf", "(I)I"⟩, 39) := ⟨⟨by decide +kernel, by decide +kernel⟩, List.mem_of_getElem? (i := 803) (by decide +kernel), List.mem_of_getElem? (i := 1107) (by decide +kernel), List.mem_of_getElem? (i := 1108) (by decide +kernel)⟩
theorem lw_p33 : lw_okq (⟨"KeyHallModel", "alike", "(II)Z"⟩, 39) := ⟨⟨by decide +kernel, by decide +kernel⟩, List.mem_of_getElem? (i := 803) (by decide +kernel), List.mem_of_getElem? (i := 1111) (by decide +kernel), List.mem_of_getElem? (i := 1112) (by decide +kernel)⟩
theorem lw_p34 : lw_okq (⟨"KeyHallModel", "go", "(II)I"⟩, 39) := ⟨⟨by decide +kernel, by decide +kernel⟩, List.mem_of_getElem? (i := 803) (by decide +kernel), List.mem_of_getElem? (i := 1115) (by decide +kernel), List.mem_of_getElem? (i := 1116) (by decide +kernel)⟩
theorem lw_p35 : lw_okq (⟨"KeyHallModel", "keep", "()V"⟩, 39) := ⟨⟨by decide +kernel, by decide +kernel⟩, List.mem_of_getElem? (i := 803) (by decide +kernel), List.mem_of_getElem? (i := 1127) (by decide +kernel), List.mem_of_getElem? (i := 1128) (by decide +kernel)⟩
theorem lw_p36 : lw_okq (⟨"KeyHallModel", "begin", "(I)I"⟩, 39) := ⟨⟨by decide +kernel, by decide +kernel⟩, List.mem_of_getElem? (i := 803) (by decide +kernel), List.mem_of_getElem? (i := 1147) (by decide +kernel), List.mem_of_getElem? (i := 1148) (by decide +kernel)⟩
def lw_privs_3 : List (MethodName × Nat) := [(⟨"KeyHallModel", "stepsOf", "(I)I"⟩, 39), (⟨"KeyHallModel", "alike", "(II)Z"⟩, 39), (⟨"KeyHallModel", "go", "(II)I"⟩, 39), (⟨"KeyHallModel", "keep", "()V"⟩, 39), (⟨"KeyHallModel", "begin", "(I)I"⟩, 39)]
theorem lw_r3 : ∀ q ∈ lw_privs_3, lw_okq q := List.forall_mem_cons.mpr ⟨lw_p32, List.forall_mem_cons.mpr ⟨lw_p33, List.forall_mem_cons.mpr ⟨lw_p34, List.forall_mem_cons.mpr ⟨lw_p35, List.forall_mem_cons.mpr ⟨lw_p36, fun _ h => absurd h List.not_mem_nil⟩⟩⟩⟩⟩
def lw_privs : List (MethodName × Nat) := lw_privs_1 ++ (lw_privs_2 ++ (lw_privs_3))
def lw_tbl : List Cond := k2_sels lw_privs ++ tables_1
theorem lw_privs_ok : ∀ q ∈ lw_privs, lw_okq q := by
  show ∀ q ∈ lw_privs_1 ++ (lw_privs_2 ++ (lw_privs_3)), lw_okq q
  exact List.forall_mem_append.mpr ⟨lw_r1, List.forall_mem_append.mpr ⟨lw_r2, lw_r3⟩⟩
end
section
/-! own rows, 1: a frame's variables as a list; cells one by one, by the heap itself; contracts over a given heap -/
section GL
def gl_l : Nat → List (Option Value) → List (Nat × Value)
  | _, [] => []
  | i, none :: r => gl_l (i + 1) r
  | i, some v :: r => (i, v) :: gl_l (i + 1) r
theorem gl_mem : ∀ (L : List (Option Value)) (k i : Nat) (v : Value), (i, v) ∈ gl_l k L ↔ ∃ j, i = k + j ∧ L[j]? = some (some v)
  | [], k, i, v => by simp [gl_l]
  | none :: r, k, i, v => by
    rw [gl_l, gl_mem r (k + 1) i v]
    constructor
    · rintro ⟨j, h1, h2⟩
      exact ⟨j + 1, by omega, by simpa using h2⟩
    · rintro ⟨j, h1, h2⟩
      cases j with
      | zero => simp at h2
      | succ j => exact ⟨j, by omega, by simpa using h2⟩
  | some w :: r, k, i, v => by
    rw [gl_l, List.mem_cons, gl_mem r (k + 1) i v]
    constructor
    · rintro (h | ⟨j, h1, h2⟩)
      · cases h
        exact ⟨0, by omega, rfl⟩
      · exact ⟨j + 1, by omega, by simpa using h2⟩
    · rintro ⟨j, h1, h2⟩
      cases j with
      | zero =>
        simp at h2
        subst h2
        exact Or.inl (by rw [h1]; rfl)
      | succ j => exact Or.inr ⟨j, by omega, by simpa using h2⟩
def gl (ls : Array Slot) (L : List (Option Value)) : Prop := lv_has ls L.length (gl_l 0 L)
theorem gl_at {ls : Array Slot} {L : List (Option Value)} {i : Nat} {v : Value} (h : gl ls L) (hk : L[i]? = some (some v)) : ls[i]? = some (.val v) := h.2.2 (i, v) ((gl_mem L 0 i v).mpr ⟨i, by omega, hk⟩)
def gl_ok (L : List (Option Value)) : Nat → Bool
  | 0 => true
  | j + 1 => match L[j]? with
    | some (some w) => w.category == 1
    | _ => true
theorem gl_of {ls' : Array Slot} {L : List (Option Value)} {i : Nat} {v : Value} (ho : gl_ok L i = true) (hi : i < L.length) (h : lv_has ls' L.length ((i, v) :: (gl_l 0 L).filter (fun q => !(q.1 == i) && !(q.1 + 1 == i && q.2.category == 2)))) : gl ls' (L.set i (some v)) := by
  refine ⟨by rw [h.1]; simp, h.2.1, fun q hq => ?_⟩
  obtain ⟨j, w⟩ := q
  obtain ⟨j', hj, hw⟩ := (gl_mem _ 0 j w).mp hq
  have e : j = j' := by omega
  subst e
  by_cases hji : j = i
  · subst hji
    rw [List.getElem?_set_self hi] at hw
    cases hw
    exact h.2.2 (j, v) List.mem_cons_self
  · rw [List.getElem?_set_ne (Ne.symm hji)] at hw
    refine h.2.2 (j, w) (List.mem_cons_of_mem _ (List.mem_filter.mpr ⟨(gl_mem L 0 j w).mpr ⟨j, by omega, hw⟩, ?_⟩))
    by_cases h1 : j + 1 = i
    · subst h1
      simp only [gl_ok, hw] at ho
      have h2 : w.category = 1 := by simpa using ho
      simp [h2]
    · simp [hji, h1]
theorem gl_forget {ls : Array Slot} {L : List (Option Value)} (h : gl ls L) (i : Nat) : gl ls (L.set i none) := by
  refine ⟨by rw [h.1]; simp, h.2.1, fun q hq => ?_⟩
  obtain ⟨j, w⟩ := q
  obtain ⟨j', hj, hw⟩ := (gl_mem _ 0 j w).mp hq
  have e : j = j' := by omega
  subst e
  by_cases hji : j = i
  · subst hji
    by_cases hl : j < L.length
    · rw [List.getElem?_set_self hl] at hw
      cases hw
    · rw [List.getElem?_eq_none (by simp; omega)] at hw
      cases hw
  · rw [List.getElem?_set_ne (Ne.symm hji)] at hw
    exact h.2.2 (j, w) ((gl_mem L 0 j w).mpr ⟨j, by omega, hw⟩)
end GL
section GR
variable {p : Program} {l : Launch} {e : Env} {R : Room} {s : State} {m : MethodId} {args : Array Value} {below : List Frame} {meth : Method} {c : Code} {H : Heap} {locs : List Loc} {cells slots : Nat} {Q : State → Prop}
variable {cc : ByteArray} {pc : Nat} {ls : Array Slot} {rest : List Value} {L : List (Option Value)}
theorem g_entry {vs : List Value} {n : Nat} (L : List (Option Value)) (hL : gl_l 0 L = lv_args 0 vs) (hn : L.length = n) (hle : (lg_sl vs).length ≤ n)
    (k : ∀ ls : Array Slot, gl ls L → W p l e R s m args below meth c H locs cells slots Q (F0 m 0 ls [])) : W p l e R s m args below meth c H locs cells slots Q (entryFrame m vs.toArray n) := by
  rw [lg_entry_eq]
  refine k _ ?_
  unfold gl
  rw [hn, hL]
  exact lv_entry vs hle
theorem g_istn (hexec : p.tables.exec = Jvm.exec) (hb : c.code = cc) {k : Fin 4} {x : Int32} (h : gl ls L) (i : Nat) (hdg : decode cc pc = .ok (.istore_n k, 1)) (hi : (k : Nat) = i) (hn : i < L.length) (ho : gl_ok L i = true)
    (kk : ∀ ls' : Array Slot, gl ls' (L.set i (some (.int x))) → W p l e R s m args below meth c H locs cells slots Q (F0 m (pc + 1) ls' rest)) : W p l e R s m args below meth c H locs cells slots Q (F0 m pc ls (.int x :: rest)) :=
  lv_istore_n hexec hb hdg hi h hn rfl (fun ls' h' => kk ls' (gl_of ho hn h'))
theorem g_ist (hexec : p.tables.exec = Jvm.exec) (hb : c.code = cc) {x : Int32} (h : gl ls L) (i : Nat) (hdg : decode cc pc = .ok (.istore i, 2)) (hn : i < L.length) (ho : gl_ok L i = true)
    (kk : ∀ ls' : Array Slot, gl ls' (L.set i (some (.int x))) → W p l e R s m args below meth c H locs cells slots Q (F0 m (pc + 2) ls' rest)) : W p l e R s m args below meth c H locs cells slots Q (F0 m pc ls (.int x :: rest)) :=
  lv_istore hexec hb hdg h hn rfl (fun ls' h' => kk ls' (gl_of ho hn h'))
theorem g_astn (hexec : p.tables.exec = Jvm.exec) (hb : c.code = cc) {k : Fin 4} {x : Nat} (h : gl ls L) (i : Nat) (hdg : decode cc pc = .ok (.astore_n k, 1)) (hi : (k : Nat) = i) (hn : i < L.length) (ho : gl_ok L i = true)
    (kk : ∀ ls' : Array Slot, gl ls' (L.set i (some (.ref x))) → W p l e R s m args below meth c H locs cells slots Q (F0 m (pc + 1) ls' rest)) : W p l e R s m args below meth c H locs cells slots Q (F0 m pc ls (.ref x :: rest)) :=
  lv_astore_n hexec hb hdg hi h hn rfl (fun ls' h' => kk ls' (gl_of ho hn h'))
theorem g_ast (hexec : p.tables.exec = Jvm.exec) (hb : c.code = cc) {x : Nat} (h : gl ls L) (i : Nat) (hdg : decode cc pc = .ok (.astore i, 2)) (hn : i < L.length) (ho : gl_ok L i = true)
    (kk : ∀ ls' : Array Slot, gl ls' (L.set i (some (.ref x))) → W p l e R s m args below meth c H locs cells slots Q (F0 m (pc + 2) ls' rest)) : W p l e R s m args below meth c H locs cells slots Q (F0 m pc ls (.ref x :: rest)) :=
  lv_astore hexec hb hdg h hn rfl (fun ls' h' => kk ls' (gl_of ho hn h'))
theorem g_iinc (hexec : p.tables.exec = Jvm.exec) (hb : c.code = cc) {n : Int} {x : Int32} (v : Int32) (h : gl ls L) (i : Nat) (hdg : decode cc pc = .ok (.iinc i n, 3)) (hk : L[i]? = some (some (.int x))) (hv : x + Int32.ofInt n = v) (ho : gl_ok L i = true)
    (kk : ∀ ls' : Array Slot, gl ls' (L.set i (some (.int v))) → W p l e R s m args below meth c H locs cells slots Q (F0 m (pc + 3) ls' rest)) : W p l e R s m args below meth c H locs cells slots Q (F0 m pc ls rest) := by
  have hn : i < L.length := (List.getElem?_eq_some_iff.mp hk).1
  obtain ⟨k, hk'⟩ := List.getElem?_of_mem ((gl_mem L 0 i (.int x)).mpr ⟨i, by omega, hk⟩)
  exact lv_iinc hexec hb hdg h hk' hv hn rfl (fun ls' h' => kk ls' (gl_of ho hn h'))
theorem g_top {x : Int32} (y : Int32) (e1 : x = y) (k : W p l e R s m args below meth c H locs cells slots Q (F0 m pc ls (.int y :: rest))) : W p l e R s m args below meth c H locs cells slots Q (F0 m pc ls (.int x :: rest)) := e1 ▸ k
theorem g_topv {x : Value} (y : Value) (e1 : x = y) (k : W p l e R s m args below meth c H locs cells slots Q (F0 m pc ls (y :: rest))) : W p l e R s m args below meth c H locs cells slots Q (F0 m pc ls (x :: rest)) := e1 ▸ k
/-! branches over numbers -/
theorem gn_ge (hexec : p.tables.exec = Jvm.exec) (hb : c.code = cc) (a b : Nat) {off : Int} {tgt : Nat} (ha : a < 2 ^ 31) (h2 : b < 2 ^ 31) (hdg : decode cc pc = .ok (.if_icmp .ge off, 3)) (ht : (pc : Int) + off = (tgt : Int))
    (kt : b ≤ a → W p l e R s m args below meth c H locs cells slots Q (F0 m tgt ls rest)) (kf : a < b → W p l e R s m args below meth c H locs cells slots Q (F0 m (pc + 3) ls rest)) : W p l e R s m args below meth c H locs cells slots Q (F0 m pc ls (.int (nI b) :: .int (nI a) :: rest)) :=
  lv_icmp_ge hexec hb hdg ht (fun h => kt ((nI_leI h2 ha).mp h)) (fun h => kf (Nat.not_le.mp fun q => h ((nI_leI h2 ha).mpr q)))
theorem gn_lt (hexec : p.tables.exec = Jvm.exec) (hb : c.code = cc) (a b : Nat) {off : Int} {tgt : Nat} (ha : a < 2 ^ 31) (h2 : b < 2 ^ 31) (hdg : decode cc pc = .ok (.if_icmp .lt off, 3)) (ht : (pc : Int) + off = (tgt : Int))
    (kt : a < b → W p l e R s m args below meth c H locs cells slots Q (F0 m tgt ls rest)) (kf : b ≤ a → W p l e R s m args below meth c H locs cells slots Q (F0 m (pc + 3) ls rest)) : W p l e R s m args below meth c H locs cells slots Q (F0 m pc ls (.int (nI b) :: .int (nI a) :: rest)) :=
  lv_icmp_lt hexec hb hdg ht (fun h => kt ((nI_ltI ha h2).mp h)) (fun h => kf (Nat.not_lt.mp fun q => h ((nI_ltI ha h2).mpr q)))
theorem gn_gt (hexec : p.tables.exec = Jvm.exec) (hb : c.code = cc) (a b : Nat) {off : Int} {tgt : Nat} (ha : a < 2 ^ 31) (h2 : b < 2 ^ 31) (hdg : decode cc pc = .ok (.if_icmp .gt off, 3)) (ht : (pc : Int) + off = (tgt : Int))
    (kt : b < a → W p l e R s m args below meth c H locs cells slots Q (F0 m tgt ls rest)) (kf : a ≤ b → W p l e R s m args below meth c H locs cells slots Q (F0 m (pc + 3) ls rest)) : W p l e R s m args below meth c H locs cells slots Q (F0 m pc ls (.int (nI b) :: .int (nI a) :: rest)) :=
  lv_icmp_gt hexec hb hdg ht (fun h => kt ((nI_ltI h2 ha).mp h)) (fun h => kf (Nat.not_lt.mp fun q => h ((nI_ltI h2 ha).mpr q)))
theorem gn_le (hexec : p.tables.exec = Jvm.exec) (hb : c.code = cc) (a b : Nat) {off : Int} {tgt : Nat} (ha : a < 2 ^ 31) (h2 : b < 2 ^ 31) (hdg : decode cc pc = .ok (.if_icmp .le off, 3)) (ht : (pc : Int) + off = (tgt : Int))
    (kt : a ≤ b → W p l e R s m args below meth c H locs cells slots Q (F0 m tgt ls rest)) (kf : b < a → W p l e R s m args below meth c H locs cells slots Q (F0 m (pc + 3) ls rest)) : W p l e R s m args below meth c H locs cells slots Q (F0 m pc ls (.int (nI b) :: .int (nI a) :: rest)) :=
  lv_icmp_le hexec hb hdg ht (fun h => kt ((nI_leI ha h2).mp h)) (fun h => kf (Nat.not_le.mp fun q => h ((nI_leI ha h2).mpr q)))
theorem gn_eq (hexec : p.tables.exec = Jvm.exec) (hb : c.code = cc) (a b : Nat) {off : Int} {tgt : Nat} (ha : a < 2 ^ 31) (h2 : b < 2 ^ 31) (hdg : decode cc pc = .ok (.if_icmp .eq off, 3)) (ht : (pc : Int) + off = (tgt : Int))
    (kt : a = b → W p l e R s m args below meth c H locs cells slots Q (F0 m tgt ls rest)) (kf : a ≠ b → W p l e R s m args below meth c H locs cells slots Q (F0 m (pc + 3) ls rest)) : W p l e R s m args below meth c H locs cells slots Q (F0 m pc ls (.int (nI b) :: .int (nI a) :: rest)) :=
  lv_icmp_eq hexec hb hdg ht (fun h => kt ((nI_eq ha h2).mp h)) (fun h => kf (fun q => h ((nI_eq ha h2).mpr q)))
theorem gn_ne (hexec : p.tables.exec = Jvm.exec) (hb : c.code = cc) (a b : Nat) {off : Int} {tgt : Nat} (ha : a < 2 ^ 31) (h2 : b < 2 ^ 31) (hdg : decode cc pc = .ok (.if_icmp .ne off, 3)) (ht : (pc : Int) + off = (tgt : Int))
    (kt : a ≠ b → W p l e R s m args below meth c H locs cells slots Q (F0 m tgt ls rest)) (kf : a = b → W p l e R s m args below meth c H locs cells slots Q (F0 m (pc + 3) ls rest)) : W p l e R s m args below meth c H locs cells slots Q (F0 m pc ls (.int (nI b) :: .int (nI a) :: rest)) :=
  lv_icmp_ne hexec hb hdg ht (fun h => kt (fun q => h ((nI_eq ha h2).mpr q))) (fun h => kf ((nI_eq ha h2).mp h))
theorem gn_eq0 (hexec : p.tables.exec = Jvm.exec) (hb : c.code = cc) (a : Nat) {off : Int} {tgt : Nat} (ha : a < 2 ^ 31) (hdg : decode cc pc = .ok (.ifCond .eq off, 3)) (ht : (pc : Int) + off = (tgt : Int))
    (kt : a = 0 → W p l e R s m args below meth c H locs cells slots Q (F0 m tgt ls rest)) (kf : a ≠ 0 → W p l e R s m args below meth c H locs cells slots Q (F0 m (pc + 3) ls rest)) : W p l e R s m args below meth c H locs cells slots Q (F0 m pc ls (.int (nI a) :: rest)) :=
  lv_if_eq hexec hb hdg ht (fun h => kt ((nI_eq ha (by decide)).mp (h.trans nI_0.symm))) (fun h => kf (fun q => h (by rw [q]; exact nI_0)))
theorem gn_ne0 (hexec : p.tables.exec = Jvm.exec) (hb : c.code = cc) (a : Nat) {off : Int} {tgt : Nat} (ha : a < 2 ^ 31) (hdg : decode cc pc = .ok (.ifCond .ne off, 3)) (ht : (pc : Int) + off = (tgt : Int))
    (kt : a ≠ 0 → W p l e R s m args below meth c H locs cells slots Q (F0 m tgt ls rest)) (kf : a = 0 → W p l e R s m args below meth c H locs cells slots Q (F0 m (pc + 3) ls rest)) : W p l e R s m args below meth c H locs cells slots Q (F0 m pc ls (.int (nI a) :: rest)) :=
  lv_if_ne hexec hb hdg ht (fun h => kt (fun q => h (by rw [q]; exact nI_0))) (fun h => kf ((nI_eq ha (by decide)).mp (h.trans nI_0.symm)))
theorem gn_le0 (hexec : p.tables.exec = Jvm.exec) (hb : c.code = cc) (a : Nat) {off : Int} {tgt : Nat} (ha : a < 2 ^ 31) (hdg : decode cc pc = .ok (.ifCond .le off, 3)) (ht : (pc : Int) + off = (tgt : Int))
    (kt : a = 0 → W p l e R s m args below meth c H locs cells slots Q (F0 m tgt ls rest)) (kf : 0 < a → W p l e R s m args below meth c H locs cells slots Q (F0 m (pc + 3) ls rest)) : W p l e R s m args below meth c H locs cells slots Q (F0 m pc ls (.int (nI a) :: rest)) :=
  lv_if_le hexec hb hdg ht (fun h => kt (Nat.le_zero.mp ((nI_leI ha (by decide)).mp (show nI a ≤ nI 0 from h)))) (fun h => kf (Nat.pos_of_ne_zero fun q => h (by rw [q]; exact (nI_leI (by decide) (by decide)).mpr (Nat.le_refl 0))))
theorem gn_gt0 (hexec : p.tables.exec = Jvm.exec) (hb : c.code = cc) (a : Nat) {off : Int} {tgt : Nat} (ha : a < 2 ^ 31) (hdg : decode cc pc = .ok (.ifCond .gt off, 3)) (ht : (pc : Int) + off = (tgt : Int))
    (kt : 0 < a → W p l e R s m args below meth c H locs cells slots Q (F0 m tgt ls rest)) (kf : a = 0 → W p l e R s m args below meth c H locs cells slots Q (F0 m (pc + 3) ls rest)) : W p l e R s m args below meth c H locs cells slots Q (F0 m pc ls (.int (nI a) :: rest)) :=
  lv_if_gt hexec hb hdg ht (fun h => kt ((nI_ltI (by decide) ha).mp (show nI 0 < nI a from h))) (fun h => kf (Nat.le_zero.mp (Nat.not_lt.mp fun q => h ((nI_ltI (by decide) ha).mpr q))))
end GR
end
section
/-! own rows, 2: cells one by one -/
def gX (p : Program) (m : MethodId) (c : Code) (cc : ByteArray) (nL : Nat) (s : State) (args : Array Value) (own : String) (Ts : List Cond) (D : va_G) (cl : List vw_C) (tys : List (ClassId × FieldType)) : Prop :=
  CallFix p m c cc nL s args Ts own ∧ va_K D cl tys s
def gk (Ts : List Cond) (cl : List vw_C) (ci : Nat) (C : String) (T : u_T) (N : Nat) (ty : Nat → FieldType) : Prop :=
  (∀ w ∈ u_ws C T N, w ∈ Ts) ∧ (∀ k, k < N → parseFieldDescriptor (T k).2.2.1 = some (ty k)) ∧ (∀ a, a < N → ∀ b, b < N → a ≠ b → (T a).2.1 ≠ (T b).2.1) ∧ cl[ci]? = some (C, T, N)
theorem g_P1 {D : va_G} {cl : List vw_C} {q : Nat × va_E} {H : Heap} (h : va_at D cl q H) : va_P D cl [q] H := by
  intro k x hx
  cases k with
  | zero => cases hx; exact h
  | succ k => simp at hx
section GH
variable {p : Program} {l : Launch} {e : Env} {R : Room} {s : State} {m : MethodId} {args : Array Value} {below : List Frame} {meth : Method} {c : Code} {H : Heap} {locs : List Loc} {cells slots : Nat} {Q : State → Prop}
variable {cc : ByteArray} {nL pc : Nat} {ls : Array Slot} {rest : List Value} {D : va_G} {cl : List vw_C} {A : Nat → Prop} {a : Nat} {tys : List (ClassId × FieldType)} {own C : String} {T : u_T} {N ci index : Nat} {Ts : List Cond} {ty : Nat → FieldType}
theorem g_get (X : gX p m c cc nL s args own Ts D cl tys) (K : gk Ts cl ci C T N ty) {fs : List Value} (h : va_at D cl (a, .inr (ci, fs)) H) (k : Nat) (hk : k < N) (hlink : Cond.fieldLink own index (T k).1 (T k).2.1 (T k).2.2.1 ∈ Ts) {v : Value} (hv : fs[k]? = some v) (hdg : decode cc pc = .ok (.getfield index, 3))
    (kk : W p l e R s m args below meth c H locs cells slots Q (F0 m (pc + 3) ls (v :: rest))) : W p l e R s m args below meth c H locs cells slots Q (F0 m pc ls (.ref a :: rest)) :=
  va_get X.1.1 X.1.2.1 X.1.2.2.2.2 K.1 X.1.2.2.2.1 X.2 (g_P1 h) 0 rfl K.2.2.2 k hk (X.1.2.2.2.2 _ hlink) (fun _ h9 => h9) hv hdg kk
theorem g_put (X : gX p m c cc nL s args own Ts D cl tys) (K : gk Ts cl ci C T N ty) {fs : List Value} (h : va_at D cl (a, .inr (ci, fs)) H) (k : Nat) (hk : k < N) (hlink : Cond.fieldLink own index (T k).1 (T k).2.1 (T k).2.2.1 ∈ Ts) (hfin : (T k).2.2.2 = false) {v : Value} (hn : narrow (ty k) v = v) (hfit : fits (ty k) v = true) (hl : k < fs.length) (hdg : decode cc pc = .ok (.putfield index, 3)) (hA : A a) (hL : ∀ x ∈ locs, A x.base)
    (kk : ∀ (H1 : Heap) (locs1 : List Loc), va_at D cl (a, .inr (ci, fs.set k v)) H1 → H1.size = H.size → (∀ q : Nat, q ≠ a → H1[q]? = H[q]?) → (∀ x ∈ locs1, A x.base) → W p l e R s m args below meth c H1 locs1 cells slots Q (F0 m (pc + 3) ls rest)) : W p l e R s m args below meth c H locs cells slots Q (F0 m pc ls (v :: .ref a :: rest)) := by
  obtain ⟨⟨hexec, hb, hml, hown, hts⟩, hK⟩ := X
  obtain ⟨hin, hty, hnm, hc⟩ := K
  have hap := va_apart (own := own) hts hin ty hty hnm hK hc
  obtain ⟨r, h1, cell, q1, q2, q3, q4⟩ := h
  have hr : r = (C, T, N) := Option.some.inj (h1.symm.trans hc)
  subst hr
  obtain ⟨hS, hfc, kC, hkC, hkind⟩ := hK.1 ci _ hc
  obtain ⟨cf, kf, fi, f, hi, hsl⟩ := hS k hk
  have hlay := hts _ (hin _ (u_in_lay hk))
  unfold u_lay at hlay
  rw [if_neg (by rw [hfin]; decide)] at hlay
  have hst := (u_facts hfc hkC (u_lays hts hin hk) hi).1
  have h6 := u_store hfc hkC hkind hlay hi (hty k hk) hn hfit
  refine W.putK hexec hb (f := f) ⟨hown, hts _ hlink, ⟨_, _, _, hi⟩, hst⟩ (by rw [q2]; exact h6) q1 q3 (by rw [hsl]; exact k2_hasslot (q4 k hk)) rfl rfl hdg fun H' e1 e2 e3 => ?_
  rw [hsl] at e1 ⊢
  exact kk H' _ ⟨_, hc, t_OB.to (V := updV (vp_V fs) k v) ⟨_, e1, q2, q3, t_set q4 hap hk v⟩ (fun j _ => vp_updV_set hl v j)⟩ e2 e3 (t_lc hL hA)
theorem g_putF (X : gX p m c cc nL s args own Ts D cl tys) (hname : meth.name = "<init>") (K : gk Ts cl ci C T N ty) {fs : List Value} (h : va_at D cl (a, .inr (ci, fs)) H) (k : Nat) (hk : k < N) (hlink : Cond.fieldLink own index (T k).1 (T k).2.1 (T k).2.2.1 ∈ Ts) (hfin : (T k).2.2.2 = true) (hdecl : (T k).1 = own) {v : Value} (hn : narrow (ty k) v = v) (hfit : fits (ty k) v = true) (hl : k < fs.length) (hdg : decode cc pc = .ok (.putfield index, 3)) (hA : A a) (hL : ∀ x ∈ locs, A x.base)
    (kk : ∀ (H1 : Heap) (locs1 : List Loc), va_at D cl (a, .inr (ci, fs.set k v)) H1 → H1.size = H.size → (∀ q : Nat, q ≠ a → H1[q]? = H[q]?) → (∀ x ∈ locs1, A x.base) → W p l e R s m args below meth c H1 locs1 cells slots Q (F0 m (pc + 3) ls rest)) : W p l e R s m args below meth c H locs cells slots Q (F0 m pc ls (v :: .ref a :: rest)) := by
  obtain ⟨⟨hexec, hb, hml, hown, hts⟩, hK⟩ := X
  obtain ⟨hin, hty, hnm, hc⟩ := K
  have hap := va_apart (own := own) hts hin ty hty hnm hK hc
  obtain ⟨r, h1, cell, q1, q2, q3, q4⟩ := h
  have hr : r = (C, T, N) := Option.some.inj (h1.symm.trans hc)
  subst hr
  obtain ⟨hS, hfc, kC, hkC, hkind⟩ := hK.1 ci _ hc
  obtain ⟨cf, kf, fi, f, hi, hsl⟩ := hS k hk
  have hlay := hts _ (hin _ (u_in_lay hk))
  unfold u_lay at hlay
  rw [if_pos hfin] at hlay
  have hst := (u_facts hfc hkC (u_lays hts hin hk) hi).1
  have hcf : m.cls = cf := by
    obtain ⟨_, _, c', _, _, _, -, -, hf', -, -, -, hown2, -⟩ := Cond.laysFinal_spec hlay
    have e1 : c' = cf := by have := hi.symm.trans hf'; simp at this; exact this.1.symm
    rw [hdecl] at hown2
    rw [← e1]; exact Option.some.inj (hown.symm.trans hown2)
  have h6 := u_fits hfc hkC hkind (Or.inr hlay) hi (hty k hk) hn hfit
  refine W.putFinK hexec hb hown (hts _ hlink) hi hst hcf hname (by rw [q2]; exact h6) q1 q3 (by rw [hsl]; exact k2_hasslot (q4 k hk)) rfl rfl hdg fun H' e1 e2 e3 => ?_
  rw [hsl] at e1 ⊢
  exact kk H' _ ⟨_, hc, t_OB.to (V := updV (vp_V fs) k v) ⟨_, e1, q2, q3, t_set q4 hap hk v⟩ (fun j _ => vp_updV_set hl v j)⟩ e2 e3 (t_lc hL hA)
theorem g_new (X : gX p m c cc nL s args own Ts D cl tys) (K : gk Ts cl ci C T N ty) (hcl : Cond.classLink own index C ∈ Ts) (hinst : Cond.instantiable C N ∈ Ts) (hini : Cond.initialized C ∈ Ts) {fs : List Value} (hfs : ∀ j, j < N → defaultValue (ty j) = vp_V fs j) (hcells : cells + 1 ≤ R.cells) (hslots : slots + N ≤ R.slots) (hdg : decode cc pc = .ok (.new index, 3))
    (kk : ∀ (H1 : Heap), va_at D cl (H.size, .inr (ci, fs)) H1 → H1.size = H.size + 1 → (∀ q : Nat, q < H.size → H1[q]? = H[q]?) → W p l e R s m args below meth c H1 locs (cells + 1) (slots + N) Q (F0 m (pc + 3) ls (.ref H.size :: rest))) : W p l e R s m args below meth c H locs cells slots Q (F0 m pc ls rest) := by
  obtain ⟨⟨hexec, hb, hml, hown, hts⟩, hK⟩ := X
  obtain ⟨hin, hty, hnm, hc⟩ := K
  have hKn := hK.1 ci _ hc
  refine W.newcK hexec hb hown (hts _ hcl) (hts _ hinst) (hts _ hini) rfl hdg hcells hslots hKn.2.1 rfl fun H1 kC hkC e1 z1 o1 => ?_
  exact kk H1 ⟨_, hc, (u_born ty hts hin hKn hkC e1 hty).to hfs⟩ z1 o1
/-! arrays -/
theorem g_iald (X : gX p m c cc nL s args own Ts D cl tys) (t0 : Nat) {cA : ClassId} {n : Nat} {f : Nat → Int32} (h : va_at D cl (a, .inl (cA, n, .inl f)) H) (ht : tys[t0]? = some (cA, .int)) (i : Nat) (hi : i < n) (hi2 : n < 2 ^ 31) (hdg : decode cc pc = .ok (.iaload, 1))
    (kk : W p l e R s m args below meth c H locs cells slots Q (F0 m (pc + 1) ls (.int (f i) :: rest))) : W p l e R s m args below meth c H locs cells slots Q (F0 m pc ls (.int (nI i) :: .ref a :: rest)) :=
  va_iald X.1.1 X.1.2.1 X.2 (g_P1 h) 0 t0 rfl ht (vp_in_nI hi hi2) hdg (by rw [nI_clamp (show i < 2 ^ 31 by omega)]; exact kk)
theorem g_zald (X : gX p m c cc nL s args own Ts D cl tys) (t0 : Nat) {cA : ClassId} {n : Nat} {f : Nat → Int32} (h : va_at D cl (a, .inl (cA, n, .inl f)) H) (ht : tys[t0]? = some (cA, .boolean)) (i : Nat) (hi : i < n) (hi2 : n < 2 ^ 31) (hdg : decode cc pc = .ok (.baload, 1))
    (kk : W p l e R s m args below meth c H locs cells slots Q (F0 m (pc + 1) ls (.int (f i) :: rest))) : W p l e R s m args below meth c H locs cells slots Q (F0 m pc ls (.int (nI i) :: .ref a :: rest)) :=
  va_zald X.1.1 X.1.2.1 X.2 (g_P1 h) 0 t0 rfl ht (vp_in_nI hi hi2) hdg (by rw [nI_clamp (show i < 2 ^ 31 by omega)]; exact kk)
theorem g_aald (X : gX p m c cc nL s args own Ts D cl tys) (t0 : Nat) {cA : ClassId} {Cq : String} {n : Nat} {f : Nat → Option Nat} (h : va_at D cl (a, .inl (cA, n, .inr (.inr (.inr (.inr f))))) H) (ht : tys[t0]? = some (cA, .object Cq)) (i : Nat) (hi : i < n) (hi2 : n < 2 ^ 31) {v : Value} (hv : va_rf (f i) = v) (hdg : decode cc pc = .ok (.aaload, 1))
    (kk : W p l e R s m args below meth c H locs cells slots Q (F0 m (pc + 1) ls (v :: rest))) : W p l e R s m args below meth c H locs cells slots Q (F0 m pc ls (.int (nI i) :: .ref a :: rest)) :=
  va_aldq X.1.1 X.1.2.1 X.2 (g_P1 h) 0 t0 rfl ht (vp_in_nI hi hi2) hdg (by rw [nI_clamp (show i < 2 ^ 31 by omega), hv]; exact kk)
theorem g_alen (X : gX p m c cc nL s args own Ts D cl tys) (t0 : Nat) {cA : ClassId} {x : vp_A} (h : va_at D cl (a, .inl (cA, x)) H) {tq : FieldType} (ht : tys[t0]? = some (cA, tq)) (hdg : decode cc pc = .ok (.arraylength, 1))
    (kk : W p l e R s m args below meth c H locs cells slots Q (F0 m (pc + 1) ls (.int (nI x.1) :: rest))) : W p l e R s m args below meth c H locs cells slots Q (F0 m pc ls (.ref a :: rest)) :=
  va_alen X.1.1 X.1.2.1 X.2 (g_P1 h) 0 t0 rfl ht rfl hdg kk
theorem g_iast (X : gX p m c cc nL s args own Ts D cl tys) (t0 : Nat) {cA : ClassId} {n : Nat} {f : Nat → Int32} (h : va_at D cl (a, .inl (cA, n, .inl f)) H) (ht : tys[t0]? = some (cA, .int)) (i : Nat) (hi : i < n) (hi2 : n < 2 ^ 31) {x : Int32} (hdg : decode cc pc = .ok (.iastore, 1)) (hA : A a) (hL : ∀ x ∈ locs, A x.base)
    (kk : ∀ (H1 : Heap) (locs1 : List Loc), va_at D cl (a, .inl (cA, n, .inl (upd f i x))) H1 → H1.size = H.size → (∀ q : Nat, q ≠ a → H1[q]? = H[q]?) → (∀ x ∈ locs1, A x.base) → W p l e R s m args below meth c H1 locs1 cells slots Q (F0 m (pc + 1) ls rest)) : W p l e R s m args below meth c H locs cells slots Q (F0 m pc ls (.int x :: .int (nI i) :: .ref a :: rest)) := by
  have hcl : (nI i).toNatClampNeg = i := nI_clamp (show i < 2 ^ 31 by omega)
  refine W.iast X.1.1 X.1.2.1 h ((X.2.2 t0 _ ht).1 n (fun j => .int (f j))) (fun q => by cases q) (by show ¬ (nI i < 0 ∨ (arrV _ _ _).slots.size ≤ _); rw [arrV_size]; exact vp_in_nI hi hi2) rfl rfl hdg fun H1 e1 z oq => ?_
  refine kk H1 _ ?_ z oq (t_lc hL hA)
  show H1[a]? = some (vp_cell _ _)
  rw [e1, hcl]
  rw [vp_cell_i, vp_cell_i, arrV_store]
  congr 2
  funext q
  by_cases hq : q = i
  · subst hq
    simp [updV, upd]
  · simp [updV, upd, hq]
theorem g_zast (X : gX p m c cc nL s args own Ts D cl tys) (t0 : Nat) {cA : ClassId} {n : Nat} {f : Nat → Int32} (h : va_at D cl (a, .inl (cA, n, .inl f)) H) (ht : tys[t0]? = some (cA, .boolean)) (i : Nat) (hi : i < n) (hi2 : n < 2 ^ 31) {x : Int32} (hx : narrow .boolean (.int x) = .int x) (hdg : decode cc pc = .ok (.bastore, 1)) (hA : A a) (hL : ∀ x ∈ locs, A x.base)
    (kk : ∀ (H1 : Heap) (locs1 : List Loc), va_at D cl (a, .inl (cA, n, .inl (upd f i x))) H1 → H1.size = H.size → (∀ q : Nat, q ≠ a → H1[q]? = H[q]?) → (∀ x ∈ locs1, A x.base) → W p l e R s m args below meth c H1 locs1 cells slots Q (F0 m (pc + 1) ls rest)) : W p l e R s m args below meth c H locs cells slots Q (F0 m pc ls (.int x :: .int (nI i) :: .ref a :: rest)) := by
  have hcl : (nI i).toNatClampNeg = i := nI_clamp (show i < 2 ^ 31 by omega)
  refine W.zast X.1.1 X.1.2.1 h ((X.2.2 t0 _ ht).1 n (fun j => .int (f j))) (fun q => by cases q) (by show ¬ (nI i < 0 ∨ (arrV _ _ _).slots.size ≤ _); rw [arrV_size]; exact vp_in_nI hi hi2) rfl rfl hdg fun H1 e1 z oq => ?_
  refine kk H1 _ ?_ z oq (t_lc hL hA)
  show H1[a]? = some (vp_cell _ _)
  rw [e1, hcl, hx]
  rw [vp_cell_i, vp_cell_i, arrV_store]
  congr 2
  funext q
  by_cases hq : q = i
  · subst hq
    simp [updV, upd]
  · simp [updV, upd, hq]
theorem g_aast (X : gX p m c cc nL s args own Ts D cl tys) (t0 : Nat) (K : gk Ts cl ci C T N ty) {cA : ClassId} {n v : Nat} {vs : List Value} {f : Nat → Option Nat} (h : va_at D cl (a, .inl (cA, n, .inr (.inr (.inr (.inr f))))) H) (ht : tys[t0]? = some (cA, .object C)) (hv : va_at D cl (v, .inr (ci, vs)) H) (i : Nat) (hi : i < n) (hi2 : n < 2 ^ 31) (hdg : decode cc pc = .ok (.aastore, 1)) (hA : A a) (hL : ∀ x ∈ locs, A x.base)
    (kk : ∀ (H1 : Heap) (locs1 : List Loc), va_at D cl (a, .inl (cA, n, .inr (.inr (.inr (.inr (va_up f i (some v))))))) H1 → H1.size = H.size → (∀ q : Nat, q ≠ a → H1[q]? = H[q]?) → (∀ x ∈ locs1, A x.base) → W p l e R s m args below meth c H1 locs1 cells slots Q (F0 m (pc + 1) ls rest)) : W p l e R s m args below meth c H locs cells slots Q (F0 m pc ls (.ref v :: .int (nI i) :: .ref a :: rest)) := by
  have hcl : (nI i).toNatClampNeg = i := nI_clamp (show i < 2 ^ 31 by omega)
  have hK := X.2
  obtain ⟨r', hr', cellV, g1, g2, g3, -⟩ := hv
  have hcls := (hK.1 ci _ K.2.2.2).2
  obtain ⟨kA, comp, k1, k2, k3, -⟩ := (hK.2 t0 _ ht).2
  have hcomp : comp = D.1 ci := Option.some.inj (k3.symm.trans hcls.1)
  subst hcomp
  obtain ⟨kC, hkC, -⟩ := hcls.2
  refine W.aast X.1.1 X.1.2.1 h (fun q h => by cases h) (fun h => by cases h) k1 k2 rfl hkC ⟨nI_pos (show i < 2 ^ 31 by omega), by show _ < (arrV _ _ _).slots.size; rw [arrV_size, hcl]; exact hi⟩ g1 (fun q h => by rw [g3] at h; cases h) (by rw [g2]; exact hkC) (by rw [g2]; exact va_assign hcls) rfl rfl hdg fun H1 e1 z oq => ?_
  refine kk H1 _ ?_ z oq (t_lc hL hA)
  show H1[a]? = some (vp_cell _ _)
  rw [e1, hcl]
  rw [vp_cell_q, vp_cell_q, arrV_store]
  congr 2
  funext q
  by_cases hq : q = i
  · subst hq
    simp [updV, va_up, va_rf]
  · simp [updV, va_up, hq]
theorem g_newi (X : gX p m c cc nL s args own Ts D cl tys) (t0 : Nat) {cA : ClassId} (ht : tys[t0]? = some (cA, .int)) (harr : Cond.arrayClass .int ∈ Ts) (n : Nat) (hn : n < 65536) (hcells : cells + 1 ≤ R.cells) (hslots : slots + n ≤ R.slots) (hdg : decode cc pc = .ok (.newarray .int, 2))
    (kk : ∀ (H1 : Heap), va_at D cl (H.size, .inl (cA, n, .inl (fun _ => 0))) H1 → H1.size = H.size + 1 → (∀ q : Nat, q < H.size → H1[q]? = H[q]?) → W p l e R s m args below meth c H1 locs (cells + 1) (slots + n) Q (F0 m (pc + 2) ls (.ref H.size :: rest))) : W p l e R s m args below meth c H locs cells slots Q (F0 m pc ls (.int (nI n) :: rest)) := by
  refine va_newaK (atype := .int) X.1.1 X.1.2.1 (X.1.2.2.2.2 _ harr) rfl hdg rfl (nI_pos (by omega)) (nI_clamp (show n < 2 ^ 31 by omega)) (show n * 4 ≤ 536870912 by omega) hcells hslots rfl fun H1 cA' e1 z1 o1 hAr hNm => ?_
  have e2 : cA' = cA := Option.some.inj (hNm.symm.trans (X.2.2 t0 _ ht).2)
  subst e2
  exact kk H1 e1 z1 o1
theorem g_newz (X : gX p m c cc nL s args own Ts D cl tys) (t0 : Nat) {cA : ClassId} (ht : tys[t0]? = some (cA, .boolean)) (harr : Cond.arrayClass .boolean ∈ Ts) (n : Nat) (hn : n < 65536) (hcells : cells + 1 ≤ R.cells) (hslots : slots + n ≤ R.slots) (hdg : decode cc pc = .ok (.newarray .boolean, 2))
    (kk : ∀ (H1 : Heap), va_at D cl (H.size, .inl (cA, n, .inl (fun _ => 0))) H1 → H1.size = H.size + 1 → (∀ q : Nat, q < H.size → H1[q]? = H[q]?) → W p l e R s m args below meth c H1 locs (cells + 1) (slots + n) Q (F0 m (pc + 2) ls (.ref H.size :: rest))) : W p l e R s m args below meth c H locs cells slots Q (F0 m pc ls (.int (nI n) :: rest)) := by
  refine va_newaK (atype := .boolean) X.1.1 X.1.2.1 (X.1.2.2.2.2 _ harr) rfl hdg rfl (nI_pos (by omega)) (nI_clamp (show n < 2 ^ 31 by omega)) (show n * 1 ≤ 536870912 by omega) hcells hslots rfl fun H1 cA' e1 z1 o1 hAr hNm => ?_
  have e2 : cA' = cA := Option.some.inj (hNm.symm.trans (X.2.2 t0 _ ht).2)
  subst e2
  exact kk H1 e1 z1 o1
theorem g_newq (X : gX p m c cc nL s args own Ts D cl tys) (t0 : Nat) {cA : ClassId} {Cq : String} (ht : tys[t0]? = some (cA, .object Cq)) (hcl : Cond.classLink own index Cq ∈ Ts) (hover : va_AO Cq s) (n : Nat) (hn : n < 65536) (hcells : cells + 1 ≤ R.cells) (hslots : slots + n ≤ R.slots) (hdg : decode cc pc = .ok (.anewarray index, 3))
    (kk : ∀ (H1 : Heap), va_at D cl (H.size, .inl (cA, n, .inr (.inr (.inr (.inr (fun _ => none)))))) H1 → H1.size = H.size + 1 → (∀ q : Nat, q < H.size → H1[q]? = H[q]?) → W p l e R s m args below meth c H1 locs (cells + 1) (slots + n) Q (F0 m (pc + 3) ls (.ref H.size :: rest))) : W p l e R s m args below meth c H locs cells slots Q (F0 m pc ls (.int (nI n) :: rest)) := by
  have hcn : (nI n).toNatClampNeg = n := nI_clamp (show n < 2 ^ 31 by omega)
  refine W.anew X.1.1 X.1.2.1 X.1.2.2.2.1 (X.1.2.2.2.2 _ hcl) (va_AO.use hover) rfl hdg rfl (nI_pos (by omega)) (by rw [hcn]; omega) hcells (by rw [hcn]; exact hslots) fun cA' kA comp f1 f2 f3 f4 => ?_
  obtain ⟨kA2, comp2, -, -, -, f5⟩ := (X.2.2 t0 _ ht).2
  have e2 : cA' = cA := Option.some.inj (f1.symm.trans f5)
  subst e2
  rw [hcn]
  refine kk _ ?_ (by rw [Array.size_push]) (fun q hq => by rw [Array.getElem?_push, if_neg (Nat.ne_of_lt hq)])
  show (H.push _)[H.size]? = some (vp_cell _ _)
  rw [Array.getElem?_push_size, vp_cell_q, ← arrV_new]
  rfl
theorem g_copyi (X : gX p m c cc nL s args own Ts D cl tys) (hls : ls.size = nL) (hlink : Cond.methodLink own index arraycopyName ∈ Ts) (hnat : Cond.native arraycopyName ∈ Ts) (hstat : Cond.static arraycopyName ∈ Ts) (hini : Cond.initialized "java/lang/System" ∈ Ts)
    (t0 : Nat) {a0 : Nat} {cA : ClassId} {n0 n1 : Nat} {f g : Nat → Int32} (h0 : va_at D cl (a0, .inl (cA, n0, .inl f)) H) (h1 : va_at D cl (a, .inl (cA, n1, .inl g)) H) (ht : tys[t0]? = some (cA, .int)) (sp dp n : Nat) (hs : sp + n ≤ n0) (hd : dp + n ≤ n1) (hn0 : n0 < 2 ^ 31) (hn1 : n1 < 2 ^ 31)
    (hframes : 1 ≤ R.frames) (hlocals : (rest.map fun v => v.category).sum + 18 ≤ R.locals) (hdg : decode cc pc = .ok (.invokestatic index, 3)) (hA : A a) (hL : ∀ x ∈ locs, A x.base)
    (kk : ∀ (H1 : Heap) (locs1 : List Loc), va_at D cl (a, .inl (cA, n1, .inl (va_cpy f g sp dp n))) H1 → H1.size = H.size → (∀ q : Nat, q ≠ a → H1[q]? = H[q]?) → (∀ x ∈ locs1, A x.base) → W p l e R s m args below meth c H1 locs1 cells slots Q (F0 m (pc + 3) ls rest)) : W p l e R s m args below meth c H locs cells slots Q (F0 m pc ls (.int (nI n) :: .int (nI dp) :: .ref a :: .int (nI sp) :: .ref a0 :: rest)) := by
  obtain ⟨⟨hexec, hb, hml, hown, hts⟩, hK⟩ := X
  intro T hT X
  have hc0 : H[a0]? = some (vp_cell cA (n0, .inl f)) := h0
  have hc1 : H[a]? = some (vp_cell cA (n1, .inl g)) := h1
  have es : (nI sp).toNatClampNeg = sp := nI_clamp (by omega)
  have ed : (nI dp).toNatClampNeg = dp := nI_clamp (by omega)
  have en : (nI n).toNatClampNeg = n := nI_clamp (by omega)
  have is : (nI sp).toInt = (sp : Int) := nI_toInt (by omega)
  have id : (nI dp).toInt = (dp : Int) := nI_toInt (by omega)
  have in' : (nI n).toInt = (n : Int) := nI_toInt (by omega)
  obtain ⟨-, k0, hk0, cm0, hkk0⟩ := (hK.2 t0 _ ht).1 n0 (fun j => .int (f j))
  obtain ⟨-, k1, hk1, cm1, hkk1⟩ := (hK.2 t0 _ ht).1 n1 (fun j => .int (g j))
  obtain ⟨vm', X', step⟩ := X.arraycopy hexec hown (hts _ hlink) (hts _ hnat) (hts _ hstat) (hts _ hini) (src := a0) (dst := a) (cs := vp_cell cA (n0, .inl f)) (cd := vp_cell cA (n1, .inl g)) (srcPos := nI sp) (destPos := nI dp) (n := nI n) (by rw [hT]; exact hc0) (by rw [hT]; exact hc1)
    (fun _ h => by cases h) (fun _ h => by cases h) (fun h => by cases h) (fun h => by cases h) hk0 hk1 hkk0 hkk1 (by simp [refKind]) (nI_pos (by omega)) (nI_pos (by omega)) (nI_pos (by omega))
    (by rw [is, in']; show ¬ _ > ((arrV cA n0 (fun j => .int (f j))).slots.size : Int); rw [arrV_size]; omega)
    (by rw [id, in']; show ¬ _ > ((arrV cA n1 (fun j => .int (g j))).slots.size : Int); rw [arrV_size]; omega)
    (fun vm₁ _ i hi => by
      rw [en] at hi
      have e : (vp_cell cA (n0, .inl f)).slots.getD ((nI sp).toNatClampNeg + i) .null = .int (f (sp + i)) := by
        rw [es]
        show (arrV cA n0 (fun j => .int (f j))).slots.getD _ _ = _
        rw [Array.getD_eq_getD_getElem?, arrV_read _ _ (by omega)]
        rfl
      refine ⟨?_, ?_⟩
      · rw [e]
        rfl
      · rw [e]
        exact trivial)
    (g := F0 m pc ls (.int (nI n) :: .int (nI dp) :: .ref a :: .int (nI sp) :: .ref a0 :: rest)) rfl (by rw [hml]; exact hls) (rest := rest) rfl (by rw [hb]; exact hdg) hframes (by show 2 * 0 + _ + 18 ≤ _; omega)
  have e1 : copied (vp_cell cA (n0, .inl f)) (vp_cell cA (n1, .inl g)) (nI sp) (nI dp) (nI n) = vp_cell cA (n1, .inl (va_cpy f g sp dp n)) := by
    have h : copied (vp_cell cA (n0, .inl f)) (vp_cell cA (n1, .inl g)) (nI sp) (nI dp) (nI n) = vp_cell cA (n1, .inl (va_cpy f g (nI sp).toNatClampNeg (nI dp).toNatClampNeg (nI n).toNatClampNeg)) :=
      va_copied (sp := (nI sp).toNatClampNeg) (dp := (nI dp).toNatClampNeg) (n := (nI n).toNatClampNeg) (n0 := n0) (n1 := n1) (fun z => Value.int z) cA cA f g (by rw [es, en]; exact hs)
    rw [es, ed, en] at h
    exact h
  rw [e1] at X' step
  have hl : a < H.size := (Array.getElem?_eq_some_iff.mp hc1).1
  have hheap : ((T.setVm vm').setCell a (vp_cell cA (n1, .inl (va_cpy f g sp dp n)))).heap = H.setIfInBounds a (vp_cell cA (n1, .inl (va_cpy f g sp dp n))) := by rw [← hT]; rfl
  obtain ⟨t, a1, b1⟩ := kk _ _ (show (H.setIfInBounds a _)[a]? = some _ by simp [Array.getElem?_setIfInBounds, hl]) (by simp) (fun q hq => by simp [Array.getElem?_setIfInBounds, Ne.symm hq]) (fun q hq => by
      rcases List.mem_append.mp hq with h | h
      · exact hL q h
      · obtain ⟨z, -, hz⟩ := List.mem_map.mp h
        rw [← hz]
        exact hA) _ hheap X'
  exact ⟨t, step t a1, b1⟩
end GH
end
section
/-! own rows, 3: contracts over a given heap, and calls -/
def gC (l : Launch) (y : MethodName) (ws : List Cond) (rm : Room) (D : va_G) (cl : List vw_C) (tys : List (ClassId × FieldType)) (E : State → Prop) (vs : List Value) (H0 : Heap) (Post : Option Value → Heap → Prop) (mc ms : Nat) (A : Nat → Prop) : Prop :=
  Met l y ws rm (va_Pc vs (fun U => U.heap = H0 ∧ va_K D cl tys U ∧ E U)) (fun _ _ oc t => ∃ v, oc = .returned v ∧ Post v t.heap) mc ms A
def gQ (below : List Frame) (args : Array Value) (s : State) (Post : Option Value → Heap → Prop) (mc ms : Nat) (A : Nat → Prop) : State → Prop :=
  MQ below (fun _ _ oc t => ∃ v, oc = .returned v ∧ Post v t.heap) args s mc ms A
/-- what a walk leans on beside its cells -/
def gB (meth : Method) (ret : Option FieldType) (name : String) : Prop := meth.sig.returnType = ret ∧ meth.locks = false ∧ meth.name = name
/-- facts that don't look at the frames -/
def gBlind (E : State → Prop) : Prop := ∀ (U : State) (g : JFrame) (mk : MethodId) (a : Array Value), E U → E (U.calling g mk a)
theorem gBlind.tt : gBlind (fun _ => True) := fun _ _ _ _ h => h
theorem gC.ofW {l : Launch} {y : MethodName} {Ts : List Cond} {rm : Room} {D : va_G} {cl : List vw_C} {tys : List (ClassId × FieldType)} {E : State → Prop} {vs : List Value} {H0 : Heap} {Post : Option Value → Heap → Prop} {mc ms : Nat} {A : Nat → Prop} {cc : ByteArray} {maxL : Nat} {ret : Option FieldType} (own name : String)
    (hy : plainName y.cls = true) (hyo : y.cls = own) (hyn : y.name = name)
    (body : ∀ p e s m below meth c, l.admits e → gX p m c cc maxL s vs.toArray own Ts D cl tys → E s → s.heap = H0 → gB meth ret name → c.exceptionTable.isEmpty = true →
      W p l e rm s m vs.toArray below meth c H0 [] 0 0 (gQ below vs.toArray s Post mc ms A) (entryFrame m vs.toArray maxL)) : gC l y (Cond.code y cc maxL ret :: Ts) rm D cl tys E vs H0 Post mc ms A := by
  refine Met.ofW (cc := cc) (maxL := maxL) (ret := ret) hy rfl ?_
  intro p e s m args below meth c s₁ B hml hv
  obtain ⟨rfl, hH, hK, hE⟩ := hv
  have hts := atoms_spec (ws := Cond.code y cc maxL ret :: Ts) B.pre
  have hown : s.vm.findClass y.cls = some m.cls := findClass_of_methodNamed B.named
  have hnm := (name_of_methodNamed B.named B.method).1
  have h := body p e s m below meth c B.admits ⟨⟨B.exec, B.bytes, hml, by rw [← hyo]; exact hown, fun w hw => hts w (List.mem_cons_of_mem _ hw)⟩, hK⟩ hE hH ⟨B.returns, B.notSynchronized, hnm.trans hyn⟩ (B.noHandlers (hts _ List.mem_cons_self))
  rw [← hH] at h
  exact h
section GCR
variable {p : Program} {l : Launch} {e : Env} {R : Room} {s : State} {m : MethodId} {args : Array Value} {below : List Frame} {meth : Method} {c : Code} {H : Heap} {locs : List Loc} {cells slots : Nat} {Q : State → Prop}
variable {cc : ByteArray} {nL pc : Nat} {ls : Array Slot} {rest : List Value} {D : va_G} {cl : List vw_C} {A A1 : Nat → Prop} {a : Nat} {tys : List (ClassId × FieldType)} {own C : String} {T : u_T} {N ci index : Nat} {Ts : List Cond} {ty : Nat → FieldType} {Post Post' : Option Value → Heap → Prop} {mc ms : Nat} {name : String} {E : State → Prop}
theorem g_iret (X : gX p m c cc nL s args own Ts D cl tys) (B : gB meth (some .int) name) {v : Int32} (hP : Post (some (.int v)) H) (hL : ∀ x ∈ locs, A x.base) (hdg : decode cc pc = .ok (.ireturn, 1)) (hc : cells ≤ mc) (hs : slots ≤ ms) : W p l e R s m args below meth c H locs cells slots (gQ below args s Post mc ms A) (F0 m pc ls [.int v]) :=
  W.widen hc hs (W.iret X.1.1 X.1.2.1 B.1 (fun t ht _ => ⟨_, rfl, by rw [ht]; exact hP⟩) hL hdg B.2.1)
theorem g_zret (X : gX p m c cc nL s args own Ts D cl tys) (B : gB meth (some .boolean) name) {v : Int32} (hv : narrow .boolean (.int v) = .int v) (hP : Post (some (.int v)) H) (hL : ∀ x ∈ locs, A x.base) (hdg : decode cc pc = .ok (.ireturn, 1)) (hc : cells ≤ mc) (hs : slots ≤ ms) : W p l e R s m args below meth c H locs cells slots (gQ below args s Post mc ms A) (F0 m pc ls [.int v]) :=
  W.widen hc hs (W.zret X.1.1 X.1.2.1 B.1 hv (fun t ht _ => ⟨_, rfl, by rw [ht]; exact hP⟩) hL hdg B.2.1)
theorem g_vret (X : gX p m c cc nL s args own Ts D cl tys) (B : gB meth none name) (hP : Post none H) (hL : ∀ x ∈ locs, A x.base) (hdg : decode cc pc = .ok (.return_, 1)) (hc : cells ≤ mc) (hs : slots ≤ ms) : W p l e R s m args below meth c H locs cells slots (gQ below args s Post mc ms A) (F0 m pc ls []) :=
  W.widen hc hs (W.vret X.1.1 X.1.2.1 B.1 (fun t ht _ => ⟨_, rfl, by rw [ht]; exact hP⟩) hL hdg B.2.1)
theorem g_aret (X : gX p m c cc nL s args own Ts D cl tys) {rt : String} (B : gB meth (some (.object rt)) name) {v : Nat} (hP : Post (some (.ref v)) H) (hL : ∀ x ∈ locs, A x.base) (hdg : decode cc pc = .ok (.areturn, 1)) (hc : cells ≤ mc) (hs : slots ≤ ms) : W p l e R s m args below meth c H locs cells slots (gQ below args s Post mc ms A) (F0 m pc ls [.ref v]) :=
  W.widen hc hs (W.aret X.1.1 X.1.2.1 B.1 (Or.inl ⟨_, rfl⟩) (Or.inr ⟨_, rfl⟩) (fun t ht _ => ⟨_, rfl, by rw [ht]; exact hP⟩) hL hdg B.2.1)
theorem g_run {st : List Value} (hr : va_Run p l e R s m args below meth c H locs cells slots mc ms (F0 m pc ls st) rest (fun _ oc t => ∃ v, oc = .returned v ∧ Post' v t.heap) A1) (hA : ∀ q, A1 q → A q) (hL : ∀ x ∈ locs, A x.base)
    (kk : ∀ (v : Option Value) (H1 : Heap) (locs1 : List Loc), Post' v H1 → (∀ x ∈ locs1, A x.base) → W p l e R s m args below meth c H1 locs1 (cells + mc) (slots + ms) Q (F0 m (pc + 3) ls (v.toList ++ rest))) : W p l e R s m args below meth c H locs cells slots Q (F0 m pc ls st) := by
  intro T hT X
  obtain ⟨v, st₀, t, T', L, h0, X', hL', e1, e2, ⟨v', hv, hp⟩, st'⟩ := hr T hT X
  cases hv
  obtain ⟨t2, a1, b1⟩ := kk v T'.heap (locs ++ L) (by rw [e1]; exact hp) (fun x hx => by
    rcases List.mem_append.mp hx with h | h
    · exact hL x h
    · exact hA _ (hL' x h)) T' rfl X'
  exact ⟨t2, st' t2 a1, b1⟩
theorem g_pre {As : List Value} (hK : va_K D cl tys s) (hE : ∀ U : State, U.heap = H → s.WarmedH U.vm → E U) (hEb : gBlind E) : PreS s H (va_Pc As (fun U => U.heap = H ∧ va_K D cl tys U ∧ E U)) As :=
  ⟨fun a U g mk q => ⟨q.1, q.2.1, va_K.moved (u := U) (U := U.calling g mk a) (Vm.Alike.refl U.vm) q.2.2.1, hEb _ _ _ _ q.2.2.2⟩, fun U hU hW => ⟨rfl, hU, va_K.moved hW.alike hK, hE U hU hW⟩⟩
def gGood (Ts : List Cond) : Prop := ∀ w ∈ Ts, ((w.onTables && w.keeps) = true ∨ ∃ ty, w = .arrayClass ty)
def gGoodB (w : Cond) : Bool := (w.onTables && w.keeps) || (match w with | .arrayClass _ => true | _ => false)
theorem gGood_one {w : Cond} (h1 : gGoodB w = true) : (w.onTables && w.keeps) = true ∨ ∃ ty, w = .arrayClass ty := by
  unfold gGoodB at h1
  rcases Bool.or_eq_true_iff.mp h1 with h2 | h2
  · exact Or.inl h2
  · refine Or.inr ?_
    cases w <;> first | exact ⟨_, rfl⟩ | cases h2
theorem gGood.in {Ts ws : List Cond} (h : gGood Ts) (hw : ∀ w ∈ ws, w ∈ Ts) : GoodIn Ts ws := fun w h1 => ⟨hw w h1, h w (hw w h1)⟩
/-- the words of a call of an instance method, of a constructor, of a static method -/
def gwV (Ts : List Cond) (own : String) (index : Nat) (y : MethodName) (bytes : ByteArray) (maxL : Nat) (ret : Option FieldType) (n : Nat) : Prop :=
  (∀ w ∈ wsV own index y.cls y [Cond.code y bytes maxL ret], w ∈ Ts) ∧ (y.cls ≠ "java/lang/invoke/MethodHandle" ∧ y.cls ≠ "java/lang/invoke/VarHandle" ∧ (parseMethodDescriptor y.desc).map (fun d => d.parameters.length) = some n)
def gwI (Ts : List Cond) (own : String) (index : Nat) (y : MethodName) (bytes : ByteArray) (maxL : Nat) (n : Nat) : Prop :=
  (∀ w ∈ ([.methodLink own index y, .instanceMethod y, .initialized y.cls, .code y bytes maxL none] : List Cond), w ∈ Ts) ∧ y.name = "<init>" ∧ (y.cls ≠ "java/lang/invoke/MethodHandle" ∧ y.cls ≠ "java/lang/invoke/VarHandle" ∧ (parseMethodDescriptor y.desc).map (fun d => d.parameters.length) = some n)
def gwS (Ts : List Cond) (own : String) (index : Nat) (y : MethodName) (bytes : ByteArray) (maxL : Nat) (ret : Option FieldType) (n : Nat) : Prop :=
  (∀ w ∈ wsS own index y [Cond.code y bytes maxL ret], w ∈ Ts) ∧ (y.cls = own ∧ y.cls ≠ "java/lang/invoke/MethodHandle" ∧ y.cls ≠ "java/lang/invoke/VarHandle" ∧ (parseMethodDescriptor y.desc).map (fun d => d.parameters.length) = some n)
variable {y : MethodName} {bytes : ByteArray} {maxL n : Nat} {ret : Option FieldType} {rm : Room} {b : Nat} {fs As st : List Value}
theorem g_cv (X : gX p m c cc nL s args own Ts D cl tys) (hG : gGood Ts) (w : gwV Ts own index y bytes maxL ret n) (K : gk Ts cl ci y.cls T N ty) (hrec : va_at D cl (b, .inr (ci, fs)) H)
    (hM : gC l y (Cond.code y bytes maxL ret :: Ts) rm D cl tys E (.ref b :: As) H Post' mc ms A1) (hE : ∀ U : State, U.heap = H → s.WarmedH U.vm → E U) (hEb : gBlind E)
    (hn : As.length = n) (hst : st = As.reverse ++ .ref b :: rest) (hls : ls.size = nL) (hW : (rest.map fun v => v.category).sum ≤ 8) (hrc : rm.cells = mc) (hrs : rm.slots = ms) (hR : rm.frames + 1 ≤ R.frames ∧ 8 + (maxL + 11) + rm.locals ≤ R.locals) (hf : cells + mc ≤ R.cells ∧ slots + ms ≤ R.slots)
    (hdg : decode cc pc = .ok (.invokevirtual index, 3)) (hA : ∀ q, A1 q → A q) (hL : ∀ x ∈ locs, A x.base)
    (kk : ∀ (v : Option Value) (H1 : Heap) (locs1 : List Loc), Post' v H1 → (∀ x ∈ locs1, A x.base) → W p l e R s m args below meth c H1 locs1 (cells + mc) (slots + ms) Q (F0 m (pc + 3) ls (v.toList ++ rest))) : W p l e R s m args below meth c H locs cells slots Q (F0 m pc ls st) := by
  have hin : ∀ w' ∈ wsV own index y.cls y (Cond.code y bytes maxL ret :: Ts), w' ∈ Ts := by
    intro w' hw'
    unfold wsV at hw'
    rcases List.mem_append.mp hw' with h | h
    · exact w.1 w' (by unfold wsV; exact List.mem_append_left _ h)
    · rcases List.mem_cons.mp h with h | h
      · exact w.1 w' (by unfold wsV; rw [h]; exact List.mem_append_right _ (List.mem_singleton.mpr rfl))
      · exact h
  have cw := cwV (R := R) (C := y.cls) (rm := rm) (mc := mc) (ms := ms) n X.1.2.2.2.2 (hG.in hin) rfl hrc hrs ⟨rfl, w.2⟩ hR
  have hp := g_pre (As := .ref b :: As) X.2 hE hEb
  refine g_run (va_runV (As := As) (b := b) (rest := rest) X.1 hM cw ⟨hp.1, va_recv X.2 (g_P1 hrec) K.2.2.2 (q0 := 0) rfl, hp.2⟩ rfl hn hls hst (lv_room hW) hdg hf) hA hL kk
theorem g_ci (X : gX p m c cc nL s args own Ts D cl tys) (hG : gGood Ts) (w : gwI Ts own index y bytes maxL n)
    (hM : gC l y (Cond.code y bytes maxL none :: Ts) rm D cl tys E (.ref b :: As) H Post' mc ms A1) (hE : ∀ U : State, U.heap = H → s.WarmedH U.vm → E U) (hEb : gBlind E)
    (hn : As.length = n) (hst : st = As.reverse ++ .ref b :: rest) (hls : ls.size = nL) (hW : (rest.map fun v => v.category).sum ≤ 8) (hrc : rm.cells = mc) (hrs : rm.slots = ms) (hR : rm.frames + 1 ≤ R.frames ∧ 8 + (maxL + 11) + rm.locals ≤ R.locals) (hf : cells + mc ≤ R.cells ∧ slots + ms ≤ R.slots)
    (hdg : decode cc pc = .ok (.invokespecial index, 3)) (hA : ∀ q, A1 q → A q) (hL : ∀ x ∈ locs, A x.base)
    (kk : ∀ (v : Option Value) (H1 : Heap) (locs1 : List Loc), Post' v H1 → (∀ x ∈ locs1, A x.base) → W p l e R s m args below meth c H1 locs1 (cells + mc) (slots + ms) Q (F0 m (pc + 3) ls (v.toList ++ rest))) : W p l e R s m args below meth c H locs cells slots Q (F0 m pc ls st) := by
  have hin : ∀ w' ∈ (Cond.code y bytes maxL none :: Ts), w' ∈ Ts := by
    intro w' hw'
    rcases List.mem_cons.mp hw' with h | h
    · rw [h]; exact w.1 _ (by simp)
    · exact h
  have cw := cwI (R := R) (rm := rm) (mc := mc) (ms := ms) n X.1.2.2.2.2 (hG.in hin) rfl hrc hrs (X.1.2.2.2.2 _ (w.1 _ (by simp))) (X.1.2.2.2.2 _ (w.1 (.methodLink own index y) (by simp))) (X.1.2.2.2.2 _ (w.1 _ (by simp))) w.2.1 w.2.2 hR
  exact g_run (va_runI (As := As) (b := b) (rest := rest) X.1 hM cw (g_pre (As := .ref b :: As) X.2 hE hEb) rfl hn hls hst (lv_room hW) hdg hf) hA hL kk
theorem g_cs (X : gX p m c cc nL s args own Ts D cl tys) (hG : gGood Ts) (w : gwS Ts own index y bytes maxL ret n)
    (hM : gC l y (Cond.code y bytes maxL ret :: Ts) rm D cl tys E As H Post' mc ms A1) (hE : ∀ U : State, U.heap = H → s.WarmedH U.vm → E U) (hEb : gBlind E)
    (hn : As.length = n) (hst : st = As.reverse ++ rest) (hls : ls.size = nL) (hW : (rest.map fun v => v.category).sum ≤ 8) (hrc : rm.cells = mc) (hrs : rm.slots = ms) (hR : rm.frames + 1 ≤ R.frames ∧ 8 + (maxL + 11) + rm.locals ≤ R.locals) (hf : cells + mc ≤ R.cells ∧ slots + ms ≤ R.slots)
    (hdg : decode cc pc = .ok (.invokestatic index, 3)) (hA : ∀ q, A1 q → A q) (hL : ∀ x ∈ locs, A x.base)
    (kk : ∀ (v : Option Value) (H1 : Heap) (locs1 : List Loc), Post' v H1 → (∀ x ∈ locs1, A x.base) → W p l e R s m args below meth c H1 locs1 (cells + mc) (slots + ms) Q (F0 m (pc + 3) ls (v.toList ++ rest))) : W p l e R s m args below meth c H locs cells slots Q (F0 m pc ls st) := by
  have hin : ∀ w' ∈ wsS own index y (Cond.code y bytes maxL ret :: Ts), w' ∈ Ts := by
    intro w' hw'
    unfold wsS at hw'
    rcases List.mem_append.mp hw' with h | h
    · exact w.1 w' (by unfold wsS; exact List.mem_append_left _ h)
    · rcases List.mem_cons.mp h with h | h
      · exact w.1 w' (by unfold wsS; rw [h]; exact List.mem_append_right _ (List.mem_singleton.mpr rfl))
      · exact h
  have cw := cwS (R := R) (rm := rm) (mc := mc) (ms := ms) n X.1.2.2.2.2 (hG.in hin) rfl hrc hrs w.2 hR
  exact g_run (va_runS (As := As) (rest := rest) X.1 hM cw (g_pre (As := As) X.2 hE hEb) rfl hn hls hst (lv_room hW) hdg hf) hA hL kk
end GCR
end
section
/-! own rows, 4: methods that throw -/
def gT (l : Launch) (y : MethodName) (ws : List Cond) (rm : Room) (D : va_G) (cl : List vw_C) (tys : List (ClassId × FieldType)) (E : State → Prop) (vs : List Value) (H0 : Heap) (Post : Nat → Heap → Prop) (mc ms : Nat) (A : Nat → Prop) : Prop :=
  MetFree l y (headSpec ws rm) (va_Pc vs (fun U => U.heap = H0 ∧ va_K D cl tys U ∧ E U)) (fun _ _ _ _ _ => True)
    (fun _ st o t => ∃ x, o = .threw x ∧ Post x t.heap ∧ ∃ L, st.WarmedH t.vm ∧ st.sameButNew ({ t with vm := st.vm } : State) L mc ms ∧ ∀ q ∈ L, A q.base)
def gTQ (below : List Frame) (s : State) (Post : Nat → Heap → Prop) (mc ms : Nat) (A : Nat → Prop) : State → Prop := fun t =>
  ∃ x, t.status = .running ∧ Ended t below (.threw x) ∧ Post x t.heap ∧ ∃ L, s.WarmedH t.vm ∧ s.sameButNew ({ t with vm := s.vm } : State) L mc ms ∧ ∀ q ∈ L, A q.base
theorem gT.ofW {l : Launch} {y : MethodName} {Ts : List Cond} {rm : Room} {D : va_G} {cl : List vw_C} {tys : List (ClassId × FieldType)} {E : State → Prop} {vs : List Value} {H0 : Heap} {Post : Nat → Heap → Prop} {mc ms : Nat} {A : Nat → Prop} {cc : ByteArray} {maxL : Nat} {ret : Option FieldType} (own name : String)
    (hy : plainName y.cls = true) (hyo : y.cls = own) (hyn : y.name = name)
    (body : ∀ p e s m below meth c, l.admits e → gX p m c cc maxL s vs.toArray own Ts D cl tys → E s → s.heap = H0 → gB meth ret name → c.exceptionTable.isEmpty = true →
      W p l e rm s m vs.toArray below meth c H0 [] 0 0 (gTQ below s Post mc ms A) (entryFrame m vs.toArray maxL)) : gT l y (Cond.code y cc maxL ret :: Ts) rm D cl tys E vs H0 Post mc ms A := by
  refine MetFree.of_bodyS (code := cc) (maxLocals := maxL) (ret := ret) hy ?_ ?_
  · intro args s m h hn
    obtain ⟨meth, c, h1, h2, h3, h4, h5, h6, -, -⟩ := Cond.code_spec hn (atoms_spec (ws := Cond.code y cc maxL ret :: Ts) h _ List.mem_cons_self)
    exact ⟨meth, c, h1, h2, h3, h4, h5, h6⟩
  · intro p e s m args below meth c s₁ B hml hv _
    obtain ⟨rfl, hH, hK, hE⟩ := hv
    have hts := atoms_spec (ws := Cond.code y cc maxL ret :: Ts) B.pre
    have hown : s.vm.findClass y.cls = some m.cls := findClass_of_methodNamed B.named
    have hnm := (name_of_methodNamed B.named B.method).1
    have h := body p e s m below meth c B.admits ⟨⟨B.exec, B.bytes, hml, by rw [← hyo]; exact hown, fun w hw => hts w (List.mem_cons_of_mem _ hw)⟩, hK⟩ hE hH ⟨B.returns, B.notSynchronized, hnm.trans hyn⟩ (B.noHandlers (hts _ List.mem_cons_self))
    have hh0 : s₁.heap = H0 := by rw [B.state]; exact hH
    obtain ⟨t, a1, x, b1, b2, b3, b4⟩ := h s₁ hh0 (Stand.of_body B)
    exact ⟨t, .threw x, a1, b1, b2, ⟨x, rfl, b3, b4⟩⟩
section GTR
variable {p : Program} {l : Launch} {e : Env} {R : Room} {s : State} {m : MethodId} {args : Array Value} {below : List Frame} {meth : Method} {c : Code} {H : Heap} {locs : List Loc} {cells slots : Nat} {Q : State → Prop}
variable {cc : ByteArray} {nL pc : Nat} {ls : Array Slot} {rest : List Value} {D : va_G} {cl : List vw_C} {A A1 : Nat → Prop} {a : Nat} {tys : List (ClassId × FieldType)} {own C : String} {T : u_T} {N ci index : Nat} {Ts : List Cond} {ty : Nat → FieldType} {Post Post' : Nat → Heap → Prop} {mc ms : Nat} {name : String} {E : State → Prop}
/-- the object on top is thrown, and leaves the method -/
theorem g_athrow (X : gX p m c cc nL s args own Ts D cl tys) {ret : Option FieldType} (B : gB meth ret name) (hne : c.exceptionTable.isEmpty = true) (hP : Post a H) (hL : ∀ x ∈ locs, A x.base) (hdg : decode cc pc = .ok (.athrow, 1)) (hc : cells ≤ mc) (hs : slots ≤ ms) : W p l e R s m args below meth c H locs cells slots (gTQ below s Post mc ms A) (F0 m pc ls (.ref a :: rest)) := by
  refine W.widen hc hs ?_
  intro T hT XS
  have h0 : c.exceptionTable.toList = [] := List.eq_nil_of_length_eq_zero (by simpa [Array.isEmpty] using hne)
  obtain ⟨hwalk, hrun, hended, hW, hsame⟩ := XS.athrowLeaves X.1.1 (g := F0 m pc ls (.ref a :: rest)) rfl rfl rfl (fun x hx => by rw [h0] at hx; cases hx) rfl (by rw [X.1.2.1]; exact hdg) B.2.1
  exact ⟨_, hwalk, a, hrun, hended, by rw [show (T.setFrames (.throwing a :: below)).heap = H from hT]; exact hP, locs, hW, hsame, hL⟩
/-- the constructor of an exception without a message, on a machine that fills no trace in -/
theorem g_exinit0 {W : State} (X : Stand p l e R s m args below meth c W locs cells slots) (hexec : p.tables.exec = Jvm.exec) (htr : e.platform.stackTraces = false) {cls : String} {names : List String} {ic : Nat}
    (hown : s.vm.findClass own = some m.cls) (hcls : Jvm.Bundle.fit cls = true) (hnames : ∀ n ∈ names, Jvm.Bundle.fit n = true)
    (h : ∀ a ∈ Jvm.Bundle.ownAtoms0 own ic cls names, a.before args s = true)
    (hlocs : ∀ x ∈ locs, ∀ cell, s.heap[x.base]? = some cell → cell.vm.isStatics = false)
    {cX : ClassId} {kX : Class} (hfoundX : s.vm.findClass cls = some cX) (hkX : s.vm.classes[cX]? = some kX) (hcell : W.heap[a]? = some (freshCell cX kX)) (hnew : s.heap.size ≤ a)
    {g : JFrame} (hg : g.method = m) (hsize : g.locals.size = c.maxLocals) (hstack : g.stack = .ref a :: .ref a :: rest)
    (hd6 : decode c.code g.pc = .ok (.invokespecial ic, 3))
    (hRframes : names.length + 3 < R.frames) (hRlocals : 2 * g.monitorRoom + ((Value.ref a :: rest).map fun v => v.category).sum + (13 * (names.length + 1) + 41) ≤ R.locals) :
    ∃ (vm' : Vm) (ce : Cell) (L : List Loc), (∀ x ∈ L, x.base = a) ∧ ce.cls = cX ∧ ce.vm = .none ∧ Stand p l e R s m args below meth c ((W.setVm vm').setCell a ce) (locs ++ L) cells slots ∧
      ∀ target, Steps p.tables e below (((W.setVm vm').setCell a ce).setTop { g with pc := g.pc + 3, stack := .ref a :: rest }) target → Steps p.tables e below (W.setTop g) target := by
  have howns : e.platform.frameOwnsMonitors = true := by rw [X.admits.platform]
  have hfin : e.platform.finalization = false := by rw [X.admits.platform]
  have hpl : e.platform.magicAccessors = ({} : Platform).magicAccessors := by rw [X.admits.platform]
  have a' : ∀ x, x ∈ Jvm.Bundle.ownAtoms0 own ic cls names → x.holds args s none s [] = true := fun x hx => h x hx
  obtain ⟨T, Z, L, LZ, Y⟩ := ThrowableC.of_atoms (args := args) howns hfin hpl (fun x hx => h x (by simp [Jvm.Bundle.ownAtoms0, hx]))
  obtain ⟨P1, Ps, hlen, L1, hL, hP1m, hlink1, hlink⟩ := Jvm.Bundle.chain0 (args := args) hpl Y.init0 names cls hcls hnames (fun x hx => h x (by simp [Jvm.Bundle.ownAtoms0, hx]))
  have hfound : s.vm.findClass cls = some P1.m.cls := findClass_of_methodNamed hP1m
  cases Option.some.inj (hfoundX.symm.trans hfound)
  obtain ⟨c1, kX', hc1, hk, hord, -, -, hn6⟩ := Cond.instantiable_spec (a' (.instantiable cls 6) (by simp [Jvm.Bundle.ownAtoms0]))
  cases Option.some.inj (hc1.symm.trans hfound)
  cases Option.some.inj (hkX.symm.trans hk)
  have hsel0 : selectMethod e.platform s.vm P1.m.cls T.fill0 = .method T.fill0 := by
    obtain ⟨c2, r2, m2, q1, q2, q3, q4, -⟩ := Cond.selects_spec (a' (.selects cls Jvm.Bundle.tFill0 Jvm.Bundle.tFill0) (by simp [Jvm.Bundle.ownAtoms0]))
    cases Option.some.inj (q1.symm.trans hfound)
    cases Option.some.inj (q2.symm.trans (State.methodFound?_of_named Y.fill0 (by decide)))
    cases Option.some.inj (q3.symm.trans Y.fill0)
    rw [Launch.admits_selectMethod X.admits]; exact q4
  have hselF : selectMethod e.platform s.vm P1.m.cls T.fill = .method T.fill := by
    obtain ⟨c2, r2, m2, q1, q2, q3, q4, -⟩ := Cond.selects_spec (a' (.selects cls Jvm.Bundle.tFill Jvm.Bundle.tFill) (by simp [Jvm.Bundle.ownAtoms0]))
    cases Option.some.inj (q1.symm.trans hfound)
    cases Option.some.inj (q2.symm.trans (State.methodFound?_of_named Y.fill (by decide)))
    cases Option.some.inj (q3.symm.trans Y.fill)
    rw [Launch.admits_selectMethod X.admits]; exact q4
  obtain ⟨cellS0, hcS0, hiss⟩ := Y.statics
  obtain ⟨u0, hu0⟩ := Cond.staticRefV Y.unassigned L.unassignedStatic L.statics hcS0 hiss (a' (.isRef (.static Jvm.Bundle.tN "UNASSIGNED_STACK" Jvm.Bundle.steD)) (by simp [Jvm.Bundle.ownAtoms0]))
  obtain ⟨sen, hsen⟩ := Cond.staticRefV Y.sentinel L.sentinelStatic L.statics hcS0 hiss (a' (.isRef (.static Jvm.Bundle.tN "SUPPRESSED_SENTINEL" Jvm.Bundle.listD)) (by simp [Jvm.Bundle.ownAtoms0]))
  obtain ⟨ci198, i198, fB, hk198, hg198, ha198, hsB, -, hnB, htB, hffB⟩ := Cond.ownField (t := .object "java/lang/Object") Y.found L.cls (by decide +kernel) (a' (.fieldLink Jvm.Bundle.tN 198 Jvm.Bundle.tN "backtrace" "Ljava/lang/Object;") (by simp [Jvm.Bundle.ownAtoms0])) (a' (.lays Jvm.Bundle.tN Jvm.Bundle.tN "backtrace" "Ljava/lang/Object;") (by simp [Jvm.Bundle.ownAtoms0])) e.platform hpl
  obtain ⟨cellS, hcS', heS, -, hkeep⟩ := X.same.2.2.2.2.2 T.aS cellS0 hcS0
  have hcellS : W.heap[T.aS]? = some cellS := hcS'
  have hout' : ∀ i, (⟨T.aS, i⟩ : Loc) ∉ locs := fun i hmem => by
    have := hlocs _ hmem cellS0 hcS0
    rw [hiss] at this; cases this
  have hknownS : cellS.vm ≠ .unknown := by
    rw [heS]; intro hu
    rw [show cellS0.vm = .unknown from hu] at hiss
    cases hiss
  have hneS : T.aS ≠ a := Nat.ne_of_lt (Nat.lt_of_lt_of_le (Array.getElem?_eq_some_iff.mp hcS0).1 hnew)
  obtain ⟨tyC, dC, hdC, hdnC⟩ := Cond.laysAt hfound hk Y.cause (a' (.lays cls Jvm.Bundle.tN "cause" "Ljava/lang/Throwable;") (by simp [Jvm.Bundle.ownAtoms0]))
  obtain ⟨tyS, dS, hdS, hdnS⟩ := Cond.laysAt hfound hk Y.stack (a' (.lays cls Jvm.Bundle.tN "stackTrace" Jvm.Bundle.steD) (by simp [Jvm.Bundle.ownAtoms0]))
  obtain ⟨tyP, dP, hdP, hdnP⟩ := Cond.laysAt hfound hk Y.supp (a' (.lays cls Jvm.Bundle.tN "suppressedExceptions" Jvm.Bundle.listD) (by simp [Jvm.Bundle.ownAtoms0]))
  obtain ⟨tyB, dB, hdB, hdnB⟩ := Cond.laysAt hfound hk hffB (a' (.lays cls Jvm.Bundle.tN "backtrace" "Ljava/lang/Object;") (by simp [Jvm.Bundle.ownAtoms0]))
  have bC := Cond.laysApart hdB hdC hdnB hdnC (by rw [hnB, Y.causeName]; decide)
  have bS := Cond.laysApart hdB hdS hdnB hdnS (by rw [hnB, Y.stackName]; decide)
  have bP := Cond.laysApart hdB hdP hdnB hdnP (by rw [hnB, Y.suppName]; decide)
  have hskip : SkipFacts T e.platform s (fun u => u) u0 ((preparedCellV T.toThrowableT (freshCell P1.m.cls kX) a u0 sen).withEntry W.cur) :=
    ⟨{ ci198 := ci198, i198 := i198, fBack := fB }, ⟨hk198, hg198, ha198, hsB⟩, by
      have := fresh_default (c := P1.m.cls) tyB
      rw [htB] at this
      simpa [preparedCellV, Cell.setSlot, Cell.withEntry, Array.getElem?_setIfInBounds, bC, bS, bP, bC.symm, bS.symm, bP.symm, defaultValue] using this, fun _ _ => rfl⟩
  obtain ⟨tm, methC, cdC, kC, vm₁, hnC, -, -, -, -, -, -, -, hW₁, st1⟩ := Steps.initCold (tb := p.tables) (e := e) (below := below) (s := s) (U := W) X.here hexec X.warmed hpl hown (t := Jvm.Bundle.init0 cls) rfl rfl (Jvm.Bundle.fit_spec hcls).2
    (a' (.methodLink own ic (Jvm.Bundle.init0 cls)) (by simp [Jvm.Bundle.ownAtoms0])) (h (.instanceMethod (Jvm.Bundle.init0 cls)) (by cases names <;> simp [Jvm.Bundle.ownAtoms0, Jvm.Bundle.chain0Atoms, Jvm.Bundle.passAtoms])) (bytes := Jvm.Bundle.five) (maxL := 1) (h (.code (Jvm.Bundle.init0 cls) Jvm.Bundle.five 1 none) (by cases names <;> simp [Jvm.Bundle.ownAtoms0, Jvm.Bundle.chain0Atoms, Jvm.Bundle.passAtoms]))
    (f := g) hg (a := a) (rest := .ref a :: rest) hstack hd6
  cases Option.some.inj (hnC.symm.trans hP1m)
  have X₁ := X.noted hW₁
  obtain ⟨vm₂, X₂, st2⟩ := X₁.ctorPlainOffV hexec (g := { g with stack := .ref a :: rest }) hg hsize T L Z LZ (P1 :: Ps)
    (fun P hP => by rcases List.mem_cons.mp hP with rfl | hP; exact L1; exact hL P hP) ⟨hlink1, hlink⟩ (u0 := u0) (sen := sen) (self := a) (cell := freshCell P1.m.cls kX) (cellS := cellS)
    hcell (fun _ => by simp) (by simp) rfl rfl hsel0 hselF hcellS hneS hknownS (by rw [hkeep _ (hout' _)]; exact hu0) (by rw [hkeep _ (hout' _)]; exact hsen)
    (Takes.of_laid hk hord tyC (by rw [Y.causeType]; rfl)) (Takes.of_laid hk hord tyS (by rw [Y.stackType]; exact fits_refV_array _ u0)) (Takes.of_laid hk hord tyP (by rw [Y.suppType]; exact fits_refV_object _ sen)) Y.objLocals hskip htr [] hd6
    (by simp only [List.length_cons, hlen]; omega) (by simp only [List.length_cons, hlen]; exact hRlocals)
  refine ⟨vm₂, _, _, ?_, rfl, rfl, X₂, fun target ht => st1 _ (fun acts => ?_)⟩
  · intro x hx
    simp only [List.mem_cons, List.not_mem_nil, or_false] at hx
    rcases hx with rfl | rfl | rfl | rfl <;> rfl
  · rw [doInvoke_state]
    exact st2 _ ht
end GTR
end
section
/-! texts: what two have in common, and their order -/
def t_lcp : List Nat → List Nat → Nat
  | x :: xs, y :: ys => if x = y then t_lcp xs ys + 1 else 0
  | _, _ => 0
theorem t_lcp_le1 : ∀ xs ys : List Nat, t_lcp xs ys ≤ xs.length
  | [], ys => by simp [t_lcp]
  | x :: xs, [] => by simp [t_lcp]
  | x :: xs, y :: ys => by
    have h := t_lcp_le1 xs ys
    unfold t_lcp
    split
    · simp; omega
    · simp
theorem t_lcp_le2 : ∀ xs ys : List Nat, t_lcp xs ys ≤ ys.length
  | [], ys => by simp [t_lcp]
  | x :: xs, [] => by simp [t_lcp]
  | x :: xs, y :: ys => by
    have h := t_lcp_le2 xs ys
    unfold t_lcp
    split
    · simp; omega
    · simp
theorem t_lcp_eq : ∀ (xs ys : List Nat) (i : Nat), i ≤ xs.length → i ≤ ys.length → (∀ j, j < i → xs.getD j 0 = ys.getD j 0) → (i = xs.length ∨ i = ys.length ∨ xs.getD i 0 ≠ ys.getD i 0) → t_lcp xs ys = i
  | [], ys, i, h1, h2, h3, h4 => by
    have : i = 0 := by simpa using h1
    simp [t_lcp, this]
  | x :: xs, [], i, h1, h2, h3, h4 => by
    have : i = 0 := by simpa using h2
    simp [t_lcp, this]
  | x :: xs, y :: ys, i, h1, h2, h3, h4 => by
    cases i with
    | zero =>
      have hne : x ≠ y := by
        rcases h4 with h | h | h
        · simp at h
        · simp at h
        · simpa using h
      simp [t_lcp, hne]
    | succ i =>
      have hxy : x = y := by simpa using h3 0 (by omega)
      have ih := t_lcp_eq xs ys i (by simpa using h1) (by simpa using h2) (fun j hj => by simpa using h3 (j + 1) (by omega)) (by
        rcases h4 with h | h | h
        · exact Or.inl (by simpa using h)
        · exact Or.inr (Or.inl (by simpa using h))
        · exact Or.inr (Or.inr (by simpa using h)))
      simp [t_lcp, hxy, ih]
theorem t_lcp_same : ∀ (xs ys : List Nat) (j : Nat), j < t_lcp xs ys → xs.getD j 0 = ys.getD j 0
  | [], ys, j, h => by simp [t_lcp] at h
  | x :: xs, [], j, h => by simp [t_lcp] at h
  | x :: xs, y :: ys, j, h => by
    unfold t_lcp at h
    split at h
    · rename_i hxy
      cases j with
      | zero => simpa using hxy
      | succ j => simpa using t_lcp_same xs ys j (by omega)
    · omega
theorem t_lcp_stop : ∀ (xs ys : List Nat), t_lcp xs ys < xs.length → t_lcp xs ys < ys.length → xs.getD (t_lcp xs ys) 0 ≠ ys.getD (t_lcp xs ys) 0
  | [], ys, h, _ => by simp at h
  | x :: xs, [], _, h => by simp at h
  | x :: xs, y :: ys, h1, h2 => by
    unfold t_lcp at h1 h2 ⊢
    split at h1
    · rename_i hxy
      rw [if_pos hxy] at h2 ⊢
      simpa using t_lcp_stop xs ys (by simpa using h1) (by simpa using h2)
    · rename_i hxy
      rw [if_neg hxy]
      simpa using hxy
def t_ord : List Nat → List Nat → Int
  | [], ys => -(ys.length : Int)
  | x :: xs, [] => ((x :: xs).length : Int)
  | x :: xs, y :: ys => if x = y then t_ord xs ys else (x : Int) - (y : Int)
theorem t_ord_end : ∀ (xs ys : List Nat), (t_lcp xs ys = xs.length ∨ t_lcp xs ys = ys.length) → t_ord xs ys = (xs.length : Int) - (ys.length : Int)
  | [], ys, _ => by simp [t_ord]
  | x :: xs, [], _ => by simp [t_ord]
  | x :: xs, y :: ys, h => by
    unfold t_lcp at h
    split at h
    · rename_i hxy
      have ih := t_ord_end xs ys (by rcases h with h | h; exact Or.inl (by simpa using h); exact Or.inr (by simpa using h))
      unfold t_ord
      rw [if_pos hxy, ih]
      simp
      omega
    · simp at h
theorem t_ord_mid : ∀ (xs ys : List Nat), t_lcp xs ys < xs.length → t_lcp xs ys < ys.length → t_ord xs ys = (xs.getD (t_lcp xs ys) 0 : Int) - (ys.getD (t_lcp xs ys) 0 : Int)
  | [], ys, h, _ => by simp at h
  | x :: xs, [], _, h => by simp at h
  | x :: xs, y :: ys, h1, h2 => by
    unfold t_lcp at h1 h2 ⊢
    split at h1
    · rename_i hxy
      rw [if_pos hxy] at h2 ⊢
      unfold t_ord
      rw [if_pos hxy, t_ord_mid xs ys (by simpa using h1) (by simpa using h2)]
      simp
    · rename_i hxy
      rw [if_neg hxy]
      unfold t_ord
      rw [if_neg hxy]
      simp
theorem t_ord_refl : ∀ xs : List Nat, t_ord xs xs = 0
  | [] => by simp [t_ord]
  | x :: xs => by simp [t_ord, t_ord_refl xs]
theorem t_ord_anti : ∀ xs ys : List Nat, t_ord ys xs = - t_ord xs ys
  | [], [] => by simp [t_ord]
  | [], y :: ys => by simp [t_ord]
  | x :: xs, [] => by simp [t_ord]
  | x :: xs, y :: ys => by
    unfold t_ord
    by_cases h : x = y
    · rw [if_pos h, if_pos h.symm, t_ord_anti xs ys]
    · rw [if_neg h, if_neg (fun q => h q.symm)]
      omega
theorem t_ord_eq : ∀ xs ys : List Nat, t_ord xs ys = 0 → xs = ys
  | [], [], _ => rfl
  | [], y :: ys, h => by simp [t_ord] at h; omega
  | x :: xs, [], h => by simp [t_ord] at h; omega
  | x :: xs, y :: ys, h => by
    unfold t_ord at h
    by_cases hxy : x = y
    · rw [if_pos hxy] at h
      rw [hxy, t_ord_eq xs ys h]
    · rw [if_neg hxy] at h
      omega
theorem t_ord_trans : ∀ xs ys zs : List Nat, t_ord xs ys < 0 → t_ord ys zs < 0 → t_ord xs zs < 0
  | [], [], zs, h, _ => by simp [t_ord] at h
  | [], y :: ys, [], _, h => by simp [t_ord] at h; omega
  | [], y :: ys, z :: zs, _, _ => by simp [t_ord]; omega
  | x :: xs, [], zs, h, _ => by simp [t_ord] at h; omega
  | x :: xs, y :: ys, [], _, h => by simp [t_ord] at h; omega
  | x :: xs, y :: ys, z :: zs, h1, h2 => by
    unfold t_ord at h1 h2 ⊢
    by_cases hxy : x = y
    · rw [if_pos hxy] at h1
      by_cases hyz : y = z
      · rw [if_pos hyz] at h2
        rw [if_pos (hxy.trans hyz)]
        exact t_ord_trans xs ys zs h1 h2
      · rw [if_neg hyz] at h2
        rw [if_neg (fun q => hyz (hxy.symm.trans q))]
        omega
    · rw [if_neg hxy] at h1
      by_cases hyz : y = z
      · rw [if_neg (fun q => hxy (q.trans hyz.symm))]
        omega
      · rw [if_neg hyz] at h2
        rw [if_neg (fun q => by omega)]
        omega
theorem t_ord_small {xs ys : List Nat} (h1 : xs.length ≤ 65535) (h2 : ys.length ≤ 65535) (h3 : ∀ x ∈ xs, x < 65536) (h4 : ∀ y ∈ ys, y < 65536) : -65536 < t_ord xs ys ∧ t_ord xs ys < 65536 := by
  by_cases ha : t_lcp xs ys < xs.length
  · by_cases hb : t_lcp xs ys < ys.length
    · rw [t_ord_mid xs ys ha hb]
      have e1 : xs.getD (t_lcp xs ys) 0 < 65536 := by
        rw [List.getD_eq_getElem _ _ ha]
        exact h3 _ (List.getElem_mem ha)
      have e2 : ys.getD (t_lcp xs ys) 0 < 65536 := by
        rw [List.getD_eq_getElem _ _ hb]
        exact h4 _ (List.getElem_mem hb)
      omega
    · have := t_lcp_le2 xs ys
      rw [t_ord_end xs ys (Or.inr (by omega))]
      omega
  · have := t_lcp_le1 xs ys
    rw [t_ord_end xs ys (Or.inl (by omega))]
    omega
end
section
/-! printed by wip/tools/names.py: names, fields, words -/
def gWS : List Cond := lw_tbl.filter gGoodB
theorem gWS_good : gGood gWS := fun w hw => gGood_one (List.mem_filter.mp hw).2
def R_Key : String := "KeyHall$Key"
def F_Key : u_T := fun k => match k with
  | 0 => ("KeyHall$Key", "letters", "[I", true)
  | _ => ("KeyHall$Key", "length", "I", false)
def t_Key : Nat → FieldType := fun k => match k with
  | 0 => .array .int
  | _ => .int
def R_KeyMap : String := "KeyHall$KeyMap"
def F_KeyMap : u_T := fun k => match k with
  | 0 => ("KeyHall$KeyMap", "keys", "[LKeyHall$Key;", true)
  | 1 => ("KeyHall$KeyMap", "values", "[I", true)
  | 2 => ("KeyHall$KeyMap", "count", "I", false)
  | _ => ("KeyHall$KeyMap", "changes", "I", false)
def t_KeyMap : Nat → FieldType := fun k => match k with
  | 0 => .array (.object "KeyHall$Key")
  | 1 => .array .int
  | 2 => .int
  | _ => .int
def R_View : String := "KeyHall$View"
def F_View : u_T := fun k => match k with
  | 0 => ("KeyHall$View", "map", "LKeyHall$KeyMap;", true)
  | 1 => ("KeyHall$View", "origin", "LKeyHall$View;", true)
  | 2 => ("KeyHall$View", "sort", "I", true)
  | 3 => ("KeyHall$View", "bound", "LKeyHall$Key;", true)
  | 4 => ("KeyHall$View", "turned", "Z", true)
  | 5 => ("KeyHall$View", "walker", "LKeyHall$Walker;", true)
  | 6 => ("KeyHall$View", "from", "I", false)
  | _ => ("KeyHall$View", "to", "I", false)
def t_View : Nat → FieldType := fun k => match k with
  | 0 => .object "KeyHall$KeyMap"
  | 1 => .object "KeyHall$View"
  | 2 => .int
  | 3 => .object "KeyHall$Key"
  | 4 => .boolean
  | 5 => .object "KeyHall$Walker"
  | 6 => .int
  | _ => .int
def R_Walker : String := "KeyHall$Walker"
def F_Walker : u_T := fun k => match k with
  | 0 => ("KeyHall$Walker", "begun", "Z", false)
  | 1 => ("KeyHall$Walker", "behind", "I", false)
  | 2 => ("KeyHall$Walker", "hasTold", "Z", false)
  | _ => ("KeyHall$Walker", "changesKnown", "I", false)
def t_Walker : Nat → FieldType := fun k => match k with
  | 0 => .boolean
  | 1 => .int
  | 2 => .boolean
  | _ => .int
def R_Edges : String := "KeyHall$Edges"
def F_Edges : u_T := fun k => match k with
  | 0 => ("KeyHall$Edges", "sharedBytes", "[I", true)
  | _ => ("KeyHall$Edges", "differsAt", "[Z", true)
def t_Edges : Nat → FieldType := fun k => match k with
  | 0 => .array .int
  | _ => .array .boolean
def R_Automaton : String := "KeyHall$Automaton"
def F_Automaton : u_T := fun k => match k with
  | 0 => ("KeyHall$Automaton", "keys", "[LKeyHall$Key;", true)
  | 1 => ("KeyHall$Automaton", "count", "I", false)
  | 2 => ("KeyHall$Automaton", "prefixFrom", "[I", true)
  | 3 => ("KeyHall$Automaton", "prefixTo", "[I", true)
  | 4 => ("KeyHall$Automaton", "prefixLength", "[I", true)
  | 5 => ("KeyHall$Automaton", "prefixHeight", "[I", true)
  | 6 => ("KeyHall$Automaton", "prefixes", "I", false)
  | 7 => ("KeyHall$Automaton", "stateText", "[I", true)
  | 8 => ("KeyHall$Automaton", "states", "I", false)
  | 9 => ("KeyHall$Automaton", "steps", "I", false)
  | _ => ("KeyHall$Automaton", "finals", "I", false)
def t_Automaton : Nat → FieldType := fun k => match k with
  | 0 => .array (.object "KeyHall$Key")
  | 1 => .int
  | 2 => .array .int
  | 3 => .array .int
  | 4 => .array .int
  | 5 => .array .int
  | 6 => .int
  | 7 => .array .int
  | 8 => .int
  | 9 => .int
  | _ => .int
def R_EditedText : String := "KeyHall$EditedText"
def F_EditedText : u_T := fun k => match k with
  | 0 => ("KeyHall$EditedText", "letters", "[I", true)
  | 1 => ("KeyHall$EditedText", "length", "I", false)
  | 2 => ("KeyHall$EditedText", "history", "LKeyHall$History;", true)
  | 3 => ("KeyHall$EditedText", "suffixes", "LKeyHall$SuffixOrder;", true)
  | _ => ("KeyHall$EditedText", "suffixesAreSorted", "Z", false)
def t_EditedText : Nat → FieldType := fun k => match k with
  | 0 => .array .int
  | 1 => .int
  | 2 => .object "KeyHall$History"
  | 3 => .object "KeyHall$SuffixOrder"
  | _ => .boolean
def R_History : String := "KeyHall$History"
def F_History : u_T := fun k => match k with
  | 0 => ("KeyHall$History", "letters", "[I", true)
  | 1 => ("KeyHall$History", "lengths", "[I", true)
  | 2 => ("KeyHall$History", "newest", "I", false)
  | _ => ("KeyHall$History", "kept", "I", false)
def t_History : Nat → FieldType := fun k => match k with
  | 0 => .array .int
  | 1 => .array .int
  | 2 => .int
  | _ => .int
def R_SuffixOrder : String := "KeyHall$SuffixOrder"
def F_SuffixOrder : u_T := fun k => match k with
  | 0 => ("KeyHall$SuffixOrder", "starts", "[I", true)
  | _ => ("KeyHall$SuffixOrder", "ranks", "[I", true)
def t_SuffixOrder : Nat → FieldType := fun k => match k with
  | 0 => .array .int
  | _ => .array .int
def R_Hall : String := "KeyHall"
def F_Hall : u_T := fun k => match k with
  | 0 => ("KeyHall", "tape", "LKeyHall$Key;", true)
  | 1 => ("KeyHall", "used", "LKeyHall$Key;", true)
  | 2 => ("KeyHall", "told", "LKeyHall$Key;", true)
  | 3 => ("KeyHall", "views", "[LKeyHall$View;", true)
  | 4 => ("KeyHall", "viewCount", "I", false)
  | 5 => ("KeyHall", "branches", "LKeyHall$Edges;", true)
  | 6 => ("KeyHall", "frozen", "LKeyHall$Automaton;", true)
  | _ => ("KeyHall", "text", "LKeyHall$EditedText;", true)
def t_Hall : Nat → FieldType := fun k => match k with
  | 0 => .object "KeyHall$Key"
  | 1 => .object "KeyHall$Key"
  | 2 => .object "KeyHall$Key"
  | 3 => .array (.object "KeyHall$View")
  | 4 => .int
  | 5 => .object "KeyHall$Edges"
  | 6 => .object "KeyHall$Automaton"
  | _ => .object "KeyHall$EditedText"
def R_Model : String := "KeyHallModel"
def F_Model : u_T := fun k => match k with
  | 0 => ("KeyHallModel", "code", "I", false)
  | 1 => ("KeyHallModel", "tape", "[I", true)
  | 2 => ("KeyHallModel", "typed", "I", false)
  | 3 => ("KeyHallModel", "many", "[I", true)
  | 4 => ("KeyHallModel", "turns", "[I", true)
  | 5 => ("KeyHallModel", "letters", "[I", true)
  | 6 => ("KeyHallModel", "length", "[I", true)
  | 7 => ("KeyHallModel", "value", "[I", true)
  | 8 => ("KeyHallModel", "views", "I", false)
  | 9 => ("KeyHallModel", "of", "[I", true)
  | 10 => ("KeyHallModel", "sort", "[I", true)
  | 11 => ("KeyHallModel", "textLong", "[I", true)
  | 12 => ("KeyHallModel", "text", "[I", true)
  | 13 => ("KeyHallModel", "begun", "[Z", true)
  | 14 => ("KeyHallModel", "told", "[Z", true)
  | 15 => ("KeyHallModel", "drops", "[Z", true)
  | 16 => ("KeyHallModel", "seen", "[I", true)
  | 17 => ("KeyHallModel", "lastLong", "[I", true)
  | 18 => ("KeyHallModel", "last", "[I", true)
  | 19 => ("KeyHallModel", "found", "[I", true)
  | 20 => ("KeyHallModel", "foundLong", "I", false)
  | 21 => ("KeyHallModel", "differs", "[Z", true)
  | 22 => ("KeyHallModel", "prefixes", "I", false)
  | 23 => ("KeyHallModel", "firstKey", "[I", true)
  | 24 => ("KeyHallModel", "chars", "[I", true)
  | 25 => ("KeyHallModel", "stateOf", "[I", true)
  | 26 => ("KeyHallModel", "states", "I", false)
  | 27 => ("KeyHallModel", "steps", "I", false)
  | 28 => ("KeyHallModel", "start", "I", false)
  | 29 => ("KeyHallModel", "isFinal", "[Z", true)
  | 30 => ("KeyHallModel", "stepFrom", "[I", true)
  | 31 => ("KeyHallModel", "stepChar", "[I", true)
  | 32 => ("KeyHallModel", "stepTo", "[I", true)
  | 33 => ("KeyHallModel", "page", "[I", true)
  | 34 => ("KeyHallModel", "size", "I", false)
  | 35 => ("KeyHallModel", "pages", "[I", true)
  | 36 => ("KeyHallModel", "sizes", "[I", true)
  | 37 => ("KeyHallModel", "edits", "I", false)
  | _ => ("KeyHallModel", "kept", "I", false)
def t_Model : Nat → FieldType := fun k => match k with
  | 0 => .int
  | 1 => .array .int
  | 2 => .int
  | 3 => .array .int
  | 4 => .array .int
  | 5 => .array .int
  | 6 => .array .int
  | 7 => .array .int
  | 8 => .int
  | 9 => .array .int
  | 10 => .array .int
  | 11 => .array .int
  | 12 => .array .int
  | 13 => .array .boolean
  | 14 => .array .boolean
  | 15 => .array .boolean
  | 16 => .array .int
  | 17 => .array .int
  | 18 => .array .int
  | 19 => .array .int
  | 20 => .int
  | 21 => .array .boolean
  | 22 => .int
  | 23 => .array .int
  | 24 => .array .int
  | 25 => .array .int
  | 26 => .int
  | 27 => .int
  | 28 => .int
  | 29 => .array .boolean
  | 30 => .array .int
  | 31 => .array .int
  | 32 => .array .int
  | 33 => .array .int
  | 34 => .int
  | 35 => .array .int
  | 36 => .array .int
  | 37 => .int
  | _ => .int
def R_Law : String := "KeyHallLaw"
abbrev CL : List vw_C := [(R_Key, F_Key, 2), (R_KeyMap, F_KeyMap, 4), (R_View, F_View, 8), (R_Walker, F_Walker, 4), (R_Edges, F_Edges, 2), (R_Automaton, F_Automaton, 11), (R_EditedText, F_EditedText, 5), (R_History, F_History, 4), (R_SuffixOrder, F_SuffixOrder, 2), (R_Hall, F_Hall, 8), (R_Model, F_Model, 39)]
abbrev gY (q : Nat → ClassId) : List (ClassId × FieldType) := [(q 0, .int), (q 1, .boolean), (q 2, .long), (q 3, .object R_Key), (q 4, .object R_View)]
theorem kc_Key : gk gWS CL 0 R_Key F_Key 2 t_Key := ⟨by decide +kernel, by decide +kernel, by decide +kernel, rfl⟩
theorem ki_Key : Cond.instantiable R_Key 2 ∈ gWS ∧ Cond.initialized R_Key ∈ gWS := by decide +kernel
theorem kc_KeyMap : gk gWS CL 1 R_KeyMap F_KeyMap 4 t_KeyMap := ⟨by decide +kernel, by decide +kernel, by decide +kernel, rfl⟩
theorem ki_KeyMap : Cond.instantiable R_KeyMap 4 ∈ gWS ∧ Cond.initialized R_KeyMap ∈ gWS := by decide +kernel
theorem kc_View : gk gWS CL 2 R_View F_View 8 t_View := ⟨by decide +kernel, by decide +kernel, by decide +kernel, rfl⟩
theorem ki_View : Cond.instantiable R_View 8 ∈ gWS ∧ Cond.initialized R_View ∈ gWS := by decide +kernel
theorem kc_Walker : gk gWS CL 3 R_Walker F_Walker 4 t_Walker := ⟨by decide +kernel, by decide +kernel, by decide +kernel, rfl⟩
theorem ki_Walker : Cond.instantiable R_Walker 4 ∈ gWS ∧ Cond.initialized R_Walker ∈ gWS := by decide +kernel
theorem kc_Edges : gk gWS CL 4 R_Edges F_Edges 2 t_Edges := ⟨by decide +kernel, by decide +kernel, by decide +kernel, rfl⟩
theorem ki_Edges : Cond.instantiable R_Edges 2 ∈ gWS ∧ Cond.initialized R_Edges ∈ gWS := by decide +kernel
theorem kc_Automaton : gk gWS CL 5 R_Automaton F_Automaton 11 t_Automaton := ⟨by decide +kernel, by decide +kernel, by decide +kernel, rfl⟩
theorem ki_Automaton : Cond.instantiable R_Automaton 11 ∈ gWS ∧ Cond.initialized R_Automaton ∈ gWS := by decide +kernel
theorem kc_EditedText : gk gWS CL 6 R_EditedText F_EditedText 5 t_EditedText := ⟨by decide +kernel, by decide +kernel, by decide +kernel, rfl⟩
theorem ki_EditedText : Cond.instantiable R_EditedText 5 ∈ gWS ∧ Cond.initialized R_EditedText ∈ gWS := by decide +kernel
theorem kc_History : gk gWS CL 7 R_History F_History 4 t_History := ⟨by decide +kernel, by decide +kernel, by decide +kernel, rfl⟩
theorem ki_History : Cond.instantiable R_History 4 ∈ gWS ∧ Cond.initialized R_History ∈ gWS := by decide +kernel
theorem kc_SuffixOrder : gk gWS CL 8 R_SuffixOrder F_SuffixOrder 2 t_SuffixOrder := ⟨by decide +kernel, by decide +kernel, by decide +kernel, rfl⟩
theorem ki_SuffixOrder : Cond.instantiable R_SuffixOrder 2 ∈ gWS ∧ Cond.initialized R_SuffixOrder ∈ gWS := by decide +kernel
theorem kc_Hall : gk gWS CL 9 R_Hall F_Hall 8 t_Hall := ⟨by decide +kernel, by decide +kernel, by decide +kernel, rfl⟩
theorem ki_Hall : Cond.instantiable R_Hall 8 ∈ gWS ∧ Cond.initialized R_Hall ∈ gWS := by decide +kernel
theorem kc_Model : gk gWS CL 10 R_Model F_Model 39 t_Model := ⟨by decide +kernel, by decide +kernel, by decide +kernel, rfl⟩
theorem ki_Model : Cond.instantiable R_Model 39 ∈ gWS ∧ Cond.initialized R_Model ∈ gWS := by decide +kernel
abbrev b_Key_init : ByteArray := prog_6_method_1_code
def y_Key_init : MethodName := ⟨R_Key, "<init>", "()V"⟩
abbrev b_Key_clear : ByteArray := prog_6_method_2_code
def y_Key_clear : MethodName := ⟨R_Key, "clear", "()V"⟩
abbrev b_Key_append : ByteArray := prog_6_method_3_code
def y_Key_append : MethodName := ⟨R_Key, "append", "(I)V"⟩
abbrev b_Key_become : ByteArray := prog_6_method_4_code
def y_Key_become : MethodName := ⟨R_Key, "become", "(LKeyHall$Key;)V"⟩
abbrev b_Key_shared : ByteArray := prog_6_method_5_code
def y_Key_shared : MethodName := ⟨R_Key, "shared", "(LKeyHall$Key;)I"⟩
abbrev b_Key_order : ByteArray := prog_6_method_6_code
def y_Key_order : MethodName := ⟨R_Key, "order", "(LKeyHall$Key;)I"⟩
abbrev b_Key_beginsWith : ByteArray := prog_6_method_7_code
def y_Key_beginsWith : MethodName := ⟨R_Key, "beginsWith", "(LKeyHall$Key;)Z"⟩
abbrev b_Key_hasTail : ByteArray := prog_6_method_8_code
def y_Key_hasTail : MethodName := ⟨R_Key, "hasTail", "(ILKeyHall$Key;I)Z"⟩
abbrev b_Key_matches : ByteArray := prog_6_method_9_code
def y_Key_matches : MethodName := ⟨R_Key, "matches", "(LKeyHall$Key;I)Z"⟩
abbrev b_KeyMap_init : ByteArray := prog_7_method_1_code
def y_KeyMap_init : MethodName := ⟨R_KeyMap, "<init>", "()V"⟩
abbrev b_KeyMap_countLess : ByteArray := prog_7_method_2_code
def y_KeyMap_countLess : MethodName := ⟨R_KeyMap, "countLess", "(LKeyHall$Key;)I"⟩
abbrev b_KeyMap_placeOf : ByteArray := prog_7_method_3_code
def y_KeyMap_placeOf : MethodName := ⟨R_KeyMap, "placeOf", "(LKeyHall$Key;)I"⟩
abbrev b_KeyMap_add : ByteArray := prog_7_method_4_code
def y_KeyMap_add : MethodName := ⟨R_KeyMap, "add", "(LKeyHall$Key;I)V"⟩
abbrev b_KeyMap_takeOut : ByteArray := prog_7_method_5_code
def y_KeyMap_takeOut : MethodName := ⟨R_KeyMap, "takeOut", "(I)I"⟩
abbrev b_View_init : ByteArray := prog_9_method_1_code
def y_View_init : MethodName := ⟨R_View, "<init>", "(LKeyHall$KeyMap;)V"⟩
abbrev b_View_init2 : ByteArray := prog_9_method_2_code
def y_View_init2 : MethodName := ⟨R_View, "<init>", "(LKeyHall$View;ILKeyHall$Key;)V"⟩
abbrev b_View_admits : ByteArray := prog_9_method_3_code
def y_View_admits : MethodName := ⟨R_View, "admits", "(LKeyHall$Key;)Z"⟩
abbrev b_View_bounds : ByteArray := prog_9_method_4_code
def y_View_bounds : MethodName := ⟨R_View, "bounds", "(LKeyHall$Key;)Z"⟩
abbrev b_View_measure : ByteArray := prog_9_method_5_code
def y_View_measure : MethodName := ⟨R_View, "measure", "()V"⟩
abbrev b_View_count : ByteArray := prog_9_method_6_code
def y_View_count : MethodName := ⟨R_View, "count", "()I"⟩
abbrev b_View_placeRanked : ByteArray := prog_9_method_7_code
def y_View_placeRanked : MethodName := ⟨R_View, "placeRanked", "(I)I"⟩
abbrev b_View_placeOf : ByteArray := prog_9_method_8_code
def y_View_placeOf : MethodName := ⟨R_View, "placeOf", "(LKeyHall$Key;)I"⟩
abbrev b_View_rankBy : ByteArray := prog_9_method_9_code
def y_View_rankBy : MethodName := ⟨R_View, "rankBy", "(ILKeyHall$Key;)I"⟩
abbrev b_View_countBefore : ByteArray := prog_9_method_10_code
def y_View_countBefore : MethodName := ⟨R_View, "countBefore", "(LKeyHall$Key;Z)I"⟩
abbrev b_View_rankOfLongestStart : ByteArray := prog_9_method_11_code
def y_View_rankOfLongestStart : MethodName := ⟨R_View, "rankOfLongestStart", "(LKeyHall$Key;)I"⟩
abbrev b_Walker_init : ByteArray := prog_10_method_1_code
def y_Walker_init : MethodName := ⟨R_Walker, "<init>", "()V"⟩
abbrev b_Walker_begin : ByteArray := prog_10_method_2_code
def y_Walker_begin : MethodName := ⟨R_Walker, "begin", "(I)V"⟩
abbrev b_Walker_mayGoOn : ByteArray := prog_10_method_3_code
def y_Walker_mayGoOn : MethodName := ⟨R_Walker, "mayGoOn", "(I)Z"⟩
abbrev b_Walker_step : ByteArray := prog_10_method_4_code
def y_Walker_step : MethodName := ⟨R_Walker, "step", "()V"⟩
abbrev b_Walker_stepBack : ByteArray := prog_10_method_5_code
def y_Walker_stepBack : MethodName := ⟨R_Walker, "stepBack", "(I)V"⟩
abbrev b_Edges_init : ByteArray := prog_3_method_1_code
def y_Edges_init : MethodName := ⟨R_Edges, "<init>", "()V"⟩
abbrev b_Edges_countInner : ByteArray := prog_3_method_2_code
def y_Edges_countInner : MethodName := ⟨R_Edges, "countInner", "(LKeyHall$KeyMap;II)I"⟩
abbrev b_Edges_countSharedBytes : ByteArray := prog_3_method_3_code
def y_Edges_countSharedBytes : MethodName := ⟨R_Edges, "countSharedBytes", "(LKeyHall$Key;LKeyHall$Key;)I"⟩
abbrev b_Edges_isNewText : ByteArray := prog_3_method_4_code
def y_Edges_isNewText : MethodName := ⟨R_Edges, "isNewText", "(I)Z"⟩
abbrev b_Edges_fan : ByteArray := prog_3_method_5_code
def y_Edges_fan : MethodName := ⟨R_Edges, "fan", "(IILKeyHall$Key;)I"⟩
abbrev b_Edges_depth : ByteArray := prog_3_method_6_code
def y_Edges_depth : MethodName := ⟨R_Edges, "depth", "(LKeyHall$KeyMap;I)I"⟩
abbrev b_Edges_firstDifferentBit : ByteArray := prog_3_method_7_code
def y_Edges_firstDifferentBit : MethodName := ⟨R_Edges, "firstDifferentBit", "(LKeyHall$Key;LKeyHall$Key;)I"⟩
abbrev b_Automaton_init : ByteArray := prog_2_method_1_code
def y_Automaton_init : MethodName := ⟨R_Automaton, "<init>", "()V"⟩
abbrev b_Automaton_become : ByteArray := prog_2_method_2_code
def y_Automaton_become : MethodName := ⟨R_Automaton, "become", "(LKeyHall$View;)V"⟩
abbrev b_Automaton_listPrefixes : ByteArray := prog_2_method_3_code
def y_Automaton_listPrefixes : MethodName := ⟨R_Automaton, "listPrefixes", "()V"⟩
abbrev b_Automaton_addPrefix : ByteArray := prog_2_method_4_code
def y_Automaton_addPrefix : MethodName := ⟨R_Automaton, "addPrefix", "(II)V"⟩
abbrev b_Automaton_countStates : ByteArray := prog_2_method_5_code
def y_Automaton_countStates : MethodName := ⟨R_Automaton, "countStates", "()V"⟩
abbrev b_Automaton_isKnown : ByteArray := prog_2_method_6_code
def y_Automaton_isKnown : MethodName := ⟨R_Automaton, "isKnown", "(II)Z"⟩
abbrev b_Automaton_leadAlike : ByteArray := prog_2_method_7_code
def y_Automaton_leadAlike : MethodName := ⟨R_Automaton, "leadAlike", "(II)Z"⟩
abbrev b_Automaton_addState : ByteArray := prog_2_method_8_code
def y_Automaton_addState : MethodName := ⟨R_Automaton, "addState", "(I)V"⟩
abbrev b_Automaton_countFollowing : ByteArray := prog_2_method_9_code
def y_Automaton_countFollowing : MethodName := ⟨R_Automaton, "countFollowing", "(I)I"⟩
abbrev b_Automaton_reach : ByteArray := prog_2_method_10_code
def y_Automaton_reach : MethodName := ⟨R_Automaton, "reach", "(LKeyHall$Key;)I"⟩
abbrev b_Automaton_accepts : ByteArray := prog_2_method_11_code
def y_Automaton_accepts : MethodName := ⟨R_Automaton, "accepts", "(LKeyHall$Key;)Z"⟩
abbrev b_EditedText_init : ByteArray := prog_4_method_1_code
def y_EditedText_init : MethodName := ⟨R_EditedText, "<init>", "()V"⟩
abbrev b_EditedText_open : ByteArray := prog_4_method_2_code
def y_EditedText_open : MethodName := ⟨R_EditedText, "open", "(ILKeyHall$Key;)V"⟩
abbrev b_EditedText_close : ByteArray := prog_4_method_3_code
def y_EditedText_close : MethodName := ⟨R_EditedText, "close", "(II)V"⟩
abbrev b_EditedText_takeBack : ByteArray := prog_4_method_4_code
def y_EditedText_takeBack : MethodName := ⟨R_EditedText, "takeBack", "()Z"⟩
abbrev b_EditedText_hash : ByteArray := prog_4_method_5_code
def y_EditedText_hash : MethodName := ⟨R_EditedText, "hash", "()I"⟩
abbrev b_EditedText_sortedSuffixes : ByteArray := prog_4_method_6_code
def y_EditedText_sortedSuffixes : MethodName := ⟨R_EditedText, "sortedSuffixes", "()LKeyHall$SuffixOrder;"⟩
abbrev b_EditedText_sharedWithSuffixBefore : ByteArray := prog_4_method_7_code
def y_EditedText_sharedWithSuffixBefore : MethodName := ⟨R_EditedText, "sharedWithSuffixBefore", "(I)I"⟩
abbrev b_EditedText_standsAt : ByteArray := prog_4_method_8_code
def y_EditedText_standsAt : MethodName := ⟨R_EditedText, "standsAt", "(ILKeyHall$Key;)Z"⟩
abbrev b_EditedText_countPlaces : ByteArray := prog_4_method_9_code
def y_EditedText_countPlaces : MethodName := ⟨R_EditedText, "countPlaces", "(LKeyHall$Key;)I"⟩
abbrev b_EditedText_leastSuffixBeginning : ByteArray := prog_4_method_10_code
def y_EditedText_leastSuffixBeginning : MethodName := ⟨R_EditedText, "leastSuffixBeginning", "(LKeyHall$Key;)I"⟩
abbrev b_History_init : ByteArray := prog_5_method_1_code
def y_History_init : MethodName := ⟨R_History, "<init>", "()V"⟩
abbrev b_History_keep : ByteArray := prog_5_method_2_code
def y_History_keep : MethodName := ⟨R_History, "keep", "([II)V"⟩
abbrev b_History_giveBack : ByteArray := prog_5_method_3_code
def y_History_giveBack : MethodName := ⟨R_History, "giveBack", "([I)I"⟩
abbrev b_SuffixOrder_init : ByteArray := prog_8_method_1_code
def y_SuffixOrder_init : MethodName := ⟨R_SuffixOrder, "<init>", "()V"⟩
abbrev b_SuffixOrder_sort : ByteArray := prog_8_method_2_code
def y_SuffixOrder_sort : MethodName := ⟨R_SuffixOrder, "sort", "([II)V"⟩
abbrev b_SuffixOrder_isLess : ByteArray := prog_8_method_3_code
def y_SuffixOrder_isLess : MethodName := ⟨R_SuffixOrder, "isLess", "([III)Z"⟩
abbrev b_Hall_init : ByteArray := prog_1_method_1_code
def y_Hall_init : MethodName := ⟨R_Hall, "<init>", "()V"⟩
abbrev b_Hall_type : ByteArray := prog_1_method_2_code
def y_Hall_type : MethodName := ⟨R_Hall, "type", "(JI)Z"⟩
abbrev b_Hall_view : ByteArray := prog_1_method_3_code
def y_Hall_view : MethodName := ⟨R_Hall, "view", "(II)I"⟩
abbrev b_Hall_put : ByteArray := prog_1_method_4_code
def y_Hall_put : MethodName := ⟨R_Hall, "put", "(II)I"⟩
abbrev b_Hall_get : ByteArray := prog_1_method_5_code
def y_Hall_get : MethodName := ⟨R_Hall, "get", "(I)I"⟩
abbrev b_Hall_remove : ByteArray := prog_1_method_6_code
def y_Hall_remove : MethodName := ⟨R_Hall, "remove", "(I)I"⟩
abbrev b_Hall_size : ByteArray := prog_1_method_7_code
def y_Hall_size : MethodName := ⟨R_Hall, "size", "(I)I"⟩
abbrev b_Hall_find : ByteArray := prog_1_method_8_code
def y_Hall_find : MethodName := ⟨R_Hall, "find", "(II)I"⟩
abbrev b_Hall_at : ByteArray := prog_1_method_9_code
def y_Hall_at : MethodName := ⟨R_Hall, "at", "(II)I"⟩
abbrev b_Hall_poll : ByteArray := prog_1_method_10_code
def y_Hall_poll : MethodName := ⟨R_Hall, "poll", "(IZ)I"⟩
abbrev b_Hall_found : ByteArray := prog_1_method_11_code
def y_Hall_found : MethodName := ⟨R_Hall, "found", "(I)I"⟩
abbrev b_Hall_iterate : ByteArray := prog_1_method_12_code
def y_Hall_iterate : MethodName := ⟨R_Hall, "iterate", "(I)Z"⟩
abbrev b_Hall_next : ByteArray := prog_1_method_13_code
def y_Hall_next : MethodName := ⟨R_Hall, "next", "(I)I"⟩
abbrev b_Hall_drop : ByteArray := prog_1_method_14_code
def y_Hall_drop : MethodName := ⟨R_Hall, "drop", "(I)I"⟩
abbrev b_Hall_match : ByteArray := prog_1_method_15_code
def y_Hall_match : MethodName := ⟨R_Hall, "match", "(II)I"⟩
abbrev b_Hall_edges : ByteArray := prog_1_method_16_code
def y_Hall_edges : MethodName := ⟨R_Hall, "edges", "(I)I"⟩
abbrev b_Hall_freeze : ByteArray := prog_1_method_17_code
def y_Hall_freeze : MethodName := ⟨R_Hall, "freeze", "(I)I"⟩
abbrev b_Hall_automaton : ByteArray := prog_1_method_18_code
def y_Hall_automaton : MethodName := ⟨R_Hall, "automaton", "(I)I"⟩
abbrev b_Hall_insert : ByteArray := prog_1_method_19_code
def y_Hall_insert : MethodName := ⟨R_Hall, "insert", "(I)I"⟩
abbrev b_Hall_delete : ByteArray := prog_1_method_20_code
def y_Hall_delete : MethodName := ⟨R_Hall, "delete", "(II)I"⟩
abbrev b_Hall_undo : ByteArray := prog_1_method_21_code
def y_Hall_undo : MethodName := ⟨R_Hall, "undo", "()I"⟩
abbrev b_Hall_letter : ByteArray := prog_1_method_22_code
def y_Hall_letter : MethodName := ⟨R_Hall, "letter", "(I)I"⟩
abbrev b_Hall_suffix : ByteArray := prog_1_method_23_code
def y_Hall_suffix : MethodName := ⟨R_Hall, "suffix", "(II)I"⟩
abbrev b_Hall_locate : ByteArray := prog_1_method_24_code
def y_Hall_locate : MethodName := ⟨R_Hall, "locate", "(I)I"⟩
abbrev b_Hall_useTape : ByteArray := prog_1_method_25_code
def y_Hall_useTape : MethodName := ⟨R_Hall, "useTape", "()V"⟩
abbrev b_Hall_isView : ByteArray := prog_1_method_26_code
def y_Hall_isView : MethodName := ⟨R_Hall, "isView", "(I)Z"⟩
abbrev b_Hall_viewNumbered : ByteArray := prog_1_method_27_code
def y_Hall_viewNumbered : MethodName := ⟨R_Hall, "viewNumbered", "(I)LKeyHall$View;"⟩
abbrev b_Hall_measured : ByteArray := prog_1_method_28_code
def y_Hall_measured : MethodName := ⟨R_Hall, "measured", "(I)LKeyHall$View;"⟩
abbrev b_Hall_tell : ByteArray := prog_1_method_29_code
def y_Hall_tell : MethodName := ⟨R_Hall, "tell", "(LKeyHall$View;I)I"⟩
abbrev b_Model_init : ByteArray := prog_12_method_1_code
def y_Model_init : MethodName := ⟨R_Model, "<init>", "()V"⟩
abbrev b_Model_thrown : ByteArray := prog_12_method_2_code
def y_Model_thrown : MethodName := ⟨R_Model, "thrown", "()I"⟩
abbrev b_Model_raise : ByteArray := prog_12_method_3_code
def y_Model_raise : MethodName := ⟨R_Model, "raise", "(I)I"⟩
abbrev b_Model_type : ByteArray := prog_12_method_4_code
def y_Model_type : MethodName := ⟨R_Model, "type", "(JI)Z"⟩
abbrev b_Model_order : ByteArray := prog_12_method_5_code
def y_Model_order : MethodName := ⟨R_Model, "order", "([III[III)I"⟩
abbrev b_Model_begins : ByteArray := prog_12_method_6_code
def y_Model_begins : MethodName := ⟨R_Model, "begins", "([III[III)Z"⟩
abbrev b_Model_orderOf : ByteArray := prog_12_method_7_code
def y_Model_orderOf : MethodName := ⟨R_Model, "orderOf", "(I[III)I"⟩
abbrev b_Model_isView : ByteArray := prog_12_method_8_code
def y_Model_isView : MethodName := ⟨R_Model, "isView", "(I)Z"⟩
abbrev b_Model_mapOf : ByteArray := prog_12_method_9_code
def y_Model_mapOf : MethodName := ⟨R_Model, "mapOf", "(I)I"⟩
abbrev b_Model_isTurned : ByteArray := prog_12_method_10_code
def y_Model_isTurned : MethodName := ⟨R_Model, "isTurned", "(I)Z"⟩
abbrev b_Model_within : ByteArray := prog_12_method_11_code
def y_Model_within : MethodName := ⟨R_Model, "within", "(I[III)Z"⟩
abbrev b_Model_has : ByteArray := prog_12_method_12_code
def y_Model_has : MethodName := ⟨R_Model, "has", "(II)Z"⟩
abbrev b_Model_view : ByteArray := prog_12_method_13_code
def y_Model_view : MethodName := ⟨R_Model, "view", "(II)I"⟩
abbrev b_Model_keyOf : ByteArray := prog_12_method_14_code
def y_Model_keyOf : MethodName := ⟨R_Model, "keyOf", "(I[III)I"⟩
abbrev b_Model_clear : ByteArray := prog_12_method_15_code
def y_Model_clear : MethodName := ⟨R_Model, "clear", "(II)V"⟩
abbrev b_Model_put : ByteArray := prog_12_method_16_code
def y_Model_put : MethodName := ⟨R_Model, "put", "(II)I"⟩
abbrev b_Model_used : ByteArray := prog_12_method_17_code
def y_Model_used : MethodName := ⟨R_Model, "used", "(I)I"⟩
abbrev b_Model_get : ByteArray := prog_12_method_18_code
def y_Model_get : MethodName := ⟨R_Model, "get", "(I)I"⟩
abbrev b_Model_remove : ByteArray := prog_12_method_19_code
def y_Model_remove : MethodName := ⟨R_Model, "remove", "(I)I"⟩
abbrev b_Model_size : ByteArray := prog_12_method_20_code
def y_Model_size : MethodName := ⟨R_Model, "size", "(I)I"⟩
abbrev b_Model_side : ByteArray := prog_12_method_21_code
def y_Model_side : MethodName := ⟨R_Model, "side", "(II[III)I"⟩
abbrev b_Model_nearest : ByteArray := prog_12_method_22_code
def y_Model_nearest : MethodName := ⟨R_Model, "nearest", "(IZZ[III)I"⟩
abbrev b_Model_longest : ByteArray := prog_12_method_23_code
def y_Model_longest : MethodName := ⟨R_Model, "longest", "(II)I"⟩
abbrev b_Model_tell : ByteArray := prog_12_method_24_code
def y_Model_tell : MethodName := ⟨R_Model, "tell", "(II)I"⟩
abbrev b_Model_find : ByteArray := prog_12_method_25_code
def y_Model_find : MethodName := ⟨R_Model, "find", "(II)I"⟩
abbrev b_Model_at : ByteArray := prog_12_method_26_code
def y_Model_at : MethodName := ⟨R_Model, "at", "(II)I"⟩
abbrev b_Model_poll : ByteArray := prog_12_method_27_code
def y_Model_poll : MethodName := ⟨R_Model, "poll", "(IZ)I"⟩
abbrev b_Model_found : ByteArray := prog_12_method_28_code
def y_Model_found : MethodName := ⟨R_Model, "found", "(I)I"⟩
abbrev b_Model_iterate : ByteArray := prog_12_method_29_code
def y_Model_iterate : MethodName := ⟨R_Model, "iterate", "(I)Z"⟩
abbrev b_Model_stale : ByteArray := prog_12_method_30_code
def y_Model_stale : MethodName := ⟨R_Model, "stale", "(I)Z"⟩
abbrev b_Model_next : ByteArray := prog_12_method_31_code
def y_Model_next : MethodName := ⟨R_Model, "next", "(I)I"⟩
abbrev b_Model_drop : ByteArray := prog_12_method_32_code
def y_Model_drop : MethodName := ⟨R_Model, "drop", "(I)I"⟩
abbrev b_Model_match : ByteArray := prog_12_method_33_code
def y_Model_match : MethodName := ⟨R_Model, "match", "(II)I"⟩
abbrev b_Model_octet : ByteArray := prog_12_method_34_code
def y_Model_octet : MethodName := ⟨R_Model, "octet", "(II)I"⟩
abbrev b_Model_sameBytes : ByteArray := prog_12_method_35_code
def y_Model_sameBytes : MethodName := ⟨R_Model, "sameBytes", "(III)Z"⟩
abbrev b_Model_fan : ByteArray := prog_12_method_36_code
def y_Model_fan : MethodName := ⟨R_Model, "fan", "(II)I"⟩
abbrev b_Model_inner : ByteArray := prog_12_method_37_code
def y_Model_inner : MethodName := ⟨R_Model, "inner", "(I)I"⟩
abbrev b_Model_bit : ByteArray := prog_12_method_38_code
def y_Model_bit : MethodName := ⟨R_Model, "bit", "(II)I"⟩
abbrev b_Model_depth : ByteArray := prog_12_method_39_code
def y_Model_depth : MethodName := ⟨R_Model, "depth", "(I)I"⟩
abbrev b_Model_edges : ByteArray := prog_12_method_40_code
def y_Model_edges : MethodName := ⟨R_Model, "edges", "(I)I"⟩
abbrev b_Model_samePrefix : ByteArray := prog_12_method_41_code
def y_Model_samePrefix : MethodName := ⟨R_Model, "samePrefix", "(III)Z"⟩
abbrev b_Model_freeze : ByteArray := prog_12_method_42_code
def y_Model_freeze : MethodName := ⟨R_Model, "freeze", "(I)I"⟩
abbrev b_Model_prefixesOf : ByteArray := prog_12_method_43_code
def y_Model_prefixesOf : MethodName := ⟨R_Model, "prefixesOf", "(II)V"⟩
abbrev b_Model_follows : ByteArray := prog_12_method_44_code
def y_Model_follows : MethodName := ⟨R_Model, "follows", "(II)Z"⟩
abbrev b_Model_endsAt : ByteArray := prog_12_method_45_code
def y_Model_endsAt : MethodName := ⟨R_Model, "endsAt", "(II)Z"⟩
abbrev b_Model_state : ByteArray := prog_12_method_46_code
def y_Model_state : MethodName := ⟨R_Model, "state", "(II)V"⟩
abbrev b_Model_stepsOf : ByteArray := prog_12_method_47_code
def y_Model_stepsOf : MethodName := ⟨R_Model, "stepsOf", "(I)I"⟩
abbrev b_Model_go : ByteArray := prog_12_method_48_code
def y_Model_go : MethodName := ⟨R_Model, "go", "(II)I"⟩
abbrev b_Model_alike : ByteArray := prog_12_method_49_code
def y_Model_alike : MethodName := ⟨R_Model, "alike", "(II)Z"⟩
abbrev b_Model_automaton : ByteArray := prog_12_method_50_code
def y_Model_automaton : MethodName := ⟨R_Model, "automaton", "(I)I"⟩
abbrev b_Model_keep : ByteArray := prog_12_method_51_code
def y_Model_keep : MethodName := ⟨R_Model, "keep", "()V"⟩
abbrev b_Model_insert : ByteArray := prog_12_method_52_code
def y_Model_insert : MethodName := ⟨R_Model, "insert", "(I)I"⟩
abbrev b_Model_delete : ByteArray := prog_12_method_53_code
def y_Model_delete : MethodName := ⟨R_Model, "delete", "(II)I"⟩
abbrev b_Model_undo : ByteArray := prog_12_method_54_code
def y_Model_undo : MethodName := ⟨R_Model, "undo", "()I"⟩
abbrev b_Model_letter : ByteArray := prog_12_method_55_code
def y_Model_letter : MethodName := ⟨R_Model, "letter", "(I)I"⟩
abbrev b_Model_begin : ByteArray := prog_12_method_56_code
def y_Model_begin : MethodName := ⟨R_Model, "begin", "(I)I"⟩
abbrev b_Model_suffix : ByteArray := prog_12_method_57_code
def y_Model_suffix : MethodName := ⟨R_Model, "suffix", "(II)I"⟩
abbrev b_Model_locate : ByteArray := prog_12_method_58_code
def y_Model_locate : MethodName := ⟨R_Model, "locate", "(I)I"⟩
abbrev b_Law_view : ByteArray := method_3_code
def y_Law_view : MethodName := ⟨R_Law, "view", "(LKeyHall;II[J)I"⟩
abbrev b_Law_put : ByteArray := method_4_code
def y_Law_put : MethodName := ⟨R_Law, "put", "(LKeyHall;II[J)I"⟩
abbrev b_Law_get : ByteArray := method_5_code
def y_Law_get : MethodName := ⟨R_Law, "get", "(LKeyHall;I[J)I"⟩
abbrev b_Law_remove : ByteArray := method_6_code
def y_Law_remove : MethodName := ⟨R_Law, "remove", "(LKeyHall;I[J)I"⟩
abbrev b_Law_find : ByteArray := method_7_code
def y_Law_find : MethodName := ⟨R_Law, "find", "(LKeyHall;II[J)I"⟩
abbrev b_Law_at : ByteArray := method_8_code
def y_Law_at : MethodName := ⟨R_Law, "at", "(LKeyHall;II[J)I"⟩
abbrev b_Law_poll : ByteArray := method_9_code
def y_Law_poll : MethodName := ⟨R_Law, "poll", "(LKeyHall;IZ[J)I"⟩
abbrev b_Law_next : ByteArray := method_10_code
def y_Law_next : MethodName := ⟨R_Law, "next", "(LKeyHall;I[J)I"⟩
abbrev b_Law_drop : ByteArray := method_11_code
def y_Law_drop : MethodName := ⟨R_Law, "drop", "(LKeyHall;I[J)I"⟩
abbrev b_Law_match : ByteArray := method_12_code
def y_Law_match : MethodName := ⟨R_Law, "match", "(LKeyHall;II[J)I"⟩
abbrev b_Law_edges : ByteArray := method_13_code
def y_Law_edges : MethodName := ⟨R_Law, "edges", "(LKeyHall;I[J)I"⟩
abbrev b_Law_freeze : ByteArray := method_14_code
def y_Law_freeze : MethodName := ⟨R_Law, "freeze", "(LKeyHall;I[J)I"⟩
abbrev b_Law_insert : ByteArray := method_15_code
def y_Law_insert : MethodName := ⟨R_Law, "insert", "(LKeyHall;I[J)I"⟩
abbrev b_Law_delete : ByteArray := method_16_code
def y_Law_delete : MethodName := ⟨R_Law, "delete", "(LKeyHall;II[J)I"⟩
theorem ka_int : Cond.arrayClass .int ∈ gWS := by decide +kernel
theorem ka_boolean : Cond.arrayClass .boolean ∈ gWS := by decide +kernel
theorem ka_long : Cond.arrayClass .long ∈ gWS := by decide +kernel
end
section
/-! printed by wip/tools/names.py: links -/
theorem mo_Key_3 : Cond.methodLink R_Key 3 objectInit ∈ gWS ∧ Cond.instanceMethod objectInit ∈ gWS ∧ Cond.code objectInit ⟨#[0xb1]⟩ 1 none ∈ gWS := by decide +kernel
theorem lk_Key_9 : Cond.fieldLink R_Key 9 "KeyHall$Key" "letters" "[I" ∈ gWS := by decide +kernel
theorem lk_Key_15 : Cond.fieldLink R_Key 15 "KeyHall$Key" "length" "I" ∈ gWS := by decide +kernel
theorem mw_Key_25 : gwV gWS R_Key 25 y_Key_shared b_Key_shared 3 (some .int) 1 := ⟨by decide +kernel, by decide +kernel⟩
theorem mo_KeyMap_3 : Cond.methodLink R_KeyMap 3 objectInit ∈ gWS ∧ Cond.instanceMethod objectInit ∈ gWS ∧ Cond.code objectInit ⟨#[0xb1]⟩ 1 none ∈ gWS := by decide +kernel
theorem lk_KeyMap_9 : Cond.classLink R_KeyMap 9 "KeyHall$Key" ∈ gWS := by decide +kernel
theorem lk_KeyMap_11 : Cond.fieldLink R_KeyMap 11 "KeyHall$KeyMap" "keys" "[LKeyHall$Key;" ∈ gWS := by decide +kernel
theorem mw_KeyMap_17 : gwI gWS R_KeyMap 17 y_Key_init b_Key_init 1 0 := ⟨by decide +kernel, rfl, by decide +kernel⟩
theorem lk_KeyMap_18 : Cond.fieldLink R_KeyMap 18 "KeyHall$KeyMap" "values" "[I" ∈ gWS := by decide +kernel
theorem lk_KeyMap_22 : Cond.fieldLink R_KeyMap 22 "KeyHall$KeyMap" "count" "I" ∈ gWS := by decide +kernel
theorem mw_KeyMap_26 : gwV gWS R_KeyMap 26 y_Key_order b_Key_order 3 (some .int) 1 := ⟨by decide +kernel, by decide +kernel⟩
theorem mw_KeyMap_30 : gwV gWS R_KeyMap 30 y_KeyMap_countLess b_KeyMap_countLess 3 (some .int) 1 := ⟨by decide +kernel, by decide +kernel⟩
theorem mw_KeyMap_33 : gwV gWS R_KeyMap 33 y_Key_become b_Key_become 2 none 1 := ⟨by decide +kernel, by decide +kernel⟩
theorem lk_KeyMap_37 : Cond.fieldLink R_KeyMap 37 "KeyHall$KeyMap" "changes" "I" ∈ gWS := by decide +kernel
theorem mo_View_3 : Cond.methodLink R_View 3 objectInit ∈ gWS ∧ Cond.instanceMethod objectInit ∈ gWS ∧ Cond.code objectInit ⟨#[0xb1]⟩ 1 none ∈ gWS := by decide +kernel
theorem lk_View_9 : Cond.fieldLink R_View 9 "KeyHall$View" "map" "LKeyHall$KeyMap;" ∈ gWS := by decide +kernel
theorem lk_View_15 : Cond.fieldLink R_View 15 "KeyHall$View" "origin" "LKeyHall$View;" ∈ gWS := by decide +kernel
theorem lk_View_19 : Cond.fieldLink R_View 19 "KeyHall$View" "sort" "I" ∈ gWS := by decide +kernel
theorem lk_View_23 : Cond.classLink R_View 23 "KeyHall$Key" ∈ gWS := by decide +kernel
theorem mw_View_25 : gwI gWS R_View 25 y_Key_init b_Key_init 1 0 := ⟨by decide +kernel, rfl, by decide +kernel⟩
theorem lk_View_26 : Cond.fieldLink R_View 26 "KeyHall$View" "bound" "LKeyHall$Key;" ∈ gWS := by decide +kernel
theorem lk_View_30 : Cond.fieldLink R_View 30 "KeyHall$View" "turned" "Z" ∈ gWS := by decide +kernel
theorem lk_View_34 : Cond.classLink R_View 34 "KeyHall$Walker" ∈ gWS := by decide +kernel
theorem lk_View_37 : Cond.fieldLink R_View 37 "KeyHall$View" "walker" "LKeyHall$Walker;" ∈ gWS := by decide +kernel
theorem mw_View_41 : gwV gWS R_View 41 y_Key_become b_Key_become 2 none 1 := ⟨by decide +kernel, by decide +kernel⟩
theorem mw_View_45 : gwV gWS R_View 45 y_View_bounds b_View_bounds 2 (some .boolean) 1 := ⟨by decide +kernel, by decide +kernel⟩
theorem mw_View_49 : gwV gWS R_View 49 y_Key_beginsWith b_Key_beginsWith 2 (some .boolean) 1 := ⟨by decide +kernel, by decide +kernel⟩
theorem mw_View_52 : gwV gWS R_View 52 y_Key_order b_Key_order 3 (some .int) 1 := ⟨by decide +kernel, by decide +kernel⟩
theorem lk_View_56 : Cond.fieldLink R_View 56 "KeyHall$View" "from" "I" ∈ gWS := by decide +kernel
theorem lk_View_59 : Cond.fieldLink R_View 59 "KeyHall$KeyMap" "count" "I" ∈ gWS := by decide +kernel
theorem lk_View_64 : Cond.fieldLink R_View 64 "KeyHall$KeyMap" "keys" "[LKeyHall$Key;" ∈ gWS := by decide +kernel
theorem mw_View_68 : gwV gWS R_View 68 y_View_admits b_View_admits 3 (some .boolean) 1 := ⟨by decide +kernel, by decide +kernel⟩
theorem lk_View_71 : Cond.fieldLink R_View 71 "KeyHall$View" "to" "I" ∈ gWS := by decide +kernel
theorem mw_View_74 : gwV gWS R_View 74 y_KeyMap_placeOf b_KeyMap_placeOf 3 (some .int) 1 := ⟨by decide +kernel, by decide +kernel⟩
theorem mw_View_77 : gwV gWS R_View 77 y_View_countBefore b_View_countBefore 7 (some .int) 2 := ⟨by decide +kernel, by decide +kernel⟩
theorem mw_View_81 : gwV gWS R_View 81 y_View_count b_View_count 1 (some .int) 0 := ⟨by decide +kernel, by decide +kernel⟩
theorem mw_View_84 : gwV gWS R_View 84 y_View_rankOfLongestStart b_View_rankOfLongestStart 6 (some .int) 1 := ⟨by decide +kernel, by decide +kernel⟩
theorem mw_View_87 : gwV gWS R_View 87 y_View_placeRanked b_View_placeRanked 2 (some .int) 1 := ⟨by decide +kernel, by decide +kernel⟩
theorem lk_View_91 : Cond.fieldLink R_View 91 "KeyHall$Key" "length" "I" ∈ gWS := by decide +kernel
theorem mo_Walker_1 : Cond.methodLink R_Walker 1 objectInit ∈ gWS ∧ Cond.instanceMethod objectInit ∈ gWS ∧ Cond.code objectInit ⟨#[0xb1]⟩ 1 none ∈ gWS := by decide +kernel
theorem lk_Walker_7 : Cond.fieldLink R_Walker 7 "KeyHall$Walker" "begun" "Z" ∈ gWS := by decide +kernel
theorem lk_Walker_13 : Cond.fieldLink R_Walker 13 "KeyHall$Walker" "behind" "I" ∈ gWS := by decide +kernel
theorem lk_Walker_17 : Cond.fieldLink R_Walker 17 "KeyHall$Walker" "hasTold" "Z" ∈ gWS := by decide +kernel
theorem lk_Walker_20 : Cond.fieldLink R_Walker 20 "KeyHall$Walker" "changesKnown" "I" ∈ gWS := by decide +kernel
theorem mo_Edges_3 : Cond.methodLink R_Edges 3 objectInit ∈ gWS ∧ Cond.instanceMethod objectInit ∈ gWS ∧ Cond.code objectInit ⟨#[0xb1]⟩ 1 none ∈ gWS := by decide +kernel
theorem lk_Edges_9 : Cond.fieldLink R_Edges 9 "KeyHall$Edges" "sharedBytes" "[I" ∈ gWS := by decide +kernel
theorem lk_Edges_15 : Cond.fieldLink R_Edges 15 "KeyHall$Edges" "differsAt" "[Z" ∈ gWS := by decide +kernel
theorem lk_Edges_19 : Cond.fieldLink R_Edges 19 "KeyHall$KeyMap" "count" "I" ∈ gWS := by decide +kernel
theorem lk_Edges_25 : Cond.fieldLink R_Edges 25 "KeyHall$KeyMap" "keys" "[LKeyHall$Key;" ∈ gWS := by decide +kernel
theorem mw_Edges_29 : gwV gWS R_Edges 29 y_Edges_countSharedBytes b_Edges_countSharedBytes 5 (some .int) 2 := ⟨by decide +kernel, by decide +kernel⟩
theorem mw_Edges_33 : gwV gWS R_Edges 33 y_Edges_isNewText b_Edges_isNewText 3 (some .boolean) 1 := ⟨by decide +kernel, by decide +kernel⟩
theorem mw_Edges_37 : gwV gWS R_Edges 37 y_Edges_fan b_Edges_fan 7 (some .int) 3 := ⟨by decide +kernel, by decide +kernel⟩
theorem mw_Edges_41 : gwV gWS R_Edges 41 y_Key_shared b_Key_shared 3 (some .int) 1 := ⟨by decide +kernel, by decide +kernel⟩
theorem lk_Edges_47 : Cond.fieldLink R_Edges 47 "KeyHall$Key" "length" "I" ∈ gWS := by decide +kernel
theorem lk_Edges_50 : Cond.fieldLink R_Edges 50 "KeyHall$Key" "letters" "[I" ∈ gWS := by decide +kernel
theorem mw_Edges_53 : gwV gWS R_Edges 53 y_Edges_firstDifferentBit b_Edges_firstDifferentBit 7 (some .int) 2 := ⟨by decide +kernel, by decide +kernel⟩
theorem mo_Automaton_3 : Cond.methodLink R_Automaton 3 objectInit ∈ gWS ∧ Cond.instanceMethod objectInit ∈ gWS ∧ Cond.code objectInit ⟨#[0xb1]⟩ 1 none ∈ gWS := by decide +kernel
theorem lk_Automaton_9 : Cond.classLink R_Automaton 9 "KeyHall$Key" ∈ gWS := by decide +kernel
theorem lk_Automaton_11 : Cond.fieldLink R_Automaton 11 "KeyHall$Automaton" "keys" "[LKeyHall$Key;" ∈ gWS := by decide +kernel
theorem mw_Automaton_17 : gwI gWS R_Automaton 17 y_Key_init b_Key_init 1 0 := ⟨by decide +kernel, rfl, by decide +kernel⟩
theorem lk_Automaton_18 : Cond.fieldLink R_Automaton 18 "KeyHall$Automaton" "prefixFrom" "[I" ∈ gWS := by decide +kernel
theorem lk_Automaton_22 : Cond.fieldLink R_Automaton 22 "KeyHall$Automaton" "prefixTo" "[I" ∈ gWS := by decide +kernel
theorem lk_Automaton_25 : Cond.fieldLink R_Automaton 25 "KeyHall$Automaton" "prefixLength" "[I" ∈ gWS := by decide +kernel
theorem lk_Automaton_28 : Cond.fieldLink R_Automaton 28 "KeyHall$Automaton" "prefixHeight" "[I" ∈ gWS := by decide +kernel
theorem lk_Automaton_31 : Cond.fieldLink R_Automaton 31 "KeyHall$Automaton" "stateText" "[I" ∈ gWS := by decide +kernel
theorem mw_Automaton_34 : gwV gWS R_Automaton 34 y_View_count b_View_count 1 (some .int) 0 := ⟨by decide +kernel, by decide +kernel⟩
theorem lk_Automaton_40 : Cond.fieldLink R_Automaton 40 "KeyHall$Automaton" "count" "I" ∈ gWS := by decide +kernel
theorem lk_Automaton_43 : Cond.fieldLink R_Automaton 43 "KeyHall$View" "map" "LKeyHall$KeyMap;" ∈ gWS := by decide +kernel
theorem lk_Automaton_47 : Cond.fieldLink R_Automaton 47 "KeyHall$KeyMap" "keys" "[LKeyHall$Key;" ∈ gWS := by decide +kernel
theorem lk_Automaton_50 : Cond.fieldLink R_Automaton 50 "KeyHall$View" "from" "I" ∈ gWS := by decide +kernel
theorem mw_Automaton_53 : gwV gWS R_Automaton 53 y_Key_become b_Key_become 2 none 1 := ⟨by decide +kernel, by decide +kernel⟩
theorem mw_Automaton_57 : gwV gWS R_Automaton 57 y_Automaton_listPrefixes b_Automaton_listPrefixes 4 none 0 := ⟨by decide +kernel, by decide +kernel⟩
theorem mw_Automaton_60 : gwV gWS R_Automaton 60 y_Automaton_countStates b_Automaton_countStates 4 none 0 := ⟨by decide +kernel, by decide +kernel⟩
theorem lk_Automaton_63 : Cond.fieldLink R_Automaton 63 "KeyHall$Automaton" "prefixes" "I" ∈ gWS := by decide +kernel
theorem mw_Automaton_66 : gwV gWS R_Automaton 66 y_Key_shared b_Key_shared 3 (some .int) 1 := ⟨by decide +kernel, by decide +kernel⟩
theorem lk_Automaton_70 : Cond.fieldLink R_Automaton 70 "KeyHall$Key" "length" "I" ∈ gWS := by decide +kernel
theorem mw_Automaton_73 : gwV gWS R_Automaton 73 y_Automaton_addPrefix b_Automaton_addPrefix 5 none 2 := ⟨by decide +kernel, by decide +kernel⟩
theorem lk_Automaton_83 : Cond.fieldLink R_Automaton 83 "KeyHall$Automaton" "states" "I" ∈ gWS := by decide +kernel
theorem lk_Automaton_86 : Cond.fieldLink R_Automaton 86 "KeyHall$Automaton" "steps" "I" ∈ gWS := by decide +kernel
theorem lk_Automaton_89 : Cond.fieldLink R_Automaton 89 "KeyHall$Automaton" "finals" "I" ∈ gWS := by decide +kernel
theorem mw_Automaton_92 : gwV gWS R_Automaton 92 y_Automaton_isKnown b_Automaton_isKnown 4 (some .boolean) 2 := ⟨by decide +kernel, by decide +kernel⟩
theorem mw_Automaton_96 : gwV gWS R_Automaton 96 y_Automaton_addState b_Automaton_addState 2 none 1 := ⟨by decide +kernel, by decide +kernel⟩
theorem mw_Automaton_100 : gwV gWS R_Automaton 100 y_Automaton_leadAlike b_Automaton_leadAlike 7 (some .boolean) 2 := ⟨by decide +kernel, by decide +kernel⟩
theorem mw_Automaton_103 : gwV gWS R_Automaton 103 y_Key_hasTail b_Key_hasTail 5 (some .boolean) 3 := ⟨by decide +kernel, by decide +kernel⟩
theorem mw_Automaton_107 : gwV gWS R_Automaton 107 y_Automaton_countFollowing b_Automaton_countFollowing 6 (some .int) 1 := ⟨by decide +kernel, by decide +kernel⟩
theorem lk_Automaton_111 : Cond.fieldLink R_Automaton 111 "KeyHall$Key" "letters" "[I" ∈ gWS := by decide +kernel
theorem mw_Automaton_114 : gwV gWS R_Automaton 114 y_Key_order b_Key_order 3 (some .int) 1 := ⟨by decide +kernel, by decide +kernel⟩
theorem mo_EditedText_3 : Cond.methodLink R_EditedText 3 objectInit ∈ gWS ∧ Cond.instanceMethod objectInit ∈ gWS ∧ Cond.code objectInit ⟨#[0xb1]⟩ 1 none ∈ gWS := by decide +kernel
theorem lk_EditedText_9 : Cond.fieldLink R_EditedText 9 "KeyHall$EditedText" "letters" "[I" ∈ gWS := by decide +kernel
theorem lk_EditedText_15 : Cond.classLink R_EditedText 15 "KeyHall$History" ∈ gWS := by decide +kernel
theorem mw_EditedText_17 : gwI gWS R_EditedText 17 y_History_init b_History_init 1 0 := ⟨by decide +kernel, rfl, by decide +kernel⟩
theorem lk_EditedText_18 : Cond.fieldLink R_EditedText 18 "KeyHall$EditedText" "history" "LKeyHall$History;" ∈ gWS := by decide +kernel
theorem lk_EditedText_22 : Cond.classLink R_EditedText 22 "KeyHall$SuffixOrder" ∈ gWS := by decide +kernel
theorem mw_EditedText_24 : gwI gWS R_EditedText 24 y_SuffixOrder_init b_SuffixOrder_init 1 0 := ⟨by decide +kernel, rfl, by decide +kernel⟩
theorem lk_EditedText_25 : Cond.fieldLink R_EditedText 25 "KeyHall$EditedText" "suffixes" "LKeyHall$SuffixOrder;" ∈ gWS := by decide +kernel
theorem lk_EditedText_29 : Cond.fieldLink R_EditedText 29 "KeyHall$EditedText" "length" "I" ∈ gWS := by decide +kernel
theorem mw_EditedText_33 : gwV gWS R_EditedText 33 y_History_keep b_History_keep 3 none 2 := ⟨by decide +kernel, by decide +kernel⟩
theorem lk_EditedText_37 : Cond.fieldLink R_EditedText 37 "KeyHall$Key" "length" "I" ∈ gWS := by decide +kernel
theorem lk_EditedText_46 : Cond.fieldLink R_EditedText 46 "KeyHall$Key" "letters" "[I" ∈ gWS := by decide +kernel
theorem lk_EditedText_47 : Cond.fieldLink R_EditedText 47 "KeyHall$EditedText" "suffixesAreSorted" "Z" ∈ gWS := by decide +kernel
theorem lk_EditedText_51 : Cond.fieldLink R_EditedText 51 "KeyHall$History" "kept" "I" ∈ gWS := by decide +kernel
theorem mw_EditedText_54 : gwV gWS R_EditedText 54 y_History_giveBack b_History_giveBack 3 (some .int) 1 := ⟨by decide +kernel, by decide +kernel⟩
theorem mw_EditedText_58 : gwV gWS R_EditedText 58 y_SuffixOrder_sort b_SuffixOrder_sort 5 none 2 := ⟨by decide +kernel, by decide +kernel⟩
theorem mw_EditedText_61 : gwV gWS R_EditedText 61 y_EditedText_sortedSuffixes b_EditedText_sortedSuffixes 1 (some (.object "KeyHall$SuffixOrder")) 0 := ⟨by decide +kernel, by decide +kernel⟩
theorem lk_EditedText_65 : Cond.fieldLink R_EditedText 65 "KeyHall$SuffixOrder" "starts" "[I" ∈ gWS := by decide +kernel
theorem mw_EditedText_68 : gwV gWS R_EditedText 68 y_EditedText_standsAt b_EditedText_standsAt 4 (some .boolean) 2 := ⟨by decide +kernel, by decide +kernel⟩
theorem mo_History_3 : Cond.methodLink R_History 3 objectInit ∈ gWS ∧ Cond.instanceMethod objectInit ∈ gWS ∧ Cond.code objectInit ⟨#[0xb1]⟩ 1 none ∈ gWS := by decide +kernel
theorem lk_History_9 : Cond.fieldLink R_History 9 "KeyHall$History" "letters" "[I" ∈ gWS := by decide +kernel
theorem lk_History_15 : Cond.fieldLink R_History 15 "KeyHall$History" "lengths" "[I" ∈ gWS := by decide +kernel
theorem lk_History_18 : Cond.fieldLink R_History 18 "KeyHall$History" "newest" "I" ∈ gWS := by decide +kernel
theorem lk_History_28 : Cond.fieldLink R_History 28 "KeyHall$History" "kept" "I" ∈ gWS := by decide +kernel
theorem mo_SuffixOrder_3 : Cond.methodLink R_SuffixOrder 3 objectInit ∈ gWS ∧ Cond.instanceMethod objectInit ∈ gWS ∧ Cond.code objectInit ⟨#[0xb1]⟩ 1 none ∈ gWS := by decide +kernel
theorem lk_SuffixOrder_9 : Cond.fieldLink R_SuffixOrder 9 "KeyHall$SuffixOrder" "starts" "[I" ∈ gWS := by decide +kernel
theorem lk_SuffixOrder_15 : Cond.fieldLink R_SuffixOrder 15 "KeyHall$SuffixOrder" "ranks" "[I" ∈ gWS := by decide +kernel
theorem mw_SuffixOrder_18 : gwV gWS R_SuffixOrder 18 y_SuffixOrder_isLess b_SuffixOrder_isLess 4 (some .boolean) 3 := ⟨by decide +kernel, by decide +kernel⟩
theorem mo_Hall_1 : Cond.methodLink R_Hall 1 objectInit ∈ gWS ∧ Cond.instanceMethod objectInit ∈ gWS ∧ Cond.code objectInit ⟨#[0xb1]⟩ 1 none ∈ gWS := by decide +kernel
theorem lk_Hall_7 : Cond.classLink R_Hall 7 "KeyHall$Key" ∈ gWS := by decide +kernel
theorem mw_Hall_9 : gwI gWS R_Hall 9 y_Key_init b_Key_init 1 0 := ⟨by decide +kernel, rfl, by decide +kernel⟩
theorem lk_Hall_10 : Cond.fieldLink R_Hall 10 "KeyHall" "tape" "LKeyHall$Key;" ∈ gWS := by decide +kernel
theorem lk_Hall_16 : Cond.fieldLink R_Hall 16 "KeyHall" "used" "LKeyHall$Key;" ∈ gWS := by decide +kernel
theorem lk_Hall_19 : Cond.fieldLink R_Hall 19 "KeyHall" "told" "LKeyHall$Key;" ∈ gWS := by decide +kernel
theorem lk_Hall_22 : Cond.classLink R_Hall 22 "KeyHall$View" ∈ gWS := by decide +kernel
theorem lk_Hall_24 : Cond.fieldLink R_Hall 24 "KeyHall" "views" "[LKeyHall$View;" ∈ gWS := by decide +kernel
theorem lk_Hall_28 : Cond.classLink R_Hall 28 "KeyHall$KeyMap" ∈ gWS := by decide +kernel
theorem mw_Hall_30 : gwI gWS R_Hall 30 y_KeyMap_init b_KeyMap_init 2 0 := ⟨by decide +kernel, rfl, by decide +kernel⟩
theorem mw_Hall_31 : gwI gWS R_Hall 31 y_View_init b_View_init 2 1 := ⟨by decide +kernel, rfl, by decide +kernel⟩
theorem lk_Hall_34 : Cond.fieldLink R_Hall 34 "KeyHall" "viewCount" "I" ∈ gWS := by decide +kernel
theorem lk_Hall_38 : Cond.classLink R_Hall 38 "KeyHall$Edges" ∈ gWS := by decide +kernel
theorem mw_Hall_40 : gwI gWS R_Hall 40 y_Edges_init b_Edges_init 1 0 := ⟨by decide +kernel, rfl, by decide +kernel⟩
theorem lk_Hall_41 : Cond.fieldLink R_Hall 41 "KeyHall" "branches" "LKeyHall$Edges;" ∈ gWS := by decide +kernel
theorem lk_Hall_45 : Cond.classLink R_Hall 45 "KeyHall$Automaton" ∈ gWS := by decide +kernel
theorem mw_Hall_47 : gwI gWS R_Hall 47 y_Automaton_init b_Automaton_init 2 0 := ⟨by decide +kernel, rfl, by decide +kernel⟩
theorem lk_Hall_48 : Cond.fieldLink R_Hall 48 "KeyHall" "frozen" "LKeyHall$Automaton;" ∈ gWS := by decide +kernel
theorem lk_Hall_52 : Cond.classLink R_Hall 52 "KeyHall$EditedText" ∈ gWS := by decide +kernel
theorem mw_Hall_54 : gwI gWS R_Hall 54 y_EditedText_init b_EditedText_init 1 0 := ⟨by decide +kernel, rfl, by decide +kernel⟩
theorem lk_Hall_55 : Cond.fieldLink R_Hall 55 "KeyHall" "text" "LKeyHall$EditedText;" ∈ gWS := by decide +kernel
theorem lk_Hall_59 : Cond.fieldLink R_Hall 59 "KeyHall$Key" "length" "I" ∈ gWS := by decide +kernel
theorem mw_Hall_63 : gwV gWS R_Hall 63 y_Key_append b_Key_append 2 none 1 := ⟨by decide +kernel, by decide +kernel⟩
theorem mw_Hall_67 : gwV gWS R_Hall 67 y_Hall_viewNumbered b_Hall_viewNumbered 2 (some (.object "KeyHall$View")) 1 := ⟨by decide +kernel, by decide +kernel⟩
theorem lk_Hall_71 : Cond.classLink R_Hall 71 "java/lang/IndexOutOfBoundsException" ∈ gWS := by decide +kernel
theorem mw_Hall_74 : gwV gWS R_Hall 74 y_Hall_useTape b_Hall_useTape 1 none 0 := ⟨by decide +kernel, by decide +kernel⟩
theorem mw_Hall_77 : gwI gWS R_Hall 77 y_View_init2 b_View_init2 4 3 := ⟨by decide +kernel, rfl, by decide +kernel⟩
theorem mw_Hall_80 : gwV gWS R_Hall 80 y_View_admits b_View_admits 3 (some .boolean) 1 := ⟨by decide +kernel, by decide +kernel⟩
theorem lk_Hall_84 : Cond.classLink R_Hall 84 "java/lang/IllegalArgumentException" ∈ gWS := by decide +kernel
theorem lk_Hall_87 : Cond.fieldLink R_Hall 87 "KeyHall$View" "map" "LKeyHall$KeyMap;" ∈ gWS := by decide +kernel
theorem mw_Hall_91 : gwV gWS R_Hall 91 y_KeyMap_placeOf b_KeyMap_placeOf 3 (some .int) 1 := ⟨by decide +kernel, by decide +kernel⟩
theorem lk_Hall_95 : Cond.fieldLink R_Hall 95 "KeyHall$KeyMap" "values" "[I" ∈ gWS := by decide +kernel
theorem lk_Hall_99 : Cond.fieldLink R_Hall 99 "KeyHall$KeyMap" "count" "I" ∈ gWS := by decide +kernel
theorem lk_Hall_102 : Cond.classLink R_Hall 102 "java/lang/IllegalStateException" ∈ gWS := by decide +kernel
theorem mw_Hall_105 : gwV gWS R_Hall 105 y_KeyMap_add b_KeyMap_add 6 none 2 := ⟨by decide +kernel, by decide +kernel⟩
theorem mw_Hall_109 : gwV gWS R_Hall 109 y_View_placeOf b_View_placeOf 2 (some .int) 1 := ⟨by decide +kernel, by decide +kernel⟩
theorem mw_Hall_110 : gwV gWS R_Hall 110 y_KeyMap_takeOut b_KeyMap_takeOut 5 (some .int) 1 := ⟨by decide +kernel, by decide +kernel⟩
theorem mw_Hall_114 : gwV gWS R_Hall 114 y_Hall_isView b_Hall_isView 2 (some .boolean) 1 := ⟨by decide +kernel, by decide +kernel⟩
theorem mw_Hall_118 : gwV gWS R_Hall 118 y_Hall_measured b_Hall_measured 3 (some (.object "KeyHall$View")) 1 := ⟨by decide +kernel, by decide +kernel⟩
theorem mw_Hall_121 : gwV gWS R_Hall 121 y_View_count b_View_count 1 (some .int) 0 := ⟨by decide +kernel, by decide +kernel⟩
theorem mw_Hall_124 : gwV gWS R_Hall 124 y_View_rankBy b_View_rankBy 3 (some .int) 2 := ⟨by decide +kernel, by decide +kernel⟩
theorem mw_Hall_128 : gwV gWS R_Hall 128 y_Hall_tell b_Hall_tell 4 (some .int) 2 := ⟨by decide +kernel, by decide +kernel⟩
theorem mw_Hall_132 : gwV gWS R_Hall 132 y_View_placeRanked b_View_placeRanked 2 (some .int) 1 := ⟨by decide +kernel, by decide +kernel⟩
theorem lk_Hall_135 : Cond.fieldLink R_Hall 135 "KeyHall$Key" "letters" "[I" ∈ gWS := by decide +kernel
theorem lk_Hall_138 : Cond.fieldLink R_Hall 138 "KeyHall$View" "walker" "LKeyHall$Walker;" ∈ gWS := by decide +kernel
theorem lk_Hall_142 : Cond.fieldLink R_Hall 142 "KeyHall$KeyMap" "changes" "I" ∈ gWS := by decide +kernel
theorem mw_Hall_145 : gwV gWS R_Hall 145 y_Walker_begin b_Walker_begin 2 none 1 := ⟨by decide +kernel, by decide +kernel⟩
theorem mw_Hall_150 : gwV gWS R_Hall 150 y_Walker_mayGoOn b_Walker_mayGoOn 2 (some .boolean) 1 := ⟨by decide +kernel, by decide +kernel⟩
theorem lk_Hall_153 : Cond.fieldLink R_Hall 153 "KeyHall$Walker" "behind" "I" ∈ gWS := by decide +kernel
theorem mw_Hall_156 : gwV gWS R_Hall 156 y_Walker_step b_Walker_step 1 none 0 := ⟨by decide +kernel, by decide +kernel⟩
theorem lk_Hall_159 : Cond.fieldLink R_Hall 159 "KeyHall$Walker" "hasTold" "Z" ∈ gWS := by decide +kernel
theorem mw_Hall_163 : gwV gWS R_Hall 163 y_Walker_stepBack b_Walker_stepBack 2 none 1 := ⟨by decide +kernel, by decide +kernel⟩
theorem lk_Hall_166 : Cond.fieldLink R_Hall 166 "KeyHall$View" "from" "I" ∈ gWS := by decide +kernel
theorem lk_Hall_169 : Cond.fieldLink R_Hall 169 "KeyHall$View" "to" "I" ∈ gWS := by decide +kernel
theorem lk_Hall_172 : Cond.fieldLink R_Hall 172 "KeyHall$KeyMap" "keys" "[LKeyHall$Key;" ∈ gWS := by decide +kernel
theorem mw_Hall_176 : gwV gWS R_Hall 176 y_Key_matches b_Key_matches 5 (some .boolean) 2 := ⟨by decide +kernel, by decide +kernel⟩
theorem lk_Hall_180 : Cond.fieldLink R_Hall 180 "KeyHall" "LEAST_FAN" "[I" ∈ gWS := by decide +kernel
theorem lk_Hall_183 : Cond.fieldLink R_Hall 183 "KeyHall" "MOST_FAN" "[I" ∈ gWS := by decide +kernel
theorem mw_Hall_186 : gwV gWS R_Hall 186 y_Edges_countInner b_Edges_countInner 8 (some .int) 3 := ⟨by decide +kernel, by decide +kernel⟩
theorem mw_Hall_190 : gwV gWS R_Hall 190 y_Edges_depth b_Edges_depth 6 (some .int) 2 := ⟨by decide +kernel, by decide +kernel⟩
theorem mw_Hall_194 : gwV gWS R_Hall 194 y_Automaton_become b_Automaton_become 3 none 1 := ⟨by decide +kernel, by decide +kernel⟩
theorem lk_Hall_198 : Cond.fieldLink R_Hall 198 "KeyHall$Automaton" "states" "I" ∈ gWS := by decide +kernel
theorem lk_Hall_201 : Cond.fieldLink R_Hall 201 "KeyHall$Automaton" "steps" "I" ∈ gWS := by decide +kernel
theorem lk_Hall_204 : Cond.fieldLink R_Hall 204 "KeyHall$Automaton" "finals" "I" ∈ gWS := by decide +kernel
theorem mw_Hall_207 : gwV gWS R_Hall 207 y_Automaton_reach b_Automaton_reach 4 (some .int) 1 := ⟨by decide +kernel, by decide +kernel⟩
theorem mw_Hall_210 : gwV gWS R_Hall 210 y_Automaton_accepts b_Automaton_accepts 3 (some .boolean) 1 := ⟨by decide +kernel, by decide +kernel⟩
theorem lk_Hall_213 : Cond.fieldLink R_Hall 213 "KeyHall$EditedText" "length" "I" ∈ gWS := by decide +kernel
theorem mw_Hall_214 : gwV gWS R_Hall 214 y_EditedText_open b_EditedText_open 3 none 2 := ⟨by decide +kernel, by decide +kernel⟩
theorem mw_Hall_218 : gwV gWS R_Hall 218 y_EditedText_close b_EditedText_close 3 none 2 := ⟨by decide +kernel, by decide +kernel⟩
theorem mw_Hall_222 : gwV gWS R_Hall 222 y_EditedText_takeBack b_EditedText_takeBack 1 (some .boolean) 0 := ⟨by decide +kernel, by decide +kernel⟩
theorem mw_Hall_226 : gwV gWS R_Hall 226 y_EditedText_hash b_EditedText_hash 3 (some .int) 0 := ⟨by decide +kernel, by decide +kernel⟩
theorem lk_Hall_229 : Cond.fieldLink R_Hall 229 "KeyHall$EditedText" "letters" "[I" ∈ gWS := by decide +kernel
theorem mw_Hall_230 : gwV gWS R_Hall 230 y_EditedText_sortedSuffixes b_EditedText_sortedSuffixes 1 (some (.object "KeyHall$SuffixOrder")) 0 := ⟨by decide +kernel, by decide +kernel⟩
theorem lk_Hall_234 : Cond.fieldLink R_Hall 234 "KeyHall$SuffixOrder" "starts" "[I" ∈ gWS := by decide +kernel
theorem mw_Hall_239 : gwV gWS R_Hall 239 y_EditedText_sharedWithSuffixBefore b_EditedText_sharedWithSuffixBefore 6 (some .int) 1 := ⟨by decide +kernel, by decide +kernel⟩
theorem mw_Hall_242 : gwV gWS R_Hall 242 y_EditedText_countPlaces b_EditedText_countPlaces 4 (some .int) 1 := ⟨by decide +kernel, by decide +kernel⟩
theorem mw_Hall_245 : gwV gWS R_Hall 245 y_EditedText_leastSuffixBeginning b_EditedText_leastSuffixBeginning 4 (some .int) 1 := ⟨by decide +kernel, by decide +kernel⟩
theorem mw_Hall_248 : gwV gWS R_Hall 248 y_Key_become b_Key_become 2 none 1 := ⟨by decide +kernel, by decide +kernel⟩
theorem mw_Hall_251 : gwV gWS R_Hall 251 y_Key_clear b_Key_clear 1 none 0 := ⟨by decide +kernel, by decide +kernel⟩
theorem mw_Hall_254 : gwV gWS R_Hall 254 y_View_measure b_View_measure 1 none 0 := ⟨by decide +kernel, by decide +kernel⟩
theorem lk_Hall_257 : Cond.classLink R_Hall 257 "java/util/NoSuchElementException" ∈ gWS := by decide +kernel
theorem mo_Model_1 : Cond.methodLink R_Model 1 objectInit ∈ gWS ∧ Cond.instanceMethod objectInit ∈ gWS ∧ Cond.code objectInit ⟨#[0xb1]⟩ 1 none ∈ gWS := by decide +kernel
theorem lk_Model_7 : Cond.fieldLink R_Model 7 "KeyHallModel" "tape" "[I" ∈ gWS := by decide +kernel
theorem lk_Model_13 : Cond.fieldLink R_Model 13 "KeyHallModel" "many" "[I" ∈ gWS := by decide +kernel
theorem lk_Model_16 : Cond.fieldLink R_Model 16 "KeyHallModel" "turns" "[I" ∈ gWS := by decide +kernel
theorem lk_Model_19 : Cond.fieldLink R_Model 19 "KeyHallModel" "letters" "[I" ∈ gWS := by decide +kernel
theorem lk_Model_22 : Cond.fieldLink R_Model 22 "KeyHallModel" "length" "[I" ∈ gWS := by decide +kernel
theorem lk_Model_25 : Cond.fieldLink R_Model 25 "KeyHallModel" "value" "[I" ∈ gWS := by decide +kernel
theorem lk_Model_28 : Cond.fieldLink R_Model 28 "KeyHallModel" "views" "I" ∈ gWS := by decide +kernel
theorem lk_Model_32 : Cond.fieldLink R_Model 32 "KeyHallModel" "of" "[I" ∈ gWS := by decide +kernel
theorem lk_Model_35 : Cond.fieldLink R_Model 35 "KeyHallModel" "sort" "[I" ∈ gWS := by decide +kernel
theorem lk_Model_38 : Cond.fieldLink R_Model 38 "KeyHallModel" "textLong" "[I" ∈ gWS := by decide +kernel
theorem lk_Model_41 : Cond.fieldLink R_Model 41 "KeyHallModel" "text" "[I" ∈ gWS := by decide +kernel
theorem lk_Model_44 : Cond.fieldLink R_Model 44 "KeyHallModel" "begun" "[Z" ∈ gWS := by decide +kernel
theorem lk_Model_48 : Cond.fieldLink R_Model 48 "KeyHallModel" "told" "[Z" ∈ gWS := by decide +kernel
theorem lk_Model_51 : Cond.fieldLink R_Model 51 "KeyHallModel" "drops" "[Z" ∈ gWS := by decide +kernel
theorem lk_Model_54 : Cond.fieldLink R_Model 54 "KeyHallModel" "seen" "[I" ∈ gWS := by decide +kernel
theorem lk_Model_57 : Cond.fieldLink R_Model 57 "KeyHallModel" "lastLong" "[I" ∈ gWS := by decide +kernel
theorem lk_Model_60 : Cond.fieldLink R_Model 60 "KeyHallModel" "last" "[I" ∈ gWS := by decide +kernel
theorem lk_Model_63 : Cond.fieldLink R_Model 63 "KeyHallModel" "found" "[I" ∈ gWS := by decide +kernel
theorem lk_Model_66 : Cond.fieldLink R_Model 66 "KeyHallModel" "differs" "[Z" ∈ gWS := by decide +kernel
theorem lk_Model_69 : Cond.fieldLink R_Model 69 "KeyHallModel" "firstKey" "[I" ∈ gWS := by decide +kernel
theorem lk_Model_72 : Cond.fieldLink R_Model 72 "KeyHallModel" "chars" "[I" ∈ gWS := by decide +kernel
theorem lk_Model_75 : Cond.fieldLink R_Model 75 "KeyHallModel" "stateOf" "[I" ∈ gWS := by decide +kernel
theorem lk_Model_78 : Cond.fieldLink R_Model 78 "KeyHallModel" "isFinal" "[Z" ∈ gWS := by decide +kernel
theorem lk_Model_81 : Cond.fieldLink R_Model 81 "KeyHallModel" "stepFrom" "[I" ∈ gWS := by decide +kernel
theorem lk_Model_84 : Cond.fieldLink R_Model 84 "KeyHallModel" "stepChar" "[I" ∈ gWS := by decide +kernel
theorem lk_Model_87 : Cond.fieldLink R_Model 87 "KeyHallModel" "stepTo" "[I" ∈ gWS := by decide +kernel
theorem lk_Model_90 : Cond.fieldLink R_Model 90 "KeyHallModel" "page" "[I" ∈ gWS := by decide +kernel
theorem lk_Model_93 : Cond.fieldLink R_Model 93 "KeyHallModel" "pages" "[I" ∈ gWS := by decide +kernel
theorem lk_Model_96 : Cond.fieldLink R_Model 96 "KeyHallModel" "sizes" "[I" ∈ gWS := by decide +kernel
theorem lk_Model_99 : Cond.fieldLink R_Model 99 "KeyHallModel" "code" "I" ∈ gWS := by decide +kernel
theorem lk_Model_102 : Cond.fieldLink R_Model 102 "KeyHallModel" "typed" "I" ∈ gWS := by decide +kernel
theorem mw_Model_106 : gwS gWS R_Model 106 y_Model_order b_Model_order 7 (some .int) 6 := ⟨by decide +kernel, by decide +kernel⟩
theorem mw_Model_110 : gwS gWS R_Model 110 y_Model_begins b_Model_begins 6 (some .boolean) 6 := ⟨by decide +kernel, by decide +kernel⟩
theorem mw_Model_114 : gwV gWS R_Model 114 y_Model_mapOf b_Model_mapOf 3 (some .int) 1 := ⟨by decide +kernel, by decide +kernel⟩
theorem mw_Model_118 : gwV gWS R_Model 118 y_Model_within b_Model_within 7 (some .boolean) 4 := ⟨by decide +kernel, by decide +kernel⟩
theorem mw_Model_122 : gwV gWS R_Model 122 y_Model_isView b_Model_isView 2 (some .boolean) 1 := ⟨by decide +kernel, by decide +kernel⟩
theorem mw_Model_126 : gwV gWS R_Model 126 y_Model_raise b_Model_raise 2 (some .int) 1 := ⟨by decide +kernel, by decide +kernel⟩
theorem mw_Model_129 : gwV gWS R_Model 129 y_Model_orderOf b_Model_orderOf 5 (some .int) 4 := ⟨by decide +kernel, by decide +kernel⟩
theorem mw_Model_133 : gwV gWS R_Model 133 y_Model_keyOf b_Model_keyOf 6 (some .int) 4 := ⟨by decide +kernel, by decide +kernel⟩
theorem mw_Model_136 : gwV gWS R_Model 136 y_Model_used b_Model_used 3 (some .int) 1 := ⟨by decide +kernel, by decide +kernel⟩
theorem mw_Model_139 : gwV gWS R_Model 139 y_Model_clear b_Model_clear 5 none 2 := ⟨by decide +kernel, by decide +kernel⟩
theorem mw_Model_143 : gwV gWS R_Model 143 y_Model_has b_Model_has 4 (some .boolean) 2 := ⟨by decide +kernel, by decide +kernel⟩
theorem mw_Model_147 : gwV gWS R_Model 147 y_Model_isTurned b_Model_isTurned 4 (some .boolean) 1 := ⟨by decide +kernel, by decide +kernel⟩
theorem mw_Model_150 : gwV gWS R_Model 150 y_Model_side b_Model_side 6 (some .int) 5 := ⟨by decide +kernel, by decide +kernel⟩
theorem lk_Model_154 : Cond.fieldLink R_Model 154 "KeyHallModel" "foundLong" "I" ∈ gWS := by decide +kernel
theorem mw_Model_157 : gwV gWS R_Model 157 y_Model_nearest b_Model_nearest 13 (some .int) 6 := ⟨by decide +kernel, by decide +kernel⟩
theorem mw_Model_161 : gwV gWS R_Model 161 y_Model_tell b_Model_tell 4 (some .int) 2 := ⟨by decide +kernel, by decide +kernel⟩
theorem mw_Model_165 : gwV gWS R_Model 165 y_Model_longest b_Model_longest 8 (some .int) 2 := ⟨by decide +kernel, by decide +kernel⟩
theorem mw_Model_168 : gwV gWS R_Model 168 y_Model_size b_Model_size 4 (some .int) 1 := ⟨by decide +kernel, by decide +kernel⟩
theorem mw_Model_171 : gwV gWS R_Model 171 y_Model_stale b_Model_stale 2 (some .boolean) 1 := ⟨by decide +kernel, by decide +kernel⟩
theorem mw_Model_174 : gwV gWS R_Model 174 y_Model_octet b_Model_octet 3 (some .int) 2 := ⟨by decide +kernel, by decide +kernel⟩
theorem mw_Model_177 : gwV gWS R_Model 177 y_Model_sameBytes b_Model_sameBytes 5 (some .boolean) 3 := ⟨by decide +kernel, by decide +kernel⟩
theorem mw_Model_181 : gwV gWS R_Model 181 y_Model_fan b_Model_fan 8 (some .int) 2 := ⟨by decide +kernel, by decide +kernel⟩
theorem mw_Model_184 : gwV gWS R_Model 184 y_Model_bit b_Model_bit 4 (some .int) 2 := ⟨by decide +kernel, by decide +kernel⟩
theorem mw_Model_187 : gwV gWS R_Model 187 y_Model_inner b_Model_inner 7 (some .int) 1 := ⟨by decide +kernel, by decide +kernel⟩
theorem mw_Model_190 : gwV gWS R_Model 190 y_Model_depth b_Model_depth 4 (some .int) 1 := ⟨by decide +kernel, by decide +kernel⟩
theorem lk_Model_193 : Cond.fieldLink R_Model 193 "KeyHallModel" "prefixes" "I" ∈ gWS := by decide +kernel
theorem lk_Model_196 : Cond.fieldLink R_Model 196 "KeyHallModel" "states" "I" ∈ gWS := by decide +kernel
theorem lk_Model_199 : Cond.fieldLink R_Model 199 "KeyHallModel" "steps" "I" ∈ gWS := by decide +kernel
theorem lk_Model_202 : Cond.fieldLink R_Model 202 "KeyHallModel" "start" "I" ∈ gWS := by decide +kernel
theorem mw_Model_205 : gwV gWS R_Model 205 y_Model_prefixesOf b_Model_prefixesOf 6 none 2 := ⟨by decide +kernel, by decide +kernel⟩
theorem mw_Model_208 : gwV gWS R_Model 208 y_Model_state b_Model_state 7 none 2 := ⟨by decide +kernel, by decide +kernel⟩
theorem mw_Model_211 : gwV gWS R_Model 211 y_Model_samePrefix b_Model_samePrefix 4 (some .boolean) 3 := ⟨by decide +kernel, by decide +kernel⟩
theorem mw_Model_214 : gwV gWS R_Model 214 y_Model_endsAt b_Model_endsAt 5 (some .boolean) 2 := ⟨by decide +kernel, by decide +kernel⟩
theorem mw_Model_217 : gwV gWS R_Model 217 y_Model_follows b_Model_follows 3 (some .boolean) 2 := ⟨by decide +kernel, by decide +kernel⟩
theorem mw_Model_220 : gwV gWS R_Model 220 y_Model_stepsOf b_Model_stepsOf 4 (some .int) 1 := ⟨by decide +kernel, by decide +kernel⟩
theorem mw_Model_223 : gwV gWS R_Model 223 y_Model_alike b_Model_alike 4 (some .boolean) 2 := ⟨by decide +kernel, by decide +kernel⟩
theorem mw_Model_226 : gwV gWS R_Model 226 y_Model_go b_Model_go 4 (some .int) 2 := ⟨by decide +kernel, by decide +kernel⟩
theorem lk_Model_229 : Cond.fieldLink R_Model 229 "KeyHallModel" "edits" "I" ∈ gWS := by decide +kernel
theorem lk_Model_232 : Cond.fieldLink R_Model 232 "KeyHallModel" "size" "I" ∈ gWS := by decide +kernel
theorem lk_Model_234 : Cond.fieldLink R_Model 234 "KeyHallModel" "kept" "I" ∈ gWS := by decide +kernel
theorem mw_Model_237 : gwV gWS R_Model 237 y_Model_keep b_Model_keep 3 none 0 := ⟨by decide +kernel, by decide +kernel⟩
theorem mw_Model_240 : gwV gWS R_Model 240 y_Model_begin b_Model_begin 5 (some .int) 1 := ⟨by decide +kernel, by decide +kernel⟩
theorem mw_Law_7 : gwV gWS R_Law 7 y_Hall_view b_Hall_view 4 (some .int) 2 := ⟨by decide +kernel, by decide +kernel⟩
theorem mw_Law_15 : gwV gWS R_Law 15 y_Hall_put b_Hall_put 7 (some .int) 2 := ⟨by decide +kernel, by decide +kernel⟩
theorem mw_Law_22 : gwV gWS R_Law 22 y_Hall_get b_Hall_get 4 (some .int) 1 := ⟨by decide +kernel, by decide +kernel⟩
theorem mw_Law_26 : gwV gWS R_Law 26 y_Hall_remove b_Hall_remove 4 (some .int) 1 := ⟨by decide +kernel, by decide +kernel⟩
theorem mw_Law_29 : gwV gWS R_Law 29 y_Hall_find b_Hall_find 4 (some .int) 2 := ⟨by decide +kernel, by decide +kernel⟩
theorem mw_Law_34 : gwV gWS R_Law 34 y_Hall_at b_Hall_at 3 (some .int) 2 := ⟨by decide +kernel, by decide +kernel⟩
theorem mw_Law_37 : gwV gWS R_Law 37 y_Hall_poll b_Hall_poll 5 (some .int) 2 := ⟨by decide +kernel, by decide +kernel⟩
theorem mw_Law_41 : gwV gWS R_Law 41 y_Hall_next b_Hall_next 4 (some .int) 1 := ⟨by decide +kernel, by decide +kernel⟩
theorem mw_Law_44 : gwV gWS R_Law 44 y_Hall_drop b_Hall_drop 5 (some .int) 1 := ⟨by decide +kernel, by decide +kernel⟩
theorem mw_Law_47 : gwV gWS R_Law 47 y_Hall_match b_Hall_match 6 (some .int) 2 := ⟨by decide +kernel, by decide +kernel⟩
theorem mw_Law_50 : gwV gWS R_Law 50 y_Hall_edges b_Hall_edges 4 (some .int) 1 := ⟨by decide +kernel, by decide +kernel⟩
theorem mw_Law_53 : gwV gWS R_Law 53 y_Hall_freeze b_Hall_freeze 2 (some .int) 1 := ⟨by decide +kernel, by decide +kernel⟩
theorem mw_Law_56 : gwV gWS R_Law 56 y_Hall_insert b_Hall_insert 2 (some .int) 1 := ⟨by decide +kernel, by decide +kernel⟩
theorem mw_Law_59 : gwV gWS R_Law 59 y_Hall_delete b_Hall_delete 3 (some .int) 2 := ⟨by decide +kernel, by decide +kernel⟩
end
