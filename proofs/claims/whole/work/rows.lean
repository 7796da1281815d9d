section
/-- a private method of a class that the tables say can be made, by its rows of tables_1 -/
def lw_okq (q : MethodName × Nat) : Prop := (q.1.cls ≠ "java/lang/invoke/MethodHandle" ∧ q.1.cls ≠ "java/lang/invoke/VarHandle") ∧ Cond.instantiable q.1.cls q.2 ∈ tables_1 ∧ Cond.privateMethod q.1 ∈ tables_1 ∧ Cond.instanceMethod q.1 ∈ tables_1
theorem lw_p0 : lw_okq (⟨"KeyHall", "isView", "(I)Z"⟩, 8) := ⟨⟨by decide +kernel, by decide +kernel⟩, List.mem_of_getElem? (i := 22) (by decide +kernel), List.mem_of_getElem? (i := 301) (by decide +kernel), List.mem_of_getElem? (i := 302) (by decide +kernel)⟩
theorem lw_p1 : lw_okq (⟨"KeyHall", "measured", "(I)LKeyHall$View;"⟩, 8) := ⟨⟨by decide +kernel, by decide +kernel⟩, List.mem_of_getElem? (i := 22) (by decide +kernel), List.mem_of_getElem? (i := 305) (by decide +kernel), List.mem_of_getElem? (i := 306) (by decide +kernel)⟩
theorem lw_p2 : lw_okq (⟨"KeyHall", "viewNumbered", "(I)LKeyHall$View;"⟩, 8) := ⟨⟨by decide +kernel, by decide +kernel⟩, List.mem_of_getElem? (i := 22) (by decide +kernel), List.mem_of_getElem? (i := 309) (by decide +kernel), List.mem_of_getElem? (i := 310) (by decide +kernel)⟩
theorem lw_p3 : lw_okq (⟨"java/lang/Throwable", "fillInStackTrace", "(I)Ljava/lang/Throwable;"⟩, 6) := ⟨⟨by decide +kernel, by decide +kernel⟩, List.mem_of_getElem? (i := 352) (by decide +kernel), List.mem_of_getElem? (i := 350) (by decide +kernel), List.mem_of_getElem? (i := 351) (by decide +kernel)⟩
theorem lw_p4 : lw_okq (⟨"KeyHall", "useTape", "()V"⟩, 8) := ⟨⟨by decide +kernel, by decide +kernel⟩, List.mem_of_getElem? (i := 22) (by decide +kernel), List.mem_of_getElem? (i := 421) (by decide +kernel), List.mem_of_getElem? (i := 422) (by decide +kernel)⟩
theorem lw_p5 : lw_okq (⟨"KeyHall", "tell", "(LKeyHall$View;I)I"⟩, 8) := ⟨⟨by decide +kernel, by decide +kernel⟩, List.mem_of_getElem? (i := 22) (by decide +kernel), List.mem_of_getElem? (i := 621) (by decide +kernel), List.mem_of_getElem? (i := 622) (by decide +kernel)⟩
theorem lw_p6 : lw_okq (⟨"KeyHallModel", "isView", "(I)Z"⟩, 39) := ⟨⟨by decide +kernel, by decide +kernel⟩, List.mem_of_getElem? (i := 803) (by decide +kernel), List.mem_of_getElem? (i := 940) (by decide +kernel), List.mem_of_getElem? (i := 941) (by decide +kernel)⟩
theorem lw_p7 : lw_okq (⟨"KeyHallModel", "raise", "(I)I"⟩, 39) := ⟨⟨by decide +kernel, by decide +kernel⟩, List.mem_of_getElem? (i := 803) (by decide +kernel), List.mem_of_getElem? (i := 944) (by decide +kernel), List.mem_of_getElem? (i := 945) (by decide +kernel)⟩
theorem lw_p8 : lw_okq (⟨"KeyHallModel", "within", "(I[III)Z"⟩, 39) := ⟨⟨by decide +kernel, by decide +kernel⟩, List.mem_of_getElem? (i := 803) (by decide +kernel), List.mem_of_getElem? (i := 952) (by decide +kernel), List.mem_of_getElem? (i := 953) (by decide +kernel)⟩
theorem lw_p9 : lw_okq (⟨"KeyHallModel", "mapOf", "(I)I"⟩, 39) := ⟨⟨by decide +kernel, by decide +kernel⟩, List.mem_of_getElem? (i := 803) (by decide +kernel), List.mem_of_getElem? (i := 962) (by decide +kernel), List.mem_of_getElem? (i := 963) (by decide +kernel)⟩
theorem lw_p10 : lw_okq (⟨"KeyHallModel", "keyOf", "(I[III)I"⟩, 39) := ⟨⟨by decide +kernel, by decide +kernel⟩, List.mem_of_getElem? (i := 803) (by decide +kernel), List.mem_of_getElem? (i := 966) (by decide +kernel), List.mem_of_getElem? (i := 967) (by decide +kernel)⟩
theorem lw_p11 : lw_okq (⟨"KeyHallModel", "orderOf", "(I[III)I"⟩, 39) := ⟨⟨by decide +kernel, by decide +kernel⟩, List.mem_of_getElem? (i := 803) (by decide +kernel), List.mem_of_getElem? (i := 970) (by decide +kernel), List.mem_of_getElem? (i := 971) (by decide +kernel)⟩
theorem lw_p12 : lw_okq (⟨"KeyHallModel", "used", "(I)I"⟩, 39) := ⟨⟨by decide +kernel, by decide +kernel⟩, List.mem_of_getElem? (i := 803) (by decide +kernel), List.mem_of_getElem? (i := 978) (by decide +kernel), List.mem_of_getElem? (i := 979) (by decide +kernel)⟩
theorem lw_p13 : lw_okq (⟨"KeyHallModel", "clear", "(II)V"⟩, 39) := ⟨⟨by decide +kernel, by decide +kernel⟩, List.mem_of_getElem? (i := 803) (by decide +kernel), List.mem_of_getElem? (i := 986) (by decide +kernel), List.mem_of_getElem? (i := 987) (by decide +kernel)⟩
theorem lw_p14 : lw_okq (⟨"KeyHallModel", "has", "(II)Z"⟩, 39) := ⟨⟨by decide +kernel, by decide +kernel⟩, List.mem_of_getElem? (i := 803) (by decide +kernel), List.mem_of_getElem? (i := 994) (by decide +kernel), List.mem_of_getElem? (i := 995) (by decide +kernel)⟩
theorem lw_p15 : lw_okq (⟨"KeyHallModel", "nearest", "(IZZ[III)I"⟩, 39) := ⟨⟨by decide +kernel, by decide +kernel⟩, List.mem_of_getElem? (i := 803) (by decide +kernel), List.mem_of_getElem? (i := 1002) (by decide +kernel), List.mem_of_getElem? (i := 1003) (by decide +kernel)⟩
def lw_privs_1 : List (MethodName × Nat) := [(⟨"KeyHall", "isView", "(I)Z"⟩, 8), (⟨"KeyHall", "measured", "(I)LKeyHall$View;"⟩, 8), (⟨"KeyHall", "viewNumbered", "(I)LKeyHall$View;"⟩, 8), (⟨"java/lang/Throwable", "fillInStackTrace", "(I)Ljava/lang/Throwable;"⟩, 6), (⟨"KeyHall", "useTape", "()V"⟩, 8), (⟨"KeyHall", "tell", "(LKeyHall$View;I)I"⟩, 8), (⟨"KeyHallModel", "isView", "(I)Z"⟩, 39), (⟨"KeyHallModel", "raise", "(I)I"⟩, 39), (⟨"KeyHallModel", "within", "(I[III)Z"⟩, 39), (⟨"KeyHallModel", "mapOf", "(I)I"⟩, 39), (⟨"KeyHallModel", "keyOf", "(I[III)I"⟩, 39), (⟨"KeyHallModel", "orderOf", "(I[III)I"⟩, 39), (⟨"KeyHallModel", "used", "(I)I"⟩, 39), (⟨"KeyHallModel", "clear", "(II)V"⟩, 39), (⟨"KeyHallModel", "has", "(II)Z"⟩, 39), (⟨"KeyHallModel", "nearest", "(IZZ[III)I"⟩, 39)]
theorem lw_r1 : ∀ q ∈ lw_privs_1, lw_okq q := List.forall_mem_cons.mpr ⟨lw_p0, List.forall_mem_cons.mpr ⟨lw_p1, List.forall_mem_cons.mpr ⟨lw_p2, List.forall_mem_cons.mpr ⟨lw_p3, List.forall_mem_cons.mpr ⟨lw_p4, List.forall_mem_cons.mpr ⟨lw_p5, List.forall_mem_cons.mpr ⟨lw_p6, List.forall_mem_cons.mpr ⟨lw_p7, List.forall_mem_cons.mpr ⟨lw_p8, List.forall_mem_cons.mpr ⟨lw_p9, List.forall_mem_cons.mpr ⟨lw_p10, List.forall_mem_cons.mpr ⟨lw_p11, List.forall_mem_cons.mpr ⟨lw_p12, List.forall_mem_cons.mpr ⟨lw_p13, List.forall_mem_cons.mpr ⟨lw_p14, List.forall_mem_cons.mpr ⟨lw_p15, fun _ h => absurd h List.not_mem_nil⟩⟩⟩⟩⟩⟩⟩⟩⟩⟩⟩⟩⟩⟩⟩⟩
theorem lw_p16 : lw_okq (⟨"KeyHallModel", "side", "(II[III)I"⟩, 39) := ⟨⟨by decide +kernel, by decide +kernel⟩, List.mem_of_getElem? (i := 803) (by decide +kernel), List.mem_of_getElem? (i := 1006) (by decide +kernel), List.mem_of_getElem? (i := 1007) (by decide +kernel)⟩
theorem lw_p17 : lw_okq (⟨"KeyHallModel", "isTurned", "(I)Z"⟩, 39) := ⟨⟨by decide +kernel, by decide +kernel⟩, List.mem_of_getElem? (i := 803) (by decide +kernel), List.mem_of_getElem? (i := 1010) (by decide +kernel), List.mem_of_getElem? (i := 1011) (by decide +kernel)⟩
theorem lw_p18 : lw_okq (⟨"KeyHallModel", "tell", "(II)I"⟩, 39) := ⟨⟨by decide +kernel, by decide +kernel⟩, List.mem_of_getElem? (i := 803) (by decide +kernel), List.mem_of_getElem? (i := 1014) (by decide +kernel), List.mem_of_getElem? (i := 1015) (by decide +kernel)⟩
theorem lw_p19 : lw_okq (⟨"KeyHallModel", "longest", "(II)I"⟩, 39) := ⟨⟨by decide +kernel, by decide +kernel⟩, List.mem_of_getElem? (i := 803) (by decide +kernel), List.mem_of_getElem? (i := 1018) (by decide +kernel), List.mem_of_getElem? (i := 1019) (by decide +kernel)⟩
theorem lw_p20 : lw_okq (⟨"KeyHallModel", "stale", "(I)Z"⟩, 39) := ⟨⟨by decide +kernel, by decide +kernel⟩, List.mem_of_getElem? (i := 803) (by decide +kernel), List.mem_of_getElem? (i := 1043) (by decide +kernel), List.mem_of_getElem? (i := 1044) (by decide +kernel)⟩
theorem lw_p21 : lw_okq (⟨"KeyHallModel", "inner", "(I)I"⟩, 39) := ⟨⟨by decide +kernel, by decide +kernel⟩, List.mem_of_getElem? (i := 803) (by decide +kernel), List.mem_of_getElem? (i := 1059) (by decide +kernel), List.mem_of_getElem? (i := 1060) (by decide +kernel)⟩
theorem lw_p22 : lw_okq (⟨"KeyHallModel", "fan", "(II)I"⟩, 39) := ⟨⟨by decide +kernel, by decide +kernel⟩, List.mem_of_getElem? (i := 803) (by decide +kernel), List.mem_of_getElem? (i := 1063) (by decide +kernel), List.mem_of_getElem? (i := 1064) (by decide +kernel)⟩
theorem lw_p23 : lw_okq (⟨"KeyHallModel", "sameBytes", "(III)Z"⟩, 39) := ⟨⟨by decide +kernel, by decide +kernel⟩, List.mem_of_getElem? (i := 803) (by decide +kernel), List.mem_of_getElem? (i := 1067) (by decide +kernel), List.mem_of_getElem? (i := 1068) (by decide +kernel)⟩
theorem lw_p24 : lw_okq (⟨"KeyHallModel", "octet", "(II)I"⟩, 39) := ⟨⟨by decide +kernel, by decide +kernel⟩, List.mem_of_getElem? (i := 803) (by decide +kernel), List.mem_of_getElem? (i := 1071) (by decide +kernel), List.mem_of_getElem? (i := 1072) (by decide +kernel)⟩
theorem lw_p25 : lw_okq (⟨"KeyHallModel", "depth", "(I)I"⟩, 39) := ⟨⟨by decide +kernel, by decide +kernel⟩, List.mem_of_getElem? (i := 803) (by decide +kernel), List.mem_of_getElem? (i := 1075) (by decide +kernel), List.mem_of_getElem? (i := 1076) (by decide +kernel)⟩
theorem lw_p26 : lw_okq (⟨"KeyHallModel", "bit", "(II)I"⟩, 39) := ⟨⟨by decide +kernel, by decide +kernel⟩, List.mem_of_getElem? (i := 803) (by decide +kernel), List.mem_of_getElem? (i := 1079) (by decide +kernel), List.mem_of_getElem? (i := 1080) (by decide +kernel)⟩
theorem lw_p27 : lw_okq (⟨"KeyHallModel", "prefixesOf", "(II)V"⟩, 39) := ⟨⟨by decide +kernel, by decide +kernel⟩, List.mem_of_getElem? (i := 803) (by decide +kernel), List.mem_of_getElem? (i := 1087) (by decide +kernel), List.mem_of_getElem? (i := 1088) (by decide +kernel)⟩
theorem lw_p28 : lw_okq (⟨"KeyHallModel", "samePrefix", "(III)Z"⟩, 39) := ⟨⟨by decide +kernel, by decide +kernel⟩, List.mem_of_getElem? (i := 803) (by decide +kernel), List.mem_of_getElem? (i := 1091) (by decide +kernel), List.mem_of_getElem? (i := 1092) (by decide +kernel)⟩
theorem lw_p29 : lw_okq (⟨"KeyHallModel", "state", "(II)V"⟩, 39) := ⟨⟨by decide +kernel, by decide +kernel⟩, List.mem_of_getElem? (i := 803) (by decide +kernel), List.mem_of_getElem? (i := 1095) (by decide +kernel), List.mem_of_getElem? (i := 1096) (by decide +kernel)⟩
theorem lw_p30 : lw_okq (⟨"KeyHallModel", "endsAt", "(II)Z"⟩, 39) := ⟨⟨by decide +kernel, by decide +kernel⟩, List.mem_of_getElem? (i := 803) (by decide +kernel), List.mem_of_getElem? (i := 1099) (by decide +kernel), List.mem_of_getElem? (i := 1100) (by decide +kernel)⟩
theorem lw_p31 : lw_okq (⟨"KeyHallModel", "follows", "(II)Z"⟩, 39) := ⟨⟨by decide +kernel, by decide +kernel⟩, List.mem_of_getElem? (i := 803) (by decide +kernel), List.mem_of_getElem? (i := 1103) (by decide +kernel), List.mem_of_getElem? (i := 1104) (by decide +kernel)⟩
def lw_privs_2 : List (MethodName × Nat) := [(⟨"KeyHallModel", "side", "(II[III)I"⟩, 39), (⟨"KeyHallModel", "isTurned", "(I)Z"⟩, 39), (⟨"KeyHallModel", "tell", "(II)I"⟩, 39), (⟨"KeyHallModel", "longest", "(II)I"⟩, 39), (⟨"KeyHallModel", "stale", "(I)Z"⟩, 39), (⟨"KeyHallModel", "inner", "(I)I"⟩, 39), (⟨"KeyHallModel", "fan", "(II)I"⟩, 39), (⟨"KeyHallModel", "sameBytes", "(III)Z"⟩, 39), (⟨"KeyHallModel", "octet", "(II)I"⟩, 39), (⟨"KeyHallModel", "depth", "(I)I"⟩, 39), (⟨"KeyHallModel", "bit", "(II)I"⟩, 39), (⟨"KeyHallModel", "prefixesOf", "(II)V"⟩, 39), (⟨"KeyHallModel", "samePrefix", "(III)Z"⟩, 39), (⟨"KeyHallModel", "state", "(II)V"⟩, 39), (⟨"KeyHallModel", "endsAt", "(II)Z"⟩, 39), (⟨"KeyHallModel", "follows", "(II)Z"⟩, 39)]
theorem lw_r2 : ∀ q ∈ lw_privs_2, lw_okq q := List.forall_mem_cons.mpr ⟨lw_p16, List.forall_mem_cons.mpr ⟨lw_p17, List.forall_mem_cons.mpr ⟨lw_p18, List.forall_mem_cons.mpr ⟨lw_p19, List.forall_mem_cons.mpr ⟨lw_p20, List.forall_mem_cons.mpr ⟨lw_p21, List.forall_mem_cons.mpr ⟨lw_p22, List.forall_mem_cons.mpr ⟨lw_p23, List.forall_mem_cons.mpr ⟨lw_p24, List.forall_mem_cons.mpr ⟨lw_p25, List.forall_mem_cons.mpr ⟨lw_p26, List.forall_mem_cons.mpr ⟨lw_p27, List.forall_mem_cons.mpr ⟨lw_p28, List.forall_mem_cons.mpr ⟨lw_p29, List.forall_mem_cons.mpr ⟨lw_p30, List.forall_mem_cons.mpr ⟨lw_p31, fun _ h => absurd h List.not_mem_nil⟩⟩⟩⟩⟩⟩⟩⟩⟩⟩⟩⟩⟩⟩⟩⟩
theorem lw_p32 : lw_okq (⟨"KeyHallModel", "stepsOf", "(I)I"⟩, 39) := ⟨⟨by decide +kernel, by decide +kernel⟩, List.mem_of_getElem? (i := 803) (by decide +kernel), List.mem_of_getElem? (i := 1107) (by decide +kernel), List.mem_of_getElem? (i := 1108) (by decide +kernel)⟩
theorem lw_p33 : lw_okq (⟨"KeyHallModel", "alike", "(II)Z"⟩, 39) := ⟨⟨by decide +kernel, by decide +kernel⟩, List.mem_of_getElem? (i := 803) (by decide +kernel), List.mem_of_getElem? (i := 1111) (by decide +kernel), List.mem_of_getElem? (i := 1112) (by decide +kernel)⟩
theorem lw_p34 : lw_okq (⟨"KeyHallModel", "go", "(II)I"⟩, 39) := ⟨⟨by decide +kernel, by decide +kernel⟩, List.mem_of_getElem? (i := 803) (by decide +kernel), List.mem_of_getElem? (i := 1115) (by decide +kernel), List.mem_of_getElem? (i := 1116) (by decide +kernel)⟩
theorem lw_p35 : lw_okq (⟨"KeyHallModel", "keep", "()V"⟩, 39) := ⟨⟨by decide +kernel, by decide +kernel⟩, List.mem_of_getElem? (i := 803) (by decide +kernel), List.mem_of_getElem? (i := 1127) (by decide +kernel), List.mem_of_getElem? (i := 1128) (by decide +kernel)⟩
theorem lw_p36 : lw_okq (⟨"KeyHallModel", "begin", "(I)I"⟩, 39) := ⟨⟨by decide +kernel, by decide +kernel⟩, List.mem_of_getElem? (i := 803) (by decide +kernel), List.mem_of_getElem? (i := 1147) (by decide +kernel), List.mem_of_getElem? (i := 1148) (by decide +kernel)⟩
def lw_privs_3 : List (MethodName × Nat) := [(⟨"KeyHallModel", "stepsOf", "(I)I"⟩, 39), (⟨"KeyHallModel", "alike", "(II)Z"⟩, 39), (⟨"KeyHallModel", "go", "(II)I"⟩, 39), (⟨"KeyHallModel", "keep", "()V"⟩, 39), (⟨"KeyHallModel", "begin", "(I)I"⟩, 39)]
theorem lw_r3 : ∀ q ∈ lw_privs_3, lw_okq q := List.forall_mem_cons.mpr ⟨lw_p32, List.forall_mem_cons.mpr ⟨lw_p33, List.forall_mem_cons.mpr ⟨lw_p34, List.forall_mem_cons.mpr ⟨lw_p35, List.forall_mem_cons.mpr ⟨lw_p36, fun _ h => absurd h List.not_mem_nil⟩⟩⟩⟩⟩
def lw_privs : List (MethodName × Nat) := lw_privs_1 ++ (lw_privs_2 ++ (lw_privs_3))
def lw_tbl : List Cond := k2_sels lw_privs ++ tables_1
theorem lw_privs_ok : ∀ q ∈ lw_privs, lw_okq q := by
  show ∀ q ∈ lw_privs_1 ++ (lw_privs_2 ++ (lw_privs_3)), lw_okq q
  exact List.forall_mem_append.mpr ⟨lw_r1, List.forall_mem_append.mpr ⟨lw_r2, lw_r3⟩⟩
end
section
/-! own rows, 1: a frame's variables as a list; cells one by one, by the heap itself; contracts over a given heap -/
section GL
def gl_l : Nat → List (Option Value) → List (Nat × Value)
  | _, [] => []
  | i, none :: r => gl_l (i + 1) r
  | i, some v :: r => (i, v) :: gl_l (i + 1) r
theorem gl_mem : ∀ (L : List (Option Value)) (k i : Nat) (v : Value), (i, v) ∈ gl_l k L ↔ ∃ j, i = k + j ∧ L[j]? = some (some v)
  | [], k, i, v => by simp [gl_l]
  | none :: r, k, i, v => by
    rw [gl_l, gl_mem r (k + 1) i v]
    constructor
    · rintro ⟨j, h1, h2⟩
      exact ⟨j + 1, by omega, by simpa using h2⟩
    · rintro ⟨j, h1, h2⟩
      cases j with
      | zero => simp at h2
      | succ j => exact ⟨j, by omega, by simpa using h2⟩
  | some w :: r, k, i, v => by
    rw [gl_l, List.mem_cons, gl_mem r (k + 1) i v]
    constructor
    · rintro (h | ⟨j, h1, h2⟩)
      · cases h
        exact ⟨0, by omega, rfl⟩
      · exact ⟨j + 1, by omega, by simpa using h2⟩
    · rintro ⟨j, h1, h2⟩
      cases j with
      | zero =>
        simp at h2
        subst h2
        exact Or.inl (by rw [h1]; rfl)
      | succ j => exact Or.inr ⟨j, by omega, by simpa using h2⟩
def gl (ls : Array Slot) (L : List (Option Value)) : Prop := lv_has ls L.length (gl_l 0 L)
theorem gl_at {ls : Array Slot} {L : List (Option Value)} {i : Nat} {v : Value} (h : gl ls L) (hk : L[i]? = some (some v)) : ls[i]? = some (.val v) := h.2.2 (i, v) ((gl_mem L 0 i v).mpr ⟨i, by omega, hk⟩)
def gl_ok (L : List (Option Value)) : Nat → Bool
  | 0 => true
  | j + 1 => match L[j]? with
    | some (some w) => w.category == 1
    | _ => true
theorem gl_of {ls' : Array Slot} {L : List (Option Value)} {i : Nat} {v : Value} (ho : gl_ok L i = true) (hi : i < L.length) (h : lv_has ls' L.length ((i, v) :: (gl_l 0 L).filter (fun q => !(q.1 == i) && !(q.1 + 1 == i && q.2.category == 2)))) : gl ls' (L.set i (some v)) := by
  refine ⟨by rw [h.1]; simp, h.2.1, fun q hq => ?_⟩
  obtain ⟨j, w⟩ := q
  obtain ⟨j', hj, hw⟩ := (gl_mem _ 0 j w).mp hq
  have e : j = j' := by omega
  subst e
  by_cases hji : j = i
  · subst hji
    rw [List.getElem?_set_self hi] at hw
    cases hw
    exact h.2.2 (j, v) List.mem_cons_self
  · rw [List.getElem?_set_ne (Ne.symm hji)] at hw
    refine h.2.2 (j, w) (List.mem_cons_of_mem _ (List.mem_filter.mpr ⟨(gl_mem L 0 j w).mpr ⟨j, by omega, hw⟩, ?_⟩))
    by_cases h1 : j + 1 = i
    · subst h1
      simp only [gl_ok, hw] at ho
      have h2 : w.category = 1 := by simpa using ho
      simp [h2]
    · simp [hji, h1]
theorem gl_forget {ls : Array Slot} {L : List (Option Value)} (h : gl ls L) (i : Nat) : gl ls (L.set i none) := by
  refine ⟨by rw [h.1]; simp, h.2.1, fun q hq => ?_⟩
  obtain ⟨j, w⟩ := q
  obtain ⟨j', hj, hw⟩ := (gl_mem _ 0 j w).mp hq
  have e : j = j' := by omega
  subst e
  by_cases hji : j = i
  · subst hji
    by_cases hl : j < L.length
    · rw [List.getElem?_set_self hl] at hw
      cases hw
    · rw [List.getElem?_eq_none (by simp; omega)] at hw
      cases hw
  · rw [List.getElem?_set_ne (Ne.symm hji)] at hw
    exact h.2.2 (j, w) ((gl_mem L 0 j w).mpr ⟨j, by omega, hw⟩)
end GL
section GR
variable {p : Program} {l : Launch} {e : Env} {R : Room} {s : State} {m : MethodId} {args : Array Value} {below : List Frame} {meth : Method} {c : Code} {H : Heap} {locs : List Loc} {cells slots : Nat} {Q : State → Prop}
variable {cc : ByteArray} {pc : Nat} {ls : Array Slot} {rest : List Value} {L : List (Option Value)}
theorem g_entry {vs : List Value} {n : Nat} (L : List (Option Value)) (hL : gl_l 0 L = lv_args 0 vs) (hn : L.length = n) (hle : (lg_sl vs).length ≤ n)
    (k : ∀ ls : Array Slot, gl ls L → W p l e R s m args below meth c H locs cells slots Q (F0 m 0 ls [])) : W p l e R s m args below meth c H locs cells slots Q (entryFrame m vs.toArray n) := by
  rw [lg_entry_eq]
  refine k _ ?_
  unfold gl
  rw [hn, hL]
  exact lv_entry vs hle
theorem g_istn (hexec : p.tables.exec = Jvm.exec) (hb : c.code = cc) {k : Fin 4} {x : Int32} (h : gl ls L) (i : Nat) (hdg : decode cc pc = .ok (.istore_n k, 1)) (hi : (k : Nat) = i) (hn : i < L.length) (ho : gl_ok L i = true)
    (kk : ∀ ls' : Array Slot, gl ls' (L.set i (some (.int x))) → W p l e R s m args below meth c H locs cells slots Q (F0 m (pc + 1) ls' rest)) : W p l e R s m args below meth c H locs cells slots Q (F0 m pc ls (.int x :: rest)) :=
  lv_istore_n hexec hb hdg hi h hn rfl (fun ls' h' => kk ls' (gl_of ho hn h'))
theorem g_ist (hexec : p.tables.exec = Jvm.exec) (hb : c.code = cc) {x : Int32} (h : gl ls L) (i : Nat) (hdg : decode cc pc = .ok (.istore i, 2)) (hn : i < L.length) (ho : gl_ok L i = true)
    (kk : ∀ ls' : Array Slot, gl ls' (L.set i (some (.int x))) → W p l e R s m args below meth c H locs cells slots Q (F0 m (pc + 2) ls' rest)) : W p l e R s m args below meth c H locs cells slots Q (F0 m pc ls (.int x :: rest)) :=
  lv_istore hexec hb hdg h hn rfl (fun ls' h' => kk ls' (gl_of ho hn h'))
theorem g_astn (hexec : p.tables.exec = Jvm.exec) (hb : c.code = cc) {k : Fin 4} {x : Nat} (h : gl ls L) (i : Nat) (hdg : decode cc pc = .ok (.astore_n k, 1)) (hi : (k : Nat) = i) (hn : i < L.length) (ho : gl_ok L i = true)
    (kk : ∀ ls' : Array Slot, gl ls' (L.set i (some (.ref x))) → W p l e R s m args below meth c H locs cells slots Q (F0 m (pc + 1) ls' rest)) : W p l e R s m args below meth c H locs cells slots Q (F0 m pc ls (.ref x :: rest)) :=
  lv_astore_n hexec hb hdg hi h hn rfl (fun ls' h' => kk ls' (gl_of ho hn h'))
theorem g_ast (hexec : p.tables.exec = Jvm.exec) (hb : c.code = cc) {x : Nat} (h : gl ls L) (i : Nat) (hdg : decode cc pc = .ok (.astore i, 2)) (hn : i < L.length) (ho : gl_ok L i = true)
    (kk : ∀ ls' : Array Slot, gl ls' (L.set i (some (.ref x))) → W p l e R s m args below meth c H locs cells slots Q (F0 m (pc + 2) ls' rest)) : W p l e R s m args below meth c H locs cells slots Q (F0 m pc ls (.ref x :: rest)) :=
  lv_astore hexec hb hdg h hn rfl (fun ls' h' => kk ls' (gl_of ho hn h'))
theorem g_iinc (hexec : p.tables.exec = Jvm.exec) (hb : c.code = cc) {n : Int} {x : Int32} (v : Int32) (h : gl ls L) (i : Nat) (hdg : decode cc pc = .ok (.iinc i n, 3)) (hk : L[i]? = some (some (.int x))) (hv : x + Int32.ofInt n = v) (ho : gl_ok L i = true)
    (kk : ∀ ls' : Array Slot, gl ls' (L.set i (some (.int v))) → W p l e R s m args below meth c H locs cells slots Q (F0 m (pc + 3) ls' rest)) : W p l e R s m args below meth c H locs cells slots Q (F0 m pc ls rest) := by
  have hn : i < L.length := (List.getElem?_eq_some_iff.mp hk).1
  obtain ⟨k, hk'⟩ := List.getElem?_of_mem ((gl_mem L 0 i (.int x)).mpr ⟨i, by omega, hk⟩)
  exact lv_iinc hexec hb hdg h hk' hv hn rfl (fun ls' h' => kk ls' (gl_of ho hn h'))
theorem g_top {x : Int32} (y : Int32) (e1 : x = y) (k : W p l e R s m args below meth c H locs cells slots Q (F0 m pc ls (.int y :: rest))) : W p l e R s m args below meth c H locs cells slots Q (F0 m pc ls (.int x :: rest)) := e1 ▸ k
theorem g_topv {x : Value} (y : Value) (e1 : x = y) (k : W p l e R s m args below meth c H locs cells slots Q (F0 m pc ls (y :: rest))) : W p l e R s m args below meth c H locs cells slots Q (F0 m pc ls (x :: rest)) := e1 ▸ k
/-! branches over numbers -/
theorem gn_ge (hexec : p.tables.exec = Jvm.exec) (hb : c.code = cc) (a b : Nat) {off : Int} {tgt : Nat} (ha : a < 2 ^ 31) (h2 : b < 2 ^ 31) (hdg : decode cc pc = .ok (.if_icmp .ge off, 3)) (ht : (pc : Int) + off = (tgt : Int))
    (kt : b ≤ a → W p l e R s m args below meth c H locs cells slots Q (F0 m tgt ls rest)) (kf : a < b → W p l e R s m args below meth c H locs cells slots Q (F0 m (pc + 3) ls rest)) : W p l e R s m args below meth c H locs cells slots Q (F0 m pc ls (.int (nI b) :: .int (nI a) :: rest)) :=
  lv_icmp_ge hexec hb hdg ht (fun h => kt ((nI_leI h2 ha).mp h)) (fun h => kf (Nat.not_le.mp fun q => h ((nI_leI h2 ha).mpr q)))
theorem gn_lt (hexec : p.tables.exec = Jvm.exec) (hb : c.code = cc) (a b : Nat) {off : Int} {tgt : Nat} (ha : a < 2 ^ 31) (h2 : b < 2 ^ 31) (hdg : decode cc pc = .ok (.if_icmp .lt off, 3)) (ht : (pc : Int) + off = (tgt : Int))
    (kt : a < b → W p l e R s m args below meth c H locs cells slots Q (F0 m tgt ls rest)) (kf : b ≤ a → W p l e R s m args below meth c H locs cells slots Q (F0 m (pc + 3) ls rest)) : W p l e R s m args below meth c H locs cells slots Q (F0 m pc ls (.int (nI b) :: .int (nI a) :: rest)) :=
  lv_icmp_lt hexec hb hdg ht (fun h => kt ((nI_ltI ha h2).mp h)) (fun h => kf (Nat.not_lt.mp fun q => h ((nI_ltI ha h2).mpr q)))
theorem gn_gt (hexec : p.tables.exec = Jvm.exec) (hb : c.code = cc) (a b : Nat) {off : Int} {tgt : Nat} (ha : a < 2 ^ 31) (h2 : b < 2 ^ 31) (hdg : decode cc pc = .ok (.if_icmp .gt off, 3)) (ht : (pc : Int) + off = (tgt : Int))
    (kt : b < a → W p l e R s m args below meth c H locs cells slots Q (F0 m tgt ls rest)) (kf : a ≤ b → W p l e R s m args below meth c H locs cells slots Q (F0 m (pc + 3) ls rest)) : W p l e R s m args below meth c H locs cells slots Q (F0 m pc ls (.int (nI b) :: .int (nI a) :: rest)) :=
  lv_icmp_gt hexec hb hdg ht (fun h => kt ((nI_ltI h2 ha).mp h)) (fun h => kf (Nat.not_lt.mp fun q => h ((nI_ltI h2 ha).mpr q)))
theorem gn_le (hexec : p.tables.exec = Jvm.exec) (hb : c.code = cc) (a b : Nat) {off : Int} {tgt : Nat} (ha : a < 2 ^ 31) (h2 : b < 2 ^ 31) (hdg : decode cc pc = .ok (.if_icmp .le off, 3)) (ht : (pc : Int) + off = (tgt : Int))
    (kt : a ≤ b → W p l e R s m args below meth c H locs cells slots Q (F0 m tgt ls rest)) (kf : b < a → W p l e R s m args below meth c H locs cells slots Q (F0 m (pc + 3) ls rest)) : W p l e R s m args below meth c H locs cells slots Q (F0 m pc ls (.int (nI b) :: .int (nI a) :: rest)) :=
  lv_icmp_le hexec hb hdg ht (fun h => kt ((nI_leI ha h2).mp h)) (fun h => kf (Nat.not_le.mp fun q => h ((nI_leI ha h2).mpr q)))
theorem gn_eq (hexec : p.tables.exec = Jvm.exec) (hb : c.code = cc) (a b : Nat) {off : Int} {tgt : Nat} (ha : a < 2 ^ 31) (h2 : b < 2 ^ 31) (hdg : decode cc pc = .ok (.if_icmp .eq off, 3)) (ht : (pc : Int) + off = (tgt : Int))
    (kt : a = b → W p l e R s m args below meth c H locs cells slots Q (F0 m tgt ls rest)) (kf : a ≠ b → W p l e R s m args below meth c H locs cells slots Q (F0 m (pc + 3) ls rest)) : W p l e R s m args below meth c H locs cells slots Q (F0 m pc ls (.int (nI b) :: .int (nI a) :: rest)) :=
  lv_icmp_eq hexec hb hdg ht (fun h => kt ((nI_eq ha h2).mp h)) (fun h => kf (fun q => h ((nI_eq ha h2).mpr q)))
theorem gn_ne (hexec : p.tables.exec = Jvm.exec) (hb : c.code = cc) (a b : Nat) {off : Int} {tgt : Nat} (ha : a < 2 ^ 31) (h2 : b < 2 ^ 31) (hdg : decode cc pc = .ok (.if_icmp .ne off, 3)) (ht : (pc : Int) + off = (tgt : Int))
    (kt : a ≠ b → W p l e R s m args below meth c H locs cells slots Q (F0 m tgt ls rest)) (kf : a = b → W p l e R s m args below meth c H locs cells slots Q (F0 m (pc + 3) ls rest)) : W p l e R s m args below meth c H locs cells slots Q (F0 m pc ls (.int (nI b) :: .int (nI a) :: rest)) :=
  lv_icmp_ne hexec hb hdg ht (fun h => kt (fun q => h ((nI_eq ha h2).mpr q))) (fun h => kf ((nI_eq ha h2).mp h))
theorem gn_eq0 (hexec : p.tables.exec = Jvm.exec) (hb : c.code = cc) (a : Nat) {off : Int} {tgt : Nat} (ha : a < 2 ^ 31) (hdg : decode cc pc = .ok (.ifCond .eq off, 3)) (ht : (pc : Int) + off = (tgt : Int))
    (kt : a = 0 → W p l e R s m args below meth c H locs cells slots Q (F0 m tgt ls rest)) (kf : a ≠ 0 → W p l e R s m args below meth c H locs cells slots Q (F0 m (pc + 3) ls rest)) : W p l e R s m args below meth c H locs cells slots Q (F0 m pc ls (.int (nI a) :: rest)) :=
  lv_if_eq hexec hb hdg ht (fun h => kt ((nI_eq ha (by decide)).mp (h.trans nI_0.symm))) (fun h => kf (fun q => h (by rw [q]; exact nI_0)))
theorem gn_ne0 (hexec : p.tables.exec = Jvm.exec) (hb : c.code = cc) (a : Nat) {off : Int} {tgt : Nat} (ha : a < 2 ^ 31) (hdg : decode cc pc = .ok (.ifCond .ne off, 3)) (ht : (pc : Int) + off = (tgt : Int))
    (kt : a ≠ 0 → W p l e R s m args below meth c H locs cells slots Q (F0 m tgt ls rest)) (kf : a = 0 → W p l e R s m args below meth c H locs cells slots Q (F0 m (pc + 3) ls rest)) : W p l e R s m args below meth c H locs cells slots Q (F0 m pc ls (.int (nI a) :: rest)) :=
  lv_if_ne hexec hb hdg ht (fun h => kt (fun q => h (by rw [q]; exact nI_0))) (fun h => kf ((nI_eq ha (by decide)).mp (h.trans nI_0.symm)))
theorem gn_le0 (hexec : p.tables.exec = Jvm.exec) (hb : c.code = cc) (a : Nat) {off : Int} {tgt : Nat} (ha : a < 2 ^ 31) (hdg : decode cc pc = .ok (.ifCond .le off, 3)) (ht : (pc : Int) + off = (tgt : Int))
    (kt : a = 0 → W p l e R s m args below meth c H locs cells slots Q (F0 m tgt ls rest)) (kf : 0 < a → W p l e R s m args below meth c H locs cells slots Q (F0 m (pc + 3) ls rest)) : W p l e R s m args below meth c H locs cells slots Q (F0 m pc ls (.int (nI a) :: rest)) :=
  lv_if_le hexec hb hdg ht (fun h => kt (Nat.le_zero.mp ((nI_leI ha (by decide)).mp (show nI a ≤ nI 0 from h)))) (fun h => kf (Nat.pos_of_ne_zero fun q => h (by rw [q]; exact (nI_leI (by decide) (by decide)).mpr (Nat.le_refl 0))))
theorem gn_gt0 (hexec : p.tables.exec = Jvm.exec) (hb : c.code = cc) (a : Nat) {off : Int} {tgt : Nat} (ha : a < 2 ^ 31) (hdg : decode cc pc = .ok (.ifCond .gt off, 3)) (ht : (pc : Int) + off = (tgt : Int))
    (kt : 0 < a → W p l e R s m args below meth c H locs cells slots Q (F0 m tgt ls rest)) (kf : a = 0 → W p l e R s m args below meth c H locs cells slots Q (F0 m (pc + 3) ls rest)) : W p l e R s m args below meth c H locs cells slots Q (F0 m pc ls (.int (nI a) :: rest)) :=
  lv_if_gt hexec hb hdg ht (fun h => kt ((nI_ltI (by decide) ha).mp (show nI 0 < nI a from h))) (fun h => kf (Nat.le_zero.mp (Nat.not_lt.mp fun q => h ((nI_ltI (by decide) ha).mpr q))))
end GR
end
section
/-! own rows, 2: cells one by one -/
def gX (p : Program) (m : MethodId) (c : Code) (cc : ByteArray) (nL : Nat) (s : State) (args : Array Value) (own : String) (Ts : List Cond) (D : va_G) (cl : List vw_C) (tys : List (ClassId × FieldType)) : Prop :=
  CallFix p m c cc nL s args Ts own ∧ va_K D cl tys s
def gk (Ts : List Cond) (cl : List vw_C) (ci : Nat) (C : String) (T : u_T) (N : Nat) (ty : Nat → FieldType) : Prop :=
  (∀ w ∈ u_ws C T N, w ∈ Ts) ∧ (∀ k, k < N → parseFieldDescriptor (T k).2.2.1 = some (ty k)) ∧ (∀ a, a < N → ∀ b, b < N → a ≠ b → (T a).2.1 ≠ (T b).2.1) ∧ cl[ci]? = some (C, T, N)
theorem g_P1 {D : va_G} {cl : List vw_C} {q : Nat × va_E} {H : Heap} (h : va_at D cl q H) : va_P D cl [q] H := by
  intro k x hx
  cases k with
  | zero => cases hx; exact h
  | succ k => simp at hx
section GH
variable {p : Program} {l : Launch} {e : Env} {R : Room} {s : State} {m : MethodId} {args : Array Value} {below : List Frame} {meth : Method} {c : Code} {H : Heap} {locs : List Loc} {cells slots : Nat} {Q : State → Prop}
variable {cc : ByteArray} {nL pc : Nat} {ls : Array Slot} {rest : List Value} {D : va_G} {cl : List vw_C} {A : Nat → Prop} {a : Nat} {tys : List (ClassId × FieldType)} {own C : String} {T : u_T} {N ci index : Nat} {Ts : List Cond} {ty : Nat → FieldType}
theorem g_get (X : gX p m c cc nL s args own Ts D cl tys) (K : gk Ts cl ci C T N ty) {fs : List Value} (h : va_at D cl (a, .inr (ci, fs)) H) (k : Nat) (hk : k < N) (hlink : Cond.fieldLink own index (T k).1 (T k).2.1 (T k).2.2.1 ∈ Ts) {v : Value} (hv : fs[k]? = some v) (hdg : decode cc pc = .ok (.getfield index, 3))
    (kk : W p l e R s m args below meth c H locs cells slots Q (F0 m (pc + 3) ls (v :: rest))) : W p l e R s m args below meth c H locs cells slots Q (F0 m pc ls (.ref a :: rest)) :=
  va_get X.1.1 X.1.2.1 X.1.2.2.2.2 K.1 X.1.2.2.2.1 X.2 (g_P1 h) 0 rfl K.2.2.2 k hk (X.1.2.2.2.2 _ hlink) (fun _ h9 => h9) hv hdg kk
theorem g_put (X : gX p m c cc nL s args own Ts D cl tys) (K : gk Ts cl ci C T N ty) {fs : List Value} (h : va_at D cl (a, .inr (ci, fs)) H) (k : Nat) (hk : k < N) (hlink : Cond.fieldLink own index (T k).1 (T k).2.1 (T k).2.2.1 ∈ Ts) (hfin : (T k).2.2.2 = false) {v : Value} (hn : narrow (ty k) v = v) (hfit : fits (ty k) v = true) (hl : k < fs.length) (hdg : decode cc pc = .ok (.putfield index, 3)) (hA : A a) (hL : ∀ x ∈ locs, A x.base)
    (kk : ∀ (H1 : Heap) (locs1 : List Loc), va_at D cl (a, .inr (ci, fs.set k v)) H1 → H1.size = H.size → (∀ q : Nat, q ≠ a → H1[q]? = H[q]?) → (∀ x ∈ locs1, A x.base) → W p l e R s m args below meth c H1 locs1 cells slots Q (F0 m (pc + 3) ls rest)) : W p l e R s m args below meth c H locs cells slots Q (F0 m pc ls (v :: .ref a :: rest)) := by
  obtain ⟨⟨hexec, hb, hml, hown, hts⟩, hK⟩ := X
  obtain ⟨hin, hty, hnm, hc⟩ := K
  have hap := va_apart (own := own) hts hin ty hty hnm hK hc
  obtain ⟨r, h1, cell, q1, q2, q3, q4⟩ := h
  have hr : r = (C, T, N) := Option.some.inj (h1.symm.trans hc)
  subst hr
  obtain ⟨hS, hfc, kC, hkC, hkind⟩ := hK.1 ci _ hc
  obtain ⟨cf, kf, fi, f, hi, hsl⟩ := hS k hk
  have hlay := hts _ (hin _ (u_in_lay hk))
  unfold u_lay at hlay
  rw [if_neg (by rw [hfin]; decide)] at hlay
  have hst := (u_facts hfc hkC (u_lays hts hin hk) hi).1
  have h6 := u_store hfc hkC hkind hlay hi (hty k hk) hn hfit
  refine W.putK hexec hb (f := f) ⟨hown, hts _ hlink, ⟨_, _, _, hi⟩, hst⟩ (by rw [q2]; exact h6) q1 q3 (by rw [hsl]; exact k2_hasslot (q4 k hk)) rfl rfl hdg fun H' e1 e2 e3 => ?_
  rw [hsl] at e1 ⊢
  exact kk H' _ ⟨_, hc, t_OB.to (V := updV (vp_V fs) k v) ⟨_, e1, q2, q3, t_set q4 hap hk v⟩ (fun j _ => vp_updV_set hl v j)⟩ e2 e3 (t_lc hL hA)
theorem g_putF (X : gX p m c cc nL s args own Ts D cl tys) (hname : meth.name = "<init>") (K : gk Ts cl ci C T N ty) {fs : List Value} (h : va_at D cl (a, .inr (ci, fs)) H) (k : Nat) (hk : k < N) (hlink : Cond.fieldLink own index (T k).1 (T k).2.1 (T k).2.2.1 ∈ Ts) (hfin : (T k).2.2.2 = true) (hdecl : (T k).1 = own) {v : Value} (hn : narrow (ty k) v = v) (hfit : fits (ty k) v = true) (hl : k < fs.length) (hdg : decode cc pc = .ok (.putfield index, 3)) (hA : A a) (hL : ∀ x ∈ locs, A x.base)
    (kk : ∀ (H1 : Heap) (locs1 : List Loc), va_at D cl (a, .inr (ci, fs.set k v)) H1 → H1.size = H.size → (∀ q : Nat, q ≠ a → H1[q]? = H[q]?) → (∀ x ∈ locs1, A x.base) → W p l e R s m args below meth c H1 locs1 cells slots Q (F0 m (pc + 3) ls rest)) : W p l e R s m args below meth c H locs cells slots Q (F0 m pc ls (v :: .ref a :: rest)) := by
  obtain ⟨⟨hexec, hb, hml, hown, hts⟩, hK⟩ := X
  obtain ⟨hin, hty, hnm, hc⟩ := K
  have hap := va_apart (own := own) hts hin ty hty hnm hK hc
  obtain ⟨r, h1, cell, q1, q2, q3, q4⟩ := h
  have hr : r = (C, T, N) := Option.some.inj (h1.symm.trans hc)
  subst hr
  obtain ⟨hS, hfc, kC, hkC, hkind⟩ := hK.1 ci _ hc
  obtain ⟨cf, kf, fi, f, hi, hsl⟩ := hS k hk
  have hlay := hts _ (hin _ (u_in_lay hk))
  unfold u_lay at hlay
  rw [if_pos hfin] at hlay
  have hst := (u_facts hfc hkC (u_lays hts hin hk) hi).1
  have hcf : m.cls = cf := by
    obtain ⟨_, _, c', _, _, _, -, -, hf', -, -, -, hown2, -⟩ := Cond.laysFinal_spec hlay
    have e1 : c' = cf := by have := hi.symm.trans hf'; simp at this; exact this.1.symm
    rw [hdecl] at hown2
    rw [← e1]; exact Option.some.inj (hown.symm.trans hown2)
  have h6 := u_fits hfc hkC hkind (Or.inr hlay) hi (hty k hk) hn hfit
  refine W.putFinK hexec hb hown (hts _ hlink) hi hst hcf hname (by rw [q2]; exact h6) q1 q3 (by rw [hsl]; exact k2_hasslot (q4 k hk)) rfl rfl hdg fun H' e1 e2 e3 => ?_
  rw [hsl] at e1 ⊢
  exact kk H' _ ⟨_, hc, t_OB.to (V := updV (vp_V fs) k v) ⟨_, e1, q2, q3, t_set q4 hap hk v⟩ (fun j _ => vp_updV_set hl v j)⟩ e2 e3 (t_lc hL hA)
theorem g_new (X : gX p m c cc nL s args own Ts D cl tys) (K : gk Ts cl ci C T N ty) (hcl : Cond.classLink own index C ∈ Ts) (hinst : Cond.instantiable C N ∈ Ts) (hini : Cond.initialized C ∈ Ts) {fs : List Value} (hfs : ∀ j, j < N → defaultValue (ty j) = vp_V fs j) (hcells : cells + 1 ≤ R.cells) (hslots : slots + N ≤ R.slots) (hdg : decode cc pc = .ok (.new index, 3))
    (kk : ∀ (H1 : Heap), va_at D cl (H.size, .inr (ci, fs)) H1 → H1.size = H.size + 1 → (∀ q : Nat, q < H.size → H1[q]? = H[q]?) → W p l e R s m args below meth c H1 locs (cells + 1) (slots + N) Q (F0 m (pc + 3) ls (.ref H.size :: rest))) : W p l e R s m args below meth c H locs cells slots Q (F0 m pc ls rest) := by
  obtain ⟨⟨hexec, hb, hml, hown, hts⟩, hK⟩ := X
  obtain ⟨hin, hty, hnm, hc⟩ := K
  have hKn := hK.1 ci _ hc
  refine W.newcK hexec hb hown (hts _ hcl) (hts _ hinst) (hts _ hini) rfl hdg hcells hslots hKn.2.1 rfl fun H1 kC hkC e1 z1 o1 => ?_
  exact kk H1 ⟨_, hc, (u_born ty hts hin hKn hkC e1 hty).to hfs⟩ z1 o1
/-! arrays -/
theorem g_iald (X : gX p m c cc nL s args own Ts D cl tys) (t0 : Nat) {cA : ClassId} {n : Nat} {f : Nat → Int32} (h : va_at D cl (a, .inl (cA, n, .inl f)) H) (ht : tys[t0]? = some (cA, .int)) (i : Nat) (hi : i < n) (hi2 : n < 2 ^ 31) (hdg : decode cc pc = .ok (.iaload, 1))
    (kk : W p l e R s m args below meth c H locs cells slots Q (F0 m (pc + 1) ls (.int (f i) :: rest))) : W p l e R s m args below meth c H locs cells slots Q (F0 m pc ls (.int (nI i) :: .ref a :: rest)) :=
  va_iald X.1.1 X.1.2.1 X.2 (g_P1 h) 0 t0 rfl ht (vp_in_nI hi hi2) hdg (by rw [nI_clamp (show i < 2 ^ 31 by omega)]; exact kk)
theorem g_zald (X : gX p m c cc nL s args own Ts D cl tys) (t0 : Nat) {cA : ClassId} {n : Nat} {f : Nat → Int32} (h : va_at D cl (a, .inl (cA, n, .inl f)) H) (ht : tys[t0]? = some (cA, .boolean)) (i : Nat) (hi : i < n) (hi2 : n < 2 ^ 31) (hdg : decode cc pc = .ok (.baload, 1))
    (kk : W p l e R s m args below meth c H locs cells slots Q (F0 m (pc + 1) ls (.int (f i) :: rest))) : W p l e R s m args below meth c H locs cells slots Q (F0 m pc ls (.int (nI i) :: .ref a :: rest)) :=
  va_zald X.1.1 X.1.2.1 X.2 (g_P1 h) 0 t0 rfl ht (vp_in_nI hi hi2) hdg (by rw [nI_clamp (show i < 2 ^ 31 by omega)]; exact kk)
theorem g_aald (X : gX p m c cc nL s args own Ts D cl tys) (t0 : Nat) {cA : ClassId} {Cq : String} {n : Nat} {f : Nat → Option Nat} (h : va_at D cl (a, .inl (cA, n, .inr (.inr (.inr (.inr f))))) H) (ht : tys[t0]? = some (cA, .object Cq)) (i : Nat) (hi : i < n) (hi2 : n < 2 ^ 31) {v : Value} (hv : va_rf (f i) = v) (hdg : decode cc pc = .ok (.aaload, 1))
    (kk : W p l e R s m args below meth c H locs cells slots Q (F0 m (pc + 1) ls (v :: rest))) : W p l e R s m args below meth c H locs cells slots Q (F0 m pc ls (.int (nI i) :: .ref a :: rest)) :=
  va_aldq X.1.1 X.1.2.1 X.2 (g_P1 h) 0 t0 rfl ht (vp_in_nI hi hi2) hdg (by rw [nI_clamp (show i < 2 ^ 31 by omega), hv]; exact kk)
theorem g_alen (X : gX p m c cc nL s args own Ts D cl tys) (t0 : Nat) {cA : ClassId} {x : vp_A} (h : va_at D cl (a, .inl (cA, x)) H) {tq : FieldType} (ht : tys[t0]? = some (cA, tq)) (hdg : decode cc pc = .ok (.arraylength, 1))
    (kk : W p l e R s m args below meth c H locs cells slots Q (F0 m (pc + 1) ls (.int (nI x.1) :: rest))) : W p l e R s m args below meth c H locs cells slots Q (F0 m pc ls (.ref a :: rest)) :=
  va_alen X.1.1 X.1.2.1 X.2 (g_P1 h) 0 t0 rfl ht rfl hdg kk
theorem g_iast (X : gX p m c cc nL s args own Ts D cl tys) (t0 : Nat) {cA : ClassId} {n : Nat} {f : Nat → Int32} (h : va_at D cl (a, .inl (cA, n, .inl f)) H) (ht : tys[t0]? = some (cA, .int)) (i : Nat) (hi : i < n) (hi2 : n < 2 ^ 31) {x : Int32} (hdg : decode cc pc = .ok (.iastore, 1)) (hA : A a) (hL : ∀ x ∈ locs, A x.base)
    (kk : ∀ (H1 : Heap) (locs1 : List Loc), va_at D cl (a, .inl (cA, n, .inl (upd f i x))) H1 → H1.size = H.size → (∀ q : Nat, q ≠ a → H1[q]? = H[q]?) → (∀ x ∈ locs1, A x.base) → W p l e R s m args below meth c H1 locs1 cells slots Q (F0 m (pc + 1) ls rest)) : W p l e R s m args below meth c H locs cells slots Q (F0 m pc ls (.int x :: .int (nI i) :: .ref a :: rest)) := by
  have hcl : (nI i).toNatClampNeg = i := nI_clamp (show i < 2 ^ 31 by omega)
  refine W.iast X.1.1 X.1.2.1 h ((X.2.2 t0 _ ht).1 n (fun j => .int (f j))) (fun q => by cases q) (by show ¬ (nI i < 0 ∨ (arrV _ _ _).slots.size ≤ _); rw [arrV_size]; exact vp_in_nI hi hi2) rfl rfl hdg fun H1 e1 z oq => ?_
  refine kk H1 _ ?_ z oq (t_lc hL hA)
  show H1[a]? = some (vp_cell _ _)
  rw [e1, hcl]
  rw [vp_cell_i, vp_cell_i, arrV_store]
  congr 2
  funext q
  by_cases hq : q = i
  · subst hq
    simp [updV, upd]
  · simp [updV, upd, hq]
theorem g_zast (X : gX p m c cc nL s args own Ts D cl tys) (t0 : Nat) {cA : ClassId} {n : Nat} {f : Nat → Int32} (h : va_at D cl (a, .inl (cA, n, .inl f)) H) (ht : tys[t0]? = some (cA, .boolean)) (i : Nat) (hi : i < n) (hi2 : n < 2 ^ 31) {x : Int32} (hx : narrow .boolean (.int x) = .int x) (hdg : decode cc pc = .ok (.bastore, 1)) (hA : A a) (hL : ∀ x ∈ locs, A x.base)
    (kk : ∀ (H1 : Heap) (locs1 : List Loc), va_at D cl (a, .inl (cA, n, .inl (upd f i x))) H1 → H1.size = H.size → (∀ q : Nat, q ≠ a → H1[q]? = H[q]?) → (∀ x ∈ locs1, A x.base) → W p l e R s m args below meth c H1 locs1 cells slots Q (F0 m (pc + 1) ls rest)) : W p l e R s m args below meth c H locs cells slots Q (F0 m pc ls (.int x :: .int (nI i) :: .ref a :: rest)) := by
  have hcl : (nI i).toNatClampNeg = i := nI_clamp (show i < 2 ^ 31 by omega)
  refine W.zast X.1.1 X.1.2.1 h ((X.2.2 t0 _ ht).1 n (fun j => .int (f j))) (fun q => by cases q) (by show ¬ (nI i < 0 ∨ (arrV _ _ _).slots.size ≤ _); rw [arrV_size]; exact vp_in_nI hi hi2) rfl rfl hdg fun H1 e1 z oq => ?_
  refine kk H1 _ ?_ z oq (t_lc hL hA)
  show H1[a]? = some (vp_cell _ _)
  rw [e1, hcl, hx]
  rw [vp_cell_i, vp_cell_i, arrV_store]
  congr 2
  funext q
  by_cases hq : q = i
  · subst hq
    simp [updV, upd]
  · simp [updV, upd, hq]
theorem g_aast (X : gX p m c cc nL s args own Ts D cl tys) (t0 : Nat) (K : gk Ts cl ci C T N ty) {cA : ClassId} {n v : Nat} {vs : List Value} {f : Nat → Option Nat} (h : va_at D cl (a, .inl (cA, n, .inr (.inr (.inr (.inr f))))) H) (ht : tys[t0]? = some (cA, .object C)) (hv : va_at D cl (v, .inr (ci, vs)) H) (i : Nat) (hi : i < n) (hi2 : n < 2 ^ 31) (hdg : decode cc pc = .ok (.aastore, 1)) (hA : A a) (hL : ∀ x ∈ locs, A x.base)
    (kk : ∀ (H1 : Heap) (locs1 : List Loc), va_at D cl (a, .inl (cA, n, .inr (.inr (.inr (.inr (va_up f i (some v))))))) H1 → H1.size = H.size → (∀ q : Nat, q ≠ a → H1[q]? = H[q]?) → (∀ x ∈ locs1, A x.base) → W p l e R s m args below meth c H1 locs1 cells slots Q (F0 m (pc + 1) ls rest)) : W p l e R s m args below meth c H locs cells slots Q (F0 m pc ls (.ref v :: .int (nI i) :: .ref a :: rest)) := by
  have hcl : (nI i).toNatClampNeg = i := nI_clamp (show i < 2 ^ 31 by omega)
  have hK := X.2
  obtain ⟨r', hr', cellV, g1, g2, g3, -⟩ := hv
  have hcls := (hK.1 ci _ K.2.2.2).2
  obtain ⟨kA, comp, k1, k2, k3, -⟩ := (hK.2 t0 _ ht).2
  have hcomp : comp = D.1 ci := Option.some.inj (k3.symm.trans hcls.1)
  subst hcomp
  obtain ⟨kC, hkC, -⟩ := hcls.2
  refine W.aast X.1.1 X.1.2.1 h (fun q h => by cases h) (fun h => by cases h) k1 k2 rfl hkC ⟨nI_pos (show i < 2 ^ 31 by omega), by show _ < (arrV _ _ _).slots.size; rw [arrV_size, hcl]; exact hi⟩ g1 (fun q h => by rw [g3] at h; cases h) (by rw [g2]; exact hkC) (by rw [g2]; exact va_assign hcls) rfl rfl hdg fun H1 e1 z oq => ?_
  refine kk H1 _ ?_ z oq (t_lc hL hA)
  show H1[a]? = some (vp_cell _ _)
  rw [e1, hcl]
  rw [vp_cell_q, vp_cell_q, arrV_store]
  congr 2
  funext q
  by_cases hq : q = i
  · subst hq
    simp [updV, va_up, va_rf]
  · simp [updV, va_up, hq]
theorem g_newi (X : gX p m c cc nL s args own Ts D cl tys) (t0 : Nat) {cA : ClassId} (ht : tys[t0]? = some (cA, .int)) (harr : Cond.arrayClass .int ∈ Ts) (n : Nat) (hn : n < 65536) (hcells : cells + 1 ≤ R.cells) (hslots : slots + n ≤ R.slots) (hdg : decode cc pc = .ok (.newarray .int, 2))
    (kk : ∀ (H1 : Heap), va_at D cl (H.size, .inl (cA, n, .inl (fun _ => 0))) H1 → H1.size = H.size + 1 → (∀ q : Nat, q < H.size → H1[q]? = H[q]?) → W p l e R s m args below meth c H1 locs (cells + 1) (slots + n) Q (F0 m (pc + 2) ls (.ref H.size :: rest))) : W p l e R s m args below meth c H locs cells slots Q (F0 m pc ls (.int (nI n) :: rest)) := by
  refine va_newaK (atype := .int) X.1.1 X.1.2.1 (X.1.2.2.2.2 _ harr) rfl hdg rfl (nI_pos (by omega)) (nI_clamp (show n < 2 ^ 31 by omega)) (show n * 4 ≤ 536870912 by omega) hcells hslots rfl fun H1 cA' e1 z1 o1 hAr hNm => ?_
  have e2 : cA' = cA := Option.some.inj (hNm.symm.trans (X.2.2 t0 _ ht).2)
  subst e2
  exact kk H1 e1 z1 o1
theorem g_newz (X : gX p m c cc nL s args own Ts D cl tys) (t0 : Nat) {cA : ClassId} (ht : tys[t0]? = some (cA, .boolean)) (harr : Cond.arrayClass .boolean ∈ Ts) (n : Nat) (hn : n < 65536) (hcells : cells + 1 ≤ R.cells) (hslots : slots + n ≤ R.slots) (hdg : decode cc pc = .ok (.newarray .boolean, 2))
    (kk : ∀ (H1 : Heap), va_at D cl (H.size, .inl (cA, n, .inl (fun _ => 0))) H1 → H1.size = H.size + 1 → (∀ q : Nat, q < H.size → H1[q]? = H[q]?) → W p l e R s m args below meth c H1 locs (cells + 1) (slots + n) Q (F0 m (pc + 2) ls (.ref H.size :: rest))) : W p l e R s m args below meth c H locs cells slots Q (F0 m pc ls (.int (nI n) :: rest)) := by
  refine va_newaK (atype := .boolean) X.1.1 X.1.2.1 (X.1.2.2.2.2 _ harr) rfl hdg rfl (nI_pos (by omega)) (nI_clamp (show n < 2 ^ 31 by omega)) (show n * 1 ≤ 536870912 by omega) hcells hslots rfl fun H1 cA' e1 z1 o1 hAr hNm => ?_
  have e2 : cA' = cA := Option.some.inj (hNm.symm.trans (X.2.2 t0 _ ht).2)
  subst e2
  exact kk H1 e1 z1 o1
theorem g_newq (X : gX p m c cc nL s args own Ts D cl tys) (t0 : Nat) {cA : ClassId} {Cq : String} (ht : tys[t0]? = some (cA, .object Cq)) (hcl : Cond.classLink own index Cq ∈ Ts) (hover : va_AO Cq s) (n : Nat) (hn : n < 65536) (hcells : cells + 1 ≤ R.cells) (hslots : slots + n ≤ R.slots) (hdg : decode cc pc = .ok (.anewarray index, 3))
    (kk : ∀ (H1 : Heap), va_at D cl (H.size, .inl (cA, n, .inr (.inr (.inr (.inr (fun _ => none)))))) H1 → H1.size = H.size + 1 → (∀ q : Nat, q < H.size → H1[q]? = H[q]?) → W p l e R s m args below meth c H1 locs (cells + 1) (slots + n) Q (F0 m (pc + 3) ls (.ref H.size :: rest))) : W p l e R s m args below meth c H locs cells slots Q (F0 m pc ls (.int (nI n) :: rest)) := by
  have hcn : (nI n).toNatClampNeg = n := nI_clamp (show n < 2 ^ 31 by omega)
  refine W.anew X.1.1 X.1.2.1 X.1.2.2.2.1 (X.1.2.2.2.2 _ hcl) (va_AO.use hover) rfl hdg rfl (nI_pos (by omega)) (by rw [hcn]; omega) hcells (by rw [hcn]; exact hslots) fun cA' kA comp f1 f2 f3 f4 => ?_
  obtain ⟨kA2, comp2, -, -, -, f5⟩ := (X.2.2 t0 _ ht).2
  have e2 : cA' = cA := Option.some.inj (f1.symm.trans f5)
  subst e2
  rw [hcn]
  refine kk _ ?_ (by rw [Array.size_push]) (fun q hq => by rw [Array.getElem?_push, if_neg (Nat.ne_of_lt hq)])
  show (H.push _)[H.size]? = some (vp_cell _ _)
  rw [Array.getElem?_push_size, vp_cell_q, ← arrV_new]
  rfl
theorem g_copyi (X : gX p m c cc nL s args own Ts D cl tys) (hls : ls.size = nL) (hlink : Cond.methodLink own index arraycopyName ∈ Ts) (hnat : Cond.native arraycopyName ∈ Ts) (hstat : Cond.static arraycopyName ∈ Ts) (hini : Cond.initialized "java/lang/System" ∈ Ts)
    (t0 : Nat) {a0 : Nat} {cA : ClassId} {n0 n1 : Nat} {f g : Nat → Int32} (h0 : va_at D cl (a0, .inl (cA, n0, .inl f)) H) (h1 : va_at D cl (a, .inl (cA, n1, .inl g)) H) (ht : tys[t0]? = some (cA, .int)) (sp dp n : Nat) (hs : sp + n ≤ n0) (hd : dp + n ≤ n1) (hn0 : n0 < 2 ^ 31) (hn1 : n1 < 2 ^ 31)
    (hframes : 1 ≤ R.frames) (hlocals : (rest.map fun v => v.category).sum + 18 ≤ R.locals) (hdg : decode cc pc = .ok (.invokestatic index, 3)) (hA : A a) (hL : ∀ x ∈ locs, A x.base)
    (kk : ∀ (H1 : Heap) (locs1 : List Loc), va_at D cl (a, .inl (cA, n1, .inl (va_cpy f g sp dp n))) H1 → H1.size = H.size → (∀ q : Nat, q ≠ a → H1[q]? = H[q]?) → (∀ x ∈ locs1, A x.base) → W p l e R s m args below meth c H1 locs1 cells slots Q (F0 m (pc + 3) ls rest)) : W p l e R s m args below meth c H locs cells slots Q (F0 m pc ls (.int (nI n) :: .int (nI dp) :: .ref a :: .int (nI sp) :: .ref a0 :: rest)) := by
  obtain ⟨⟨hexec, hb, hml, hown, hts⟩, hK⟩ := X
  intro T hT X
  have hc0 : H[a0]? = some (vp_cell cA (n0, .inl f)) := h0
  have hc1 : H[a]? = some (vp_cell cA (n1, .inl g)) := h1
  have es : (nI sp).toNatClampNeg = sp := nI_clamp (by omega)
  have ed : (nI dp).toNatClampNeg = dp := nI_clamp (by omega)
  have en : (nI n).toNatClampNeg = n := nI_clamp (by omega)
  have is : (nI sp).toInt = (sp : Int) := nI_toInt (by omega)
  have id : (nI dp).toInt = (dp : Int) := nI_toInt (by omega)
  have in' : (nI n).toInt = (n : Int) := nI_toInt (by omega)
  obtain ⟨-, k0, hk0, cm0, hkk0⟩ := (hK.2 t0 _ ht).1 n0 (fun j => .int (f j))
  obtain ⟨-, k1, hk1, cm1, hkk1⟩ := (hK.2 t0 _ ht).1 n1 (fun j => .int (g j))
  obtain ⟨vm', X', step⟩ := X.arraycopy hexec hown (hts _ hlink) (hts _ hnat) (hts _ hstat) (hts _ hini) (src := a0) (dst := a) (cs := vp_cell cA (n0, .inl f)) (cd := vp_cell cA (n1, .inl g)) (srcPos := nI sp) (destPos := nI dp) (n := nI n) (by rw [hT]; exact hc0) (by rw [hT]; exact hc1)
    (fun _ h => by cases h) (fun _ h => by cases h) (fun h => by cases h) (fun h => by cases h) hk0 hk1 hkk0 hkk1 (by simp [refKind]) (nI_pos (by omega)) (nI_pos (by omega)) (nI_pos (by omega))
    (by rw [is, in']; show ¬ _ > ((arrV cA n0 (fun j => .int (f j))).slots.size : Int); rw [arrV_size]; omega)
    (by rw [id, in']; show ¬ _ > ((arrV cA n1 (fun j => .int (g j))).slots.size : Int); rw [arrV_size]; omega)
    (fun vm₁ _ i hi => by
      rw [en] at hi
      have e : (vp_cell cA (n0, .inl f)).slots.getD ((nI sp).toNatClampNeg + i) .null = .int (f (sp + i)) := by
        rw [es]
        show (arrV cA n0 (fun j => .int (f j))).slots.getD _ _ = _
        rw [Array.getD_eq_getD_getElem?, arrV_read _ _ (by omega)]
        rfl
      refine ⟨?_, ?_⟩
      · rw [e]
        rfl
      · rw [e]
        exact trivial)
    (g := F0 m pc ls (.int (nI n) :: .int (nI dp) :: .ref a :: .int (nI sp) :: .ref a0 :: rest)) rfl (by rw [hml]; exact hls) (rest := rest) rfl (by rw [hb]; exact hdg) hframes (by show 2 * 0 + _ + 18 ≤ _; omega)
  have e1 : copied (vp_cell cA (n0, .inl f)) (vp_cell cA (n1, .inl g)) (nI sp) (nI dp) (nI n) = vp_cell cA (n1, .inl (va_cpy f g sp dp n)) := by
    have h : copied (vp_cell cA (n0, .inl f)) (vp_cell cA (n1, .inl g)) (nI sp) (nI dp) (nI n) = vp_cell cA (n1, .inl (va_cpy f g (nI sp).toNatClampNeg (nI dp).toNatClampNeg (nI n).toNatClampNeg)) :=
      va_copied (sp := (nI sp).toNatClampNeg) (dp := (nI dp).toNatClampNeg) (n := (nI n).toNatClampNeg) (n0 := n0) (n1 := n1) (fun z => Value.int z) cA cA f g (by rw [es, en]; exact hs)
    rw [es, ed, en] at h
    exact h
  rw [e1] at X' step
  have hl : a < H.size := (Array.getElem?_eq_some_iff.mp hc1).1
  have hheap : ((T.setVm vm').setCell a (vp_cell cA (n1, .inl (va_cpy f g sp dp n)))).heap = H.setIfInBounds a (vp_cell cA (n1, .inl (va_cpy f g sp dp n))) := by rw [← hT]; rfl
  obtain ⟨t, a1, b1⟩ := kk _ _ (show (H.setIfInBounds a _)[a]? = some _ by simp [Array.getElem?_setIfInBounds, hl]) (by simp) (fun q hq => by simp [Array.getElem?_setIfInBounds, Ne.symm hq]) (fun q hq => by
      rcases List.mem_append.mp hq with h | h
      · exact hL q h
      · obtain ⟨z, -, hz⟩ := List.mem_map.mp h
        rw [← hz]
        exact hA) _ hheap X'
  exact ⟨t, step t a1, b1⟩
end GH
end
section
/-! own rows, 3: contracts over a given heap, and calls -/
def gC (l : Launch) (y : MethodName) (ws : List Cond) (rm : Room) (D : va_G) (cl : List vw_C) (tys : List (ClassId × FieldType)) (E : State → Prop) (vs : List Value) (H0 : Heap) (Post : Option Value → Heap → Prop) (mc ms : Nat) (A : Nat → Prop) : Prop :=
  Met l y ws rm (va_Pc vs (fun U => U.heap = H0 ∧ va_K D cl tys U ∧ E U)) (fun _ _ oc t => ∃ v, oc = .returned v ∧ Post v t.heap) mc ms A
def gQ (below : List Frame) (args : Array Value) (s : State) (Post : Option Value → Heap → Prop) (mc ms : Nat) (A : Nat → Prop) : State → Prop :=
  MQ below (fun _ _ oc t => ∃ v, oc = .returned v ∧ Post v t.heap) args s mc ms A
/-- what a walk leans on beside its cells -/
def gB (meth : Method) (ret : Option FieldType) (name : String) : Prop := meth.sig.returnType = ret ∧ meth.locks = false ∧ meth.name = name
/-- facts that don't look at the frames -/
def gBlind (E : State → Prop) : Prop := ∀ (U : State) (g : JFrame) (mk : MethodId) (a : Array Value), E U → E (U.calling g mk a)
theorem gBlind.tt : gBlind (fun _ => True) := fun _ _ _ _ h => h
theorem gC.ofW {l : Launch} {y : MethodName} {Ts : List Cond} {rm : Room} {D : va_G} {cl : List vw_C} {tys : List (ClassId × FieldType)} {E : State → Prop} {vs : List Value} {H0 : Heap} {Post : Option Value → Heap → Prop} {mc ms : Nat} {A : Nat → Prop} {cc : ByteArray} {maxL : Nat} {ret : Option FieldType} (own name : String)
    (hy : plainName y.cls = true) (hyo : y.cls = own) (hyn : y.name = name)
    (body : ∀ p e s m below meth c, l.admits e → gX p m c cc maxL s vs.toArray own Ts D cl tys → E s → s.heap = H0 → gB meth ret name → c.exceptionTable.isEmpty = true →
      W p l e rm s m vs.toArray below meth c H0 [] 0 0 (gQ below vs.toArray s Post mc ms A) (entryFrame m vs.toArray maxL)) : gC l y (Cond.code y cc maxL ret :: Ts) rm D cl tys E vs H0 Post mc ms A := by
  refine Met.ofW (cc := cc) (maxL := maxL) (ret := ret) hy rfl ?_
  intro p e s m args below meth c s₁ B hml hv
  obtain ⟨rfl, hH, hK, hE⟩ := hv
  have hts := atoms_spec (ws := Cond.code y cc maxL ret :: Ts) B.pre
  have hown : s.vm.findClass y.cls = some m.cls := findClass_of_methodNamed B.named
  have hnm := (name_of_methodNamed B.named B.method).1
  have h := body p e s m below meth c B.admits ⟨⟨B.exec, B.bytes, hml, by rw [← hyo]; exact hown, fun w hw => hts w (List.mem_cons_of_mem _ hw)⟩, hK⟩ hE hH ⟨B.returns, B.notSynchronized, hnm.trans hyn⟩ (B.noHandlers (hts _ List.mem_cons_self))
  rw [← hH] at h
  exact h
section GCR
variable {p : Program} {l : Launch} {e : Env} {R : Room} {s : State} {m : MethodId} {args : Array Value} {below : List Frame} {meth : Method} {c : Code} {H : Heap} {locs : List Loc} {cells slots : Nat} {Q : State → Prop}
variable {cc : ByteArray} {nL pc : Nat} {ls : Array Slot} {rest : List Value} {D : va_G} {cl : List vw_C} {A A1 : Nat → Prop} {a : Nat} {tys : List (ClassId × FieldType)} {own C : String} {T : u_T} {N ci index : Nat} {Ts : List Cond} {ty : Nat → FieldType} {Post Post' : Option Value → Heap → Prop} {mc ms : Nat} {name : String} {E : State → Prop}
theorem g_iret (X : gX p m c cc nL s args own Ts D cl tys) (B : gB meth (some .int) name) {v : Int32} (hP : Post (some (.int v)) H) (hL : ∀ x ∈ locs, A x.base) (hdg : decode cc pc = .ok (.ireturn, 1)) (hc : cells ≤ mc) (hs : slots ≤ ms) : W p l e R s m args below meth c H locs cells slots (gQ below args s Post mc ms A) (F0 m pc ls [.int v]) :=
  W.widen hc hs (W.iret X.1.1 X.1.2.1 B.1 (fun t ht _ => ⟨_, rfl, by rw [ht]; exact hP⟩) hL hdg B.2.1)
theorem g_zret (X : gX p m c cc nL s args own Ts D cl tys) (B : gB meth (some .boolean) name) {v : Int32} (hv : narrow .boolean (.int v) = .int v) (hP : Post (some (.int v)) H) (hL : ∀ x ∈ locs, A x.base) (hdg : decode cc pc = .ok (.ireturn, 1)) (hc : cells ≤ mc) (hs : slots ≤ ms) : W p l e R s m args below meth c H locs cells slots (gQ below args s Post mc ms A) (F0 m pc ls [.int v]) :=
  W.widen hc hs (W.zret X.1.1 X.1.2.1 B.1 hv (fun t ht _ => ⟨_, rfl, by rw [ht]; exact hP⟩) hL hdg B.2.1)
theorem g_vret (X : gX p m c cc nL s args own Ts D cl tys) (B : gB meth none name) (hP : Post none H) (hL : ∀ x ∈ locs, A x.base) (hdg : decode cc pc = .ok (.return_, 1)) (hc : cells ≤ mc) (hs : slots ≤ ms) : W p l e R s m args below meth c H locs cells slots (gQ below args s Post mc ms A) (F0 m pc ls []) :=
  W.widen hc hs (W.vret X.1.1 X.1.2.1 B.1 (fun t ht _ => ⟨_, rfl, by rw [ht]; exact hP⟩) hL hdg B.2.1)
theorem g_aret (X : gX p m c cc nL s args own Ts D cl tys) {rt : String} (B : gB meth (some (.object rt)) name) {v : Nat} (hP : Post (some (.ref v)) H) (hL : ∀ x ∈ locs, A x.base) (hdg : decode cc pc = .ok (.areturn, 1)) (hc : cells ≤ mc) (hs : slots ≤ ms) : W p l e R s m args below meth c H locs cells slots (gQ below args s Post mc ms A) (F0 m pc ls [.ref v]) :=
  W.widen hc hs (W.aret X.1.1 X.1.2.1 B.1 (Or.inl ⟨_, rfl⟩) (Or.inr ⟨_, rfl⟩) (fun t ht _ => ⟨_, rfl, by rw [ht]; exact hP⟩) hL hdg B.2.1)
theorem g_run {st : List Value} (hr : va_Run p l e R s m args below meth c H locs cells slots mc ms (F0 m pc ls st) rest (fun _ oc t => ∃ v, oc = .returned v ∧ Post' v t.heap) A1) (hA : ∀ q, A1 q → A q) (hL : ∀ x ∈ locs, A x.base)
    (kk : ∀ (v : Option Value) (H1 : Heap) (locs1 : List Loc), Post' v H1 → (∀ x ∈ locs1, A x.base) → W p l e R s m args below meth c H1 locs1 (cells + mc) (slots + ms) Q (F0 m (pc + 3) ls (v.toList ++ rest))) : W p l e R s m args below meth c H locs cells slots Q (F0 m pc ls st) := by
  intro T hT X
  obtain ⟨v, st₀, t, T', L, h0, X', hL', e1, e2, ⟨v', hv, hp⟩, st'⟩ := hr T hT X
  cases hv
  obtain ⟨t2, a1, b1⟩ := kk v T'.heap (locs ++ L) (by rw [e1]; exact hp) (fun x hx => by
    rcases List.mem_append.mp hx with h | h
    · exact hL x h
    · exact hA _ (hL' x h)) T' rfl X'
  exact ⟨t2, st' t2 a1, b1⟩
theorem g_pre {As : List Value} (hK : va_K D cl tys s) (hE : ∀ U : State, U.heap = H → s.WarmedH U.vm → E U) (hEb : gBlind E) : PreS s H (va_Pc As (fun U => U.heap = H ∧ va_K D cl tys U ∧ E U)) As :=
  ⟨fun a U g mk q => ⟨q.1, q.2.1, va_K.moved (u := U) (U := U.calling g mk a) (Vm.Alike.refl U.vm) q.2.2.1, hEb _ _ _ _ q.2.2.2⟩, fun U hU hW => ⟨rfl, hU, va_K.moved hW.alike hK, hE U hU hW⟩⟩
def gGood (Ts : List Cond) : Prop := ∀ w ∈ Ts, ((w.onTables && w.keeps) = true ∨ ∃ ty, w = .arrayClass ty)
def gGoodB (w : Cond) : Bool := (w.onTables && w.keeps) || (match w with | .arrayClass _ => true | _ => false)
theorem gGood_one {w : Cond} (h1 : gGoodB w = true) : (w.onTables && w.keeps) = true ∨ ∃ ty, w = .arrayClass ty := by
  unfold gGoodB at h1
  rcases Bool.or_eq_true_iff.mp h1 with h2 | h2
  · exact Or.inl h2
  · refine Or.inr ?_
    cases w <;> first | exact ⟨_, rfl⟩ | cases h2
theorem gGood.in {Ts ws : List Cond} (h : gGood Ts) (hw : ∀ w ∈ ws, w ∈ Ts) : GoodIn Ts ws := fun w h1 => ⟨hw w h1, h w (hw w h1)⟩
/-- the words of a call of an instance method, of a constructor, of a static method -/
def gwV (Ts : List Cond) (own : String) (index : Nat) (y : MethodName) (bytes : ByteArray) (maxL : Nat) (ret : Option FieldType) (n : Nat) : Prop :=
  (∀ w ∈ wsV own index y.cls y [Cond.code y bytes maxL ret], w ∈ Ts) ∧ (y.cls ≠ "java/lang/invoke/MethodHandle" ∧ y.cls ≠ "java/lang/invoke/VarHandle" ∧ (parseMethodDescriptor y.desc).map (fun d => d.parameters.length) = some n)
def gwI (Ts : List Cond) (own : String) (index : Nat) (y : MethodName) (bytes : ByteArray) (maxL : Nat) (n : Nat) : Prop :=
  (∀ w ∈ ([.methodLink own index y, .instanceMethod y, .initialized y.cls, .code y bytes maxL none] : List Cond), w ∈ Ts) ∧ y.name = "<init>" ∧ (y.cls ≠ "java/lang/invoke/MethodHandle" ∧ y.cls ≠ "java/lang/invoke/VarHandle" ∧ (parseMethodDescriptor y.desc).map (fun d => d.parameters.length) = some n)
def gwS (Ts : List Cond) (own : String) (index : Nat) (y : MethodName) (bytes : ByteArray) (maxL : Nat) (ret : Option FieldType) (n : Nat) : Prop :=
  (∀ w ∈ wsS own index y [Cond.code y bytes maxL ret], w ∈ Ts) ∧ (y.cls = own ∧ y.cls ≠ "java/lang/invoke/MethodHandle" ∧ y.cls ≠ "java/lang/invoke/VarHandle" ∧ (parseMethodDescriptor y.desc).map (fun d => d.parameters.length) = some n)
variable {y : MethodName} {bytes : ByteArray} {maxL n : Nat} {ret : Option FieldType} {rm : Room} {b : Nat} {fs As st : List Value}
theorem g_cv (X : gX p m c cc nL s args own Ts D cl tys) (hG : gGood Ts) (w : gwV Ts own index y bytes maxL ret n) (K : gk Ts cl ci y.cls T N ty) (hrec : va_at D cl (b, .inr (ci, fs)) H)
    (hM : gC l y (Cond.code y bytes maxL ret :: Ts) rm D cl tys E (.ref b :: As) H Post' mc ms A1) (hE : ∀ U : State, U.heap = H → s.WarmedH U.vm → E U) (hEb : gBlind E)
    (hn : As.length = n) (hst : st = As.reverse ++ .ref b :: rest) (hls : ls.size = nL) (hW : (rest.map fun v => v.category).sum ≤ 8) (hrc : rm.cells = mc) (hrs : rm.slots = ms) (hR : rm.frames + 1 ≤ R.frames ∧ 8 + (maxL + 11) + rm.locals ≤ R.locals) (hf : cells + mc ≤ R.cells ∧ slots + ms ≤ R.slots)
    (hdg : decode cc pc = .ok (.invokevirtual index, 3)) (hA : ∀ q, A1 q → A q) (hL : ∀ x ∈ locs, A x.base)
    (kk : ∀ (v : Option Value) (H1 : Heap) (locs1 : List Loc), Post' v H1 → (∀ x ∈ locs1, A x.base) → W p l e R s m args below meth c H1 locs1 (cells + mc) (slots + ms) Q (F0 m (pc + 3) ls (v.toList ++ rest))) : W p l e R s m args below meth c H locs cells slots Q (F0 m pc ls st) := by
  have hin : ∀ w' ∈ wsV own index y.cls y (Cond.code y bytes maxL ret :: Ts), w' ∈ Ts := by
    intro w' hw'
    unfold wsV at hw'
    rcases List.mem_append.mp hw' with h | h
    · exact w.1 w' (by unfold wsV; exact List.mem_append_left _ h)
    · rcases List.mem_cons.mp h with h | h
      · exact w.1 w' (by unfold wsV; rw [h]; exact List.mem_append_right _ (List.mem_singleton.mpr rfl))
      · exact h
  have cw := cwV (R := R) (C := y.cls) (rm := rm) (mc := mc) (ms := ms) n X.1.2.2.2.2 (hG.in hin) rfl hrc hrs ⟨rfl, w.2⟩ hR
  have hp := g_pre (As := .ref b :: As) X.2 hE hEb
  refine g_run (va_runV (As := As) (b := b) (rest := rest) X.1 hM cw ⟨hp.1, va_recv X.2 (g_P1 hrec) K.2.2.2 (q0 := 0) rfl, hp.2⟩ rfl hn hls hst (lv_room hW) hdg hf) hA hL kk
theorem g_ci (X : gX p m c cc nL s args own Ts D cl tys) (hG : gGood Ts) (w : gwI Ts own index y bytes maxL n)
    (hM : gC l y (Cond.code y bytes maxL none :: Ts) rm D cl tys E (.ref b :: As) H Post' mc ms A1) (hE : ∀ U : State, U.heap = H → s.WarmedH U.vm → E U) (hEb : gBlind E)
    (hn : As.length = n) (hst : st = As.reverse ++ .ref b :: rest) (hls : ls.size = nL) (hW : (rest.map fun v => v.category).sum ≤ 8) (hrc : rm.cells = mc) (hrs : rm.slots = ms) (hR : rm.frames + 1 ≤ R.frames ∧ 8 + (maxL + 11) + rm.locals ≤ R.locals) (hf : cells + mc ≤ R.cells ∧ slots + ms ≤ R.slots)
    (hdg : decode cc pc = .ok (.invokespecial index, 3)) (hA : ∀ q, A1 q → A q) (hL : ∀ x ∈ locs, A x.base)
    (kk : ∀ (v : Option Value) (H1 : Heap) (locs1 : List Loc), Post' v H1 → (∀ x ∈ locs1, A x.base) → W p l e R s m args below meth c H1 locs1 (cells + mc) (slots + ms) Q (F0 m (pc + 3) ls (v.toList ++ rest))) : W p l e R s m args below meth c H locs cells slots Q (F0 m pc ls st) := by
  have hin : ∀ w' ∈ (Cond.code y bytes maxL none :: Ts), w' ∈ Ts := by
    intro w' hw'
    rcases List.mem_cons.mp hw' with h | h
    · rw [h]; exact w.1 _ (by simp)
    · exact h
  have cw := cwI (R := R) (rm := rm) (mc := mc) (ms := ms) n X.1.2.2.2.2 (hG.in hin) rfl hrc hrs (X.1.2.2.2.2 _ (w.1 _ (by simp))) (X.1.2.2.2.2 _ (w.1 (.methodLink own index y) (by simp))) (X.1.2.2.2.2 _ (w.1 _ (by simp))) w.2.1 w.2.2 hR
  exact g_run (va_runI (As := As) (b := b) (rest := rest) X.1 hM cw (g_pre (As := .ref b :: As) X.2 hE hEb) rfl hn hls hst (lv_room hW) hdg hf) hA hL kk
theorem g_cs (X : gX p m c cc nL s args own Ts D cl tys) (hG : gGood Ts) (w : gwS Ts own index y bytes maxL ret n)
    (hM : gC l y (Cond.code y bytes maxL ret :: Ts) rm D cl tys E As H Post' mc ms A1) (hE : ∀ U : State, U.heap = H → s.WarmedH U.vm → E U) (hEb : gBlind E)
    (hn : As.length = n) (hst : st = As.reverse ++ rest) (hls : ls.size = nL) (hW : (rest.map fun v => v.category).sum ≤ 8) (hrc : rm.cells = mc) (hrs : rm.slots = ms) (hR : rm.frames + 1 ≤ R.frames ∧ 8 + (maxL + 11) + rm.locals ≤ R.locals) (hf : cells + mc ≤ R.cells ∧ slots + ms ≤ R.slots)
    (hdg : decode cc pc = .ok (.invokestatic index, 3)) (hA : ∀ q, A1 q → A q) (hL : ∀ x ∈ locs, A x.base)
    (kk : ∀ (v : Option Value) (H1 : Heap) (locs1 : List Loc), Post' v H1 → (∀ x ∈ locs1, A x.base) → W p l e R s m args below meth c H1 locs1 (cells + mc) (slots + ms) Q (F0 m (pc + 3) ls (v.toList ++ rest))) : W p l e R s m args below meth c H locs cells slots Q (F0 m pc ls st) := by
  have hin : ∀ w' ∈ wsS own index y (Cond.code y bytes maxL ret :: Ts), w' ∈ Ts := by
    intro w' hw'
    unfold wsS at hw'
    rcases List.mem_append.mp hw' with h | h
    · exact w.1 w' (by unfold wsS; exact List.mem_append_left _ h)
    · rcases List.mem_cons.mp h with h | h
      · exact w.1 w' (by unfold wsS; rw [h]; exact List.mem_append_right _ (List.mem_singleton.mpr rfl))
      · exact h
  have cw := cwS (R := R) (rm := rm) (mc := mc) (ms := ms) n X.1.2.2.2.2 (hG.in hin) rfl hrc hrs w.2 hR
  exact g_run (va_runS (As := As) (rest := rest) X.1 hM cw (g_pre (As := As) X.2 hE hEb) rfl hn hls hst (lv_room hW) hdg hf) hA hL kk
end GCR
theorem gwV_of {Ts : List Cond} {own : String} {index : Nat} {y : MethodName} {bytes : ByteArray} {maxL : Nat} {ret : Option FieldType} {n : Nat} (h1 : Cond.methodLink own index y ∈ Ts) (h2 : Cond.instanceMethod y ∈ Ts) (h3 : Cond.selects y.cls y y ∈ Ts) (h4 : Cond.initialized y.cls ∈ Ts) (h5 : Cond.code y bytes maxL ret ∈ Ts)
    (hd : y.cls ≠ "java/lang/invoke/MethodHandle" ∧ y.cls ≠ "java/lang/invoke/VarHandle" ∧ (parseMethodDescriptor y.desc).map (fun d => d.parameters.length) = some n) : gwV Ts own index y bytes maxL ret n := by
  refine ⟨fun w hw => ?_, hd⟩
  simp only [wsV, List.mem_append, List.mem_cons, List.not_mem_nil, or_false] at hw
  rcases hw with (rfl | rfl | rfl | rfl) | rfl
  · exact h1
  · exact h2
  · exact h3
  · exact h4
  · exact h5
theorem gwI_of {Ts : List Cond} {own : String} {index : Nat} {y : MethodName} {bytes : ByteArray} {maxL : Nat} {n : Nat} (h1 : Cond.methodLink own index y ∈ Ts) (h2 : Cond.instanceMethod y ∈ Ts) (h4 : Cond.initialized y.cls ∈ Ts) (h5 : Cond.code y bytes maxL none ∈ Ts) (hn : y.name = "<init>")
    (hd : y.cls ≠ "java/lang/invoke/MethodHandle" ∧ y.cls ≠ "java/lang/invoke/VarHandle" ∧ (parseMethodDescriptor y.desc).map (fun d => d.parameters.length) = some n) : gwI Ts own index y bytes maxL n := by
  refine ⟨fun w hw => ?_, hn, hd⟩
  simp only [List.mem_cons, List.not_mem_nil, or_false] at hw
  rcases hw with rfl | rfl | rfl | rfl
  · exact h1
  · exact h2
  · exact h4
  · exact h5
theorem gwS_of {Ts : List Cond} {own : String} {index : Nat} {y : MethodName} {bytes : ByteArray} {maxL : Nat} {ret : Option FieldType} {n : Nat} (h1 : Cond.methodLink own index y ∈ Ts) (h2 : Cond.static y ∈ Ts) (h4 : Cond.initialized own ∈ Ts) (h5 : Cond.code y bytes maxL ret ∈ Ts)
    (hd : y.cls = own ∧ y.cls ≠ "java/lang/invoke/MethodHandle" ∧ y.cls ≠ "java/lang/invoke/VarHandle" ∧ (parseMethodDescriptor y.desc).map (fun d => d.parameters.length) = some n) : gwS Ts own index y bytes maxL ret n := by
  refine ⟨fun w hw => ?_, hd⟩
  simp only [wsS, List.mem_append, List.mem_cons, List.not_mem_nil, or_false] at hw
  rcases hw with (rfl | rfl | rfl) | rfl
  · exact h1
  · exact h2
  · exact h4
  · exact h5
def gR (f k mc ms : Nat) : Room := { frames := f, cells := mc, slots := ms, locals := k }
theorem gn_dec {x : Nat} (k : Nat) (h : k ≤ x) (hk : Int32.ofInt (-(k : Int)) = - nI k := by decide) : nI x + Int32.ofInt (-(k : Int)) = nI (x - k) := by
  rw [hk, ← pk_sub h, Int32.sub_eq_add_neg]
end
section
/-! own rows, 4: methods that throw -/
def gT (l : Launch) (y : MethodName) (ws : List Cond) (rm : Room) (D : va_G) (cl : List vw_C) (tys : List (ClassId × FieldType)) (E : State → Prop) (vs : List Value) (H0 : Heap) (Post : Nat → Heap → Prop) (mc ms : Nat) (A : Nat → Prop) : Prop :=
  MetFree l y (headSpec ws rm) (va_Pc vs (fun U => U.heap = H0 ∧ va_K D cl tys U ∧ E U)) (fun _ _ _ _ _ => True)
    (fun _ st o t => ∃ x, o = .threw x ∧ Post x t.heap ∧ ∃ L, st.WarmedH t.vm ∧ st.sameButNew ({ t with vm := st.vm } : State) L mc ms ∧ ∀ q ∈ L, A q.base)
def gTQ (below : List Frame) (s : State) (Post : Nat → Heap → Prop) (mc ms : Nat) (A : Nat → Prop) : State → Prop := fun t =>
  ∃ x, t.status = .running ∧ Ended t below (.threw x) ∧ Post x t.heap ∧ ∃ L, s.WarmedH t.vm ∧ s.sameButNew ({ t with vm := s.vm } : State) L mc ms ∧ ∀ q ∈ L, A q.base
theorem gT.ofW {l : Launch} {y : MethodName} {Ts : List Cond} {rm : Room} {D : va_G} {cl : List vw_C} {tys : List (ClassId × FieldType)} {E : State → Prop} {vs : List Value} {H0 : Heap} {Post : Nat → Heap → Prop} {mc ms : Nat} {A : Nat → Prop} {cc : ByteArray} {maxL : Nat} {ret : Option FieldType} (own name : String)
    (hy : plainName y.cls = true) (hyo : y.cls = own) (hyn : y.name = name)
    (body : ∀ p e s m below meth c, l.admits e → gX p m c cc maxL s vs.toArray own Ts D cl tys → E s → s.heap = H0 → gB meth ret name → c.exceptionTable.isEmpty = true →
      W p l e rm s m vs.toArray below meth c H0 [] 0 0 (gTQ below s Post mc ms A) (entryFrame m vs.toArray maxL)) : gT l y (Cond.code y cc maxL ret :: Ts) rm D cl tys E vs H0 Post mc ms A := by
  refine MetFree.of_bodyS (code := cc) (maxLocals := maxL) (ret := ret) hy ?_ ?_
  · intro args s m h hn
    obtain ⟨meth, c, h1, h2, h3, h4, h5, h6, -, -⟩ := Cond.code_spec hn (atoms_spec (ws := Cond.code y cc maxL ret :: Ts) h _ List.mem_cons_self)
    exact ⟨meth, c, h1, h2, h3, h4, h5, h6⟩
  · intro p e s m args below meth c s₁ B hml hv _
    obtain ⟨rfl, hH, hK, hE⟩ := hv
    have hts := atoms_spec (ws := Cond.code y cc maxL ret :: Ts) B.pre
    have hown : s.vm.findClass y.cls = some m.cls := findClass_of_methodNamed B.named
    have hnm := (name_of_methodNamed B.named B.method).1
    have h := body p e s m below meth c B.admits ⟨⟨B.exec, B.bytes, hml, by rw [← hyo]; exact hown, fun w hw => hts w (List.mem_cons_of_mem _ hw)⟩, hK⟩ hE hH ⟨B.returns, B.notSynchronized, hnm.trans hyn⟩ (B.noHandlers (hts _ List.mem_cons_self))
    have hh0 : s₁.heap = H0 := by rw [B.state]; exact hH
    obtain ⟨t, a1, x, b1, b2, b3, b4⟩ := h s₁ hh0 (Stand.of_body B)
    exact ⟨t, .threw x, a1, b1, b2, ⟨x, rfl, b3, b4⟩⟩
section GTR
variable {p : Program} {l : Launch} {e : Env} {R : Room} {s : State} {m : MethodId} {args : Array Value} {below : List Frame} {meth : Method} {c : Code} {H : Heap} {locs : List Loc} {cells slots : Nat} {Q : State → Prop}
variable {cc : ByteArray} {nL pc : Nat} {ls : Array Slot} {rest : List Value} {D : va_G} {cl : List vw_C} {A A1 : Nat → Prop} {a : Nat} {tys : List (ClassId × FieldType)} {own C : String} {T : u_T} {N ci index : Nat} {Ts : List Cond} {ty : Nat → FieldType} {Post Post' : Nat → Heap → Prop} {mc ms : Nat} {name : String} {E : State → Prop}
/-- the object on top is thrown, and leaves the method -/
theorem g_athrow (X : gX p m c cc nL s args own Ts D cl tys) {ret : Option FieldType} (B : gB meth ret name) (hne : c.exceptionTable.isEmpty = true) (hP : Post a H) (hL : ∀ x ∈ locs, A x.base) (hdg : decode cc pc = .ok (.athrow, 1)) (hc : cells ≤ mc) (hs : slots ≤ ms) : W p l e R s m args below meth c H locs cells slots (gTQ below s Post mc ms A) (F0 m pc ls (.ref a :: rest)) := by
  refine W.widen hc hs ?_
  intro T hT XS
  have h0 : c.exceptionTable.toList = [] := List.eq_nil_of_length_eq_zero (by simpa [Array.isEmpty] using hne)
  obtain ⟨hwalk, hrun, hended, hW, hsame⟩ := XS.athrowLeaves X.1.1 (g := F0 m pc ls (.ref a :: rest)) rfl rfl rfl (fun x hx => by rw [h0] at hx; cases hx) rfl (by rw [X.1.2.1]; exact hdg) B.2.1
  exact ⟨_, hwalk, a, hrun, hended, by rw [show (T.setFrames (.throwing a :: below)).heap = H from hT]; exact hP, locs, hW, hsame, hL⟩
/-- the constructor of an exception without a message, on a machine that fills no trace in -/
theorem g_exinit0 {W : State} (X : Stand p l e R s m args below meth c W locs cells slots) (hexec : p.tables.exec = Jvm.exec) (htr : e.platform.stackTraces = false) {cls : String} {names : List String} {ic : Nat}
    (hown : s.vm.findClass own = some m.cls) (hcls : Jvm.Bundle.fit cls = true) (hnames : ∀ n ∈ names, Jvm.Bundle.fit n = true)
    (h : ∀ a ∈ Jvm.Bundle.ownAtoms0 own ic cls names, a.before args s = true)
    {b0 : Nat} (hlocs : ∀ x ∈ locs, b0 ≤ x.base) (hst : ∀ (c0 : ClassId) (k0 : Class) (z : Nat), s.vm.findClass Jvm.Bundle.tN = some c0 → s.vm.classes[c0]? = some k0 → k0.statics = some z → z < b0)
    {cX : ClassId} {kX : Class} (hfoundX : s.vm.findClass cls = some cX) (hkX : s.vm.classes[cX]? = some kX) (hcell : W.heap[a]? = some (freshCell cX kX)) (hnew : s.heap.size ≤ a)
    {g : JFrame} (hg : g.method = m) (hsize : g.locals.size = c.maxLocals) (hstack : g.stack = .ref a :: .ref a :: rest)
    (hd6 : decode c.code g.pc = .ok (.invokespecial ic, 3))
    (hRframes : names.length + 3 < R.frames) (hRlocals : 2 * g.monitorRoom + ((Value.ref a :: rest).map fun v => v.category).sum + (13 * (names.length + 1) + 41) ≤ R.locals) :
    ∃ (vm' : Vm) (ce : Cell) (L : List Loc), (∀ x ∈ L, x.base = a) ∧ ce.cls = cX ∧ ce.vm = .none ∧ Stand p l e R s m args below meth c ((W.setVm vm').setCell a ce) (locs ++ L) cells slots ∧
      ∀ target, Steps p.tables e below (((W.setVm vm').setCell a ce).setTop { g with pc := g.pc + 3, stack := .ref a :: rest }) target → Steps p.tables e below (W.setTop g) target := by
  have howns : e.platform.frameOwnsMonitors = true := by rw [X.admits.platform]
  have hfin : e.platform.finalization = false := by rw [X.admits.platform]
  have hpl : e.platform.magicAccessors = ({} : Platform).magicAccessors := by rw [X.admits.platform]
  have a' : ∀ x, x ∈ Jvm.Bundle.ownAtoms0 own ic cls names → x.holds args s none s [] = true := fun x hx => h x hx
  obtain ⟨T, Z, L, LZ, Y⟩ := ThrowableC.of_atoms (args := args) howns hfin hpl (fun x hx => h x (by simp [Jvm.Bundle.ownAtoms0, hx]))
  obtain ⟨P1, Ps, hlen, L1, hL, hP1m, hlink1, hlink⟩ := Jvm.Bundle.chain0 (args := args) hpl Y.init0 names cls hcls hnames (fun x hx => h x (by simp [Jvm.Bundle.ownAtoms0, hx]))
  have hfound : s.vm.findClass cls = some P1.m.cls := findClass_of_methodNamed hP1m
  cases Option.some.inj (hfoundX.symm.trans hfound)
  obtain ⟨c1, kX', hc1, hk, hord, -, -, hn6⟩ := Cond.instantiable_spec (a' (.instantiable cls 6) (by simp [Jvm.Bundle.ownAtoms0]))
  cases Option.some.inj (hc1.symm.trans hfound)
  cases Option.some.inj (hkX.symm.trans hk)
  have hsel0 : selectMethod e.platform s.vm P1.m.cls T.fill0 = .method T.fill0 := by
    obtain ⟨c2, r2, m2, q1, q2, q3, q4, -⟩ := Cond.selects_spec (a' (.selects cls Jvm.Bundle.tFill0 Jvm.Bundle.tFill0) (by simp [Jvm.Bundle.ownAtoms0]))
    cases Option.some.inj (q1.symm.trans hfound)
    cases Option.some.inj (q2.symm.trans (State.methodFound?_of_named Y.fill0 (by decide)))
    cases Option.some.inj (q3.symm.trans Y.fill0)
    rw [Launch.admits_selectMethod X.admits]; exact q4
  have hselF : selectMethod e.platform s.vm P1.m.cls T.fill = .method T.fill := by
    obtain ⟨c2, r2, m2, q1, q2, q3, q4, -⟩ := Cond.selects_spec (a' (.selects cls Jvm.Bundle.tFill Jvm.Bundle.tFill) (by simp [Jvm.Bundle.ownAtoms0]))
    cases Option.some.inj (q1.symm.trans hfound)
    cases Option.some.inj (q2.symm.trans (State.methodFound?_of_named Y.fill (by decide)))
    cases Option.some.inj (q3.symm.trans Y.fill)
    rw [Launch.admits_selectMethod X.admits]; exact q4
  obtain ⟨cellS0, hcS0, hiss⟩ := Y.statics
  obtain ⟨u0, hu0⟩ := Cond.staticRefV Y.unassigned L.unassignedStatic L.statics hcS0 hiss (a' (.isRef (.static Jvm.Bundle.tN "UNASSIGNED_STACK" Jvm.Bundle.steD)) (by simp [Jvm.Bundle.ownAtoms0]))
  obtain ⟨sen, hsen⟩ := Cond.staticRefV Y.sentinel L.sentinelStatic L.statics hcS0 hiss (a' (.isRef (.static Jvm.Bundle.tN "SUPPRESSED_SENTINEL" Jvm.Bundle.listD)) (by simp [Jvm.Bundle.ownAtoms0]))
  obtain ⟨ci198, i198, fB, hk198, hg198, ha198, hsB, -, hnB, htB, hffB⟩ := Cond.ownField (t := .object "java/lang/Object") Y.found L.cls (by decide +kernel) (a' (.fieldLink Jvm.Bundle.tN 198 Jvm.Bundle.tN "backtrace" "Ljava/lang/Object;") (by simp [Jvm.Bundle.ownAtoms0])) (a' (.lays Jvm.Bundle.tN Jvm.Bundle.tN "backtrace" "Ljava/lang/Object;") (by simp [Jvm.Bundle.ownAtoms0])) e.platform hpl
  obtain ⟨cellS, hcS', heS, -, hkeep⟩ := X.same.2.2.2.2.2 T.aS cellS0 hcS0
  have hcellS : W.heap[T.aS]? = some cellS := hcS'
  have hout' : ∀ i, (⟨T.aS, i⟩ : Loc) ∉ locs := fun i hmem => by
    have h1 : b0 ≤ T.aS := hlocs _ hmem
    have h2 := hst _ _ _ Y.found L.cls L.statics
    omega
  have hknownS : cellS.vm ≠ .unknown := by
    rw [heS]; intro hu
    rw [show cellS0.vm = .unknown from hu] at hiss
    cases hiss
  have hneS : T.aS ≠ a := Nat.ne_of_lt (Nat.lt_of_lt_of_le (Array.getElem?_eq_some_iff.mp hcS0).1 hnew)
  obtain ⟨tyC, dC, hdC, hdnC⟩ := Cond.laysAt hfound hk Y.cause (a' (.lays cls Jvm.Bundle.tN "cause" "Ljava/lang/Throwable;") (by simp [Jvm.Bundle.ownAtoms0]))
  obtain ⟨tyS, dS, hdS, hdnS⟩ := Cond.laysAt hfound hk Y.stack (a' (.lays cls Jvm.Bundle.tN "stackTrace" Jvm.Bundle.steD) (by simp [Jvm.Bundle.ownAtoms0]))
  obtain ⟨tyP, dP, hdP, hdnP⟩ := Cond.laysAt hfound hk Y.supp (a' (.lays cls Jvm.Bundle.tN "suppressedExceptions" Jvm.Bundle.listD) (by simp [Jvm.Bundle.ownAtoms0]))
  obtain ⟨tyB, dB, hdB, hdnB⟩ := Cond.laysAt hfound hk hffB (a' (.lays cls Jvm.Bundle.tN "backtrace" "Ljava/lang/Object;") (by simp [Jvm.Bundle.ownAtoms0]))
  have bC := Cond.laysApart hdB hdC hdnB hdnC (by rw [hnB, Y.causeName]; decide)
  have bS := Cond.laysApart hdB hdS hdnB hdnS (by rw [hnB, Y.stackName]; decide)
  have bP := Cond.laysApart hdB hdP hdnB hdnP (by rw [hnB, Y.suppName]; decide)
  have hskip : SkipFacts T e.platform s (fun u => u) u0 ((preparedCellV T.toThrowableT (freshCell P1.m.cls kX) a u0 sen).withEntry W.cur) :=
    ⟨{ ci198 := ci198, i198 := i198, fBack := fB }, ⟨hk198, hg198, ha198, hsB⟩, by
      have := fresh_default (c := P1.m.cls) tyB
      rw [htB] at this
      simpa [preparedCellV, Cell.setSlot, Cell.withEntry, Array.getElem?_setIfInBounds, bC, bS, bP, bC.symm, bS.symm, bP.symm, defaultValue] using this, fun _ _ => rfl⟩
  obtain ⟨tm, methC, cdC, kC, vm₁, hnC, -, -, -, -, -, -, -, hW₁, st1⟩ := Steps.initCold (tb := p.tables) (e := e) (below := below) (s := s) (U := W) X.here hexec X.warmed hpl hown (t := Jvm.Bundle.init0 cls) rfl rfl (Jvm.Bundle.fit_spec hcls).2
    (a' (.methodLink own ic (Jvm.Bundle.init0 cls)) (by simp [Jvm.Bundle.ownAtoms0])) (h (.instanceMethod (Jvm.Bundle.init0 cls)) (by cases names <;> simp [Jvm.Bundle.ownAtoms0, Jvm.Bundle.chain0Atoms, Jvm.Bundle.passAtoms])) (bytes := Jvm.Bundle.five) (maxL := 1) (h (.code (Jvm.Bundle.init0 cls) Jvm.Bundle.five 1 none) (by cases names <;> simp [Jvm.Bundle.ownAtoms0, Jvm.Bundle.chain0Atoms, Jvm.Bundle.passAtoms]))
    (f := g) hg (a := a) (rest := .ref a :: rest) hstack hd6
  cases Option.some.inj (hnC.symm.trans hP1m)
  have X₁ := X.noted hW₁
  obtain ⟨vm₂, X₂, st2⟩ := X₁.ctorPlainOffV hexec (g := { g with stack := .ref a :: rest }) hg hsize T L Z LZ (P1 :: Ps)
    (fun P hP => by rcases List.mem_cons.mp hP with rfl | hP; exact L1; exact hL P hP) ⟨hlink1, hlink⟩ (u0 := u0) (sen := sen) (self := a) (cell := freshCell P1.m.cls kX) (cellS := cellS)
    hcell (fun _ => by simp) (by simp) rfl rfl hsel0 hselF hcellS hneS hknownS (by rw [hkeep _ (hout' _)]; exact hu0) (by rw [hkeep _ (hout' _)]; exact hsen)
    (Takes.of_laid hk hord tyC (by rw [Y.causeType]; rfl)) (Takes.of_laid hk hord tyS (by rw [Y.stackType]; exact fits_refV_array _ u0)) (Takes.of_laid hk hord tyP (by rw [Y.suppType]; exact fits_refV_object _ sen)) Y.objLocals hskip htr [] hd6
    (by simp only [List.length_cons, hlen]; omega) (by simp only [List.length_cons, hlen]; exact hRlocals)
  refine ⟨vm₂, _, _, ?_, rfl, rfl, X₂, fun target ht => st1 _ (fun acts => ?_)⟩
  · intro x hx
    simp only [List.mem_cons, List.not_mem_nil, or_false] at hx
    rcases hx with rfl | rfl | rfl | rfl <;> rfl
  · rw [doInvoke_state]
    exact st2 _ ht
end GTR
end
section
/-! texts: what two have in common, and their order -/
def t_lcp : List Nat → List Nat → Nat
  | x :: xs, y :: ys => if x = y then t_lcp xs ys + 1 else 0
  | _, _ => 0
theorem t_lcp_le1 : ∀ xs ys : List Nat, t_lcp xs ys ≤ xs.length
  | [], ys => by simp [t_lcp]
  | x :: xs, [] => by simp [t_lcp]
  | x :: xs, y :: ys => by
    have h := t_lcp_le1 xs ys
    unfold t_lcp
    split
    · simp; omega
    · simp
theorem t_lcp_le2 : ∀ xs ys : List Nat, t_lcp xs ys ≤ ys.length
  | [], ys => by simp [t_lcp]
  | x :: xs, [] => by simp [t_lcp]
  | x :: xs, y :: ys => by
    have h := t_lcp_le2 xs ys
    unfold t_lcp
    split
    · simp; omega
    · simp
theorem t_lcp_eq : ∀ (xs ys : List Nat) (i : Nat), i ≤ xs.length → i ≤ ys.length → (∀ j, j < i → xs.getD j 0 = ys.getD j 0) → (i = xs.length ∨ i = ys.length ∨ xs.getD i 0 ≠ ys.getD i 0) → t_lcp xs ys = i
  | [], ys, i, h1, h2, h3, h4 => by
    have : i = 0 := by simpa using h1
    simp [t_lcp, this]
  | x :: xs, [], i, h1, h2, h3, h4 => by
    have : i = 0 := by simpa using h2
    simp [t_lcp, this]
  | x :: xs, y :: ys, i, h1, h2, h3, h4 => by
    cases i with
    | zero =>
      have hne : x ≠ y := by
        rcases h4 with h | h | h
        · simp at h
        · simp at h
        · simpa using h
      simp [t_lcp, hne]
    | succ i =>
      have hxy : x = y := by simpa using h3 0 (by omega)
      have ih := t_lcp_eq xs ys i (by simpa using h1) (by simpa using h2) (fun j hj => by simpa using h3 (j + 1) (by omega)) (by
        rcases h4 with h | h | h
        · exact Or.inl (by simpa using h)
        · exact Or.inr (Or.inl (by simpa using h))
        · exact Or.inr (Or.inr (by simpa using h)))
      simp [t_lcp, hxy, ih]
theorem t_lcp_same : ∀ (xs ys : List Nat) (j : Nat), j < t_lcp xs ys → xs.getD j 0 = ys.getD j 0
  | [], ys, j, h => by simp [t_lcp] at h
  | x :: xs, [], j, h => by simp [t_lcp] at h
  | x :: xs, y :: ys, j, h => by
    unfold t_lcp at h
    split at h
    · rename_i hxy
      cases j with
      | zero => simpa using hxy
      | succ j => simpa using t_lcp_same xs ys j (by omega)
    · omega
theorem t_lcp_stop : ∀ (xs ys : List Nat), t_lcp xs ys < xs.length → t_lcp xs ys < ys.length → xs.getD (t_lcp xs ys) 0 ≠ ys.getD (t_lcp xs ys) 0
  | [], ys, h, _ => by simp at h
  | x :: xs, [], _, h => by simp at h
  | x :: xs, y :: ys, h1, h2 => by
    unfold t_lcp at h1 h2 ⊢
    split at h1
    · rename_i hxy
      rw [if_pos hxy] at h2 ⊢
      simpa using t_lcp_stop xs ys (by simpa using h1) (by simpa using h2)
    · rename_i hxy
      rw [if_neg hxy]
      simpa using hxy
def t_ord : List Nat → List Nat → Int
  | [], ys => -(ys.length : Int)
  | x :: xs, [] => ((x :: xs).length : Int)
  | x :: xs, y :: ys => if x = y then t_ord xs ys else (x : Int) - (y : Int)
theorem t_ord_end : ∀ (xs ys : List Nat), (t_lcp xs ys = xs.length ∨ t_lcp xs ys = ys.length) → t_ord xs ys = (xs.length : Int) - (ys.length : Int)
  | [], ys, _ => by simp [t_ord]
  | x :: xs, [], _ => by simp [t_ord]
  | x :: xs, y :: ys, h => by
    unfold t_lcp at h
    split at h
    · rename_i hxy
      have ih := t_ord_end xs ys (by rcases h with h | h; exact Or.inl (by simpa using h); exact Or.inr (by simpa using h))
      unfold t_ord
      rw [if_pos hxy, ih]
      simp
      omega
    · simp at h
theorem t_ord_mid : ∀ (xs ys : List Nat), t_lcp xs ys < xs.length → t_lcp xs ys < ys.length → t_ord xs ys = (xs.getD (t_lcp xs ys) 0 : Int) - (ys.getD (t_lcp xs ys) 0 : Int)
  | [], ys, h, _ => by simp at h
  | x :: xs, [], _, h => by simp at h
  | x :: xs, y :: ys, h1, h2 => by
    unfold t_lcp at h1 h2 ⊢
    split at h1
    · rename_i hxy
      rw [if_pos hxy] at h2 ⊢
      unfold t_ord
      rw [if_pos hxy, t_ord_mid xs ys (by simpa using h1) (by simpa using h2)]
      simp
    · rename_i hxy
      rw [if_neg hxy]
      unfold t_ord
      rw [if_neg hxy]
      simp
theorem t_ord_refl : ∀ xs : List Nat, t_ord xs xs = 0
  | [] => by simp [t_ord]
  | x :: xs => by simp [t_ord, t_ord_refl xs]
theorem t_ord_anti : ∀ xs ys : List Nat, t_ord ys xs = - t_ord xs ys
  | [], [] => by simp [t_ord]
  | [], y :: ys => by simp [t_ord]
  | x :: xs, [] => by simp [t_ord]
  | x :: xs, y :: ys => by
    unfold t_ord
    by_cases h : x = y
    · rw [if_pos h, if_pos h.symm, t_ord_anti xs ys]
    · rw [if_neg h, if_neg (fun q => h q.symm)]
      omega
theorem t_ord_eq : ∀ xs ys : List Nat, t_ord xs ys = 0 → xs = ys
  | [], [], _ => rfl
  | [], y :: ys, h => by simp [t_ord] at h; omega
  | x :: xs, [], h => by simp [t_ord] at h; omega
  | x :: xs, y :: ys, h => by
    unfold t_ord at h
    by_cases hxy : x = y
    · rw [if_pos hxy] at h
      rw [hxy, t_ord_eq xs ys h]
    · rw [if_neg hxy] at h
      omega
theorem t_ord_trans : ∀ xs ys zs : List Nat, t_ord xs ys < 0 → t_ord ys zs < 0 → t_ord xs zs < 0
  | [], [], zs, h, _ => by simp [t_ord] at h
  | [], y :: ys, [], _, h => by simp [t_ord] at h; omega
  | [], y :: ys, z :: zs, _, _ => by simp [t_ord]
  | x :: xs, [], zs, h, _ => by simp [t_ord] at h; omega
  | x :: xs, y :: ys, [], _, h => by simp [t_ord] at h; omega
  | x :: xs, y :: ys, z :: zs, h1, h2 => by
    unfold t_ord at h1 h2 ⊢
    by_cases hxy : x = y
    · rw [if_pos hxy] at h1
      by_cases hyz : y = z
      · rw [if_pos hyz] at h2
        rw [if_pos (hxy.trans hyz)]
        exact t_ord_trans xs ys zs h1 h2
      · rw [if_neg hyz] at h2
        rw [if_neg (fun q => hyz (hxy.symm.trans q))]
        omega
    · rw [if_neg hxy] at h1
      by_cases hyz : y = z
      · rw [if_neg (fun q => hxy (q.trans hyz.symm))]
        omega
      · rw [if_neg hyz] at h2
        rw [if_neg (fun q => by omega)]
        omega
theorem t_lt {xs : List Nat} (h : ∀ x ∈ xs, x < 65536) (i : Nat) : xs.getD i 0 < 65536 := by
  rw [List.getD_eq_getElem?_getD]
  cases hi : xs[i]? with
  | none => simp
  | some v => exact h v (List.mem_of_getElem? hi)
theorem t_ord_small {xs ys : List Nat} (h1 : xs.length ≤ 65535) (h2 : ys.length ≤ 65535) (h3 : ∀ x ∈ xs, x < 65536) (h4 : ∀ y ∈ ys, y < 65536) : -65536 < t_ord xs ys ∧ t_ord xs ys < 65536 := by
  by_cases ha : t_lcp xs ys < xs.length
  · by_cases hb : t_lcp xs ys < ys.length
    · rw [t_ord_mid xs ys ha hb]
      have e1 : xs.getD (t_lcp xs ys) 0 < 65536 := by
        exact t_lt h3 _
      have e2 : ys.getD (t_lcp xs ys) 0 < 65536 := by
        exact t_lt h4 _
      omega
    · have := t_lcp_le2 xs ys
      rw [t_ord_end xs ys (Or.inr (by omega))]
      omega
  · have := t_lcp_le1 xs ys
    rw [t_ord_end xs ys (Or.inl (by omega))]
    omega
end
section
/-! printed by wip/tools/names.py: names, fields, words -/
def gWS : List Cond := lw_tbl.filter gGoodB
theorem gWS_good : gGood gWS := fun w hw => gGood_one (List.mem_filter.mp hw).2
theorem gWS_at {w : Cond} (i : Nat) (h : lw_tbl[i]? = some w) (g : gGoodB w = true) : w ∈ gWS := List.mem_filter.mpr ⟨List.mem_of_getElem? h, g⟩
def R_Key : String := "KeyHall$Key"
def F_Key : u_T := fun k => match k with
  | 0 => ("KeyHall$Key", "letters", "[I", true)
  | _ => ("KeyHall$Key", "length", "I", false)
def t_Key : Nat → FieldType := fun k => match k with
  | 0 => .array .int
  | _ => .int
def R_KeyMap : String := "KeyHall$KeyMap"
def F_KeyMap : u_T := fun k => match k with
  | 0 => ("KeyHall$KeyMap", "keys", "[LKeyHall$Key;", true)
  | 1 => ("KeyHall$KeyMap", "values", "[I", true)
  | 2 => ("KeyHall$KeyMap", "count", "I", false)
  | _ => ("KeyHall$KeyMap", "changes", "I", false)
def t_KeyMap : Nat → FieldType := fun k => match k with
  | 0 => .array (.object "KeyHall$Key")
  | 1 => .array .int
  | 2 => .int
  | _ => .int
def R_View : String := "KeyHall$View"
def F_View : u_T := fun k => match k with
  | 0 => ("KeyHall$View", "map", "LKeyHall$KeyMap;", true)
  | 1 => ("KeyHall$View", "origin", "LKeyHall$View;", true)
  | 2 => ("KeyHall$View", "sort", "I", true)
  | 3 => ("KeyHall$View", "bound", "LKeyHall$Key;", true)
  | 4 => ("KeyHall$View", "turned", "Z", true)
  | 5 => ("KeyHall$View", "walker", "LKeyHall$Walker;", true)
  | 6 => ("KeyHall$View", "from", "I", false)
  | _ => ("KeyHall$View", "to", "I", false)
def t_View : Nat → FieldType := fun k => match k with
  | 0 => .object "KeyHall$KeyMap"
  | 1 => .object "KeyHall$View"
  | 2 => .int
  | 3 => .object "KeyHall$Key"
  | 4 => .boolean
  | 5 => .object "KeyHall$Walker"
  | 6 => .int
  | _ => .int
def R_Walker : String := "KeyHall$Walker"
def F_Walker : u_T := fun k => match k with
  | 0 => ("KeyHall$Walker", "begun", "Z", false)
  | 1 => ("KeyHall$Walker", "behind", "I", false)
  | 2 => ("KeyHall$Walker", "hasTold", "Z", false)
  | _ => ("KeyHall$Walker", "changesKnown", "I", false)
def t_Walker : Nat → FieldType := fun k => match k with
  | 0 => .boolean
  | 1 => .int
  | 2 => .boolean
  | _ => .int
def R_Edges : String := "KeyHall$Edges"
def F_Edges : u_T := fun k => match k with
  | 0 => ("KeyHall$Edges", "sharedBytes", "[I", true)
  | _ => ("KeyHall$Edges", "differsAt", "[Z", true)
def t_Edges : Nat → FieldType := fun k => match k with
  | 0 => .array .int
  | _ => .array .boolean
def R_Automaton : String := "KeyHall$Automaton"
def F_Automaton : u_T := fun k => match k with
  | 0 => ("KeyHall$Automaton", "keys", "[LKeyHall$Key;", true)
  | 1 => ("KeyHall$Automaton", "count", "I", false)
  | 2 => ("KeyHall$Automaton", "prefixFrom", "[I", true)
  | 3 => ("KeyHall$Automaton", "prefixTo", "[I", true)
  | 4 => ("KeyHall$Automaton", "prefixLength", "[I", true)
  | 5 => ("KeyHall$Automaton", "prefixHeight", "[I", true)
  | 6 => ("KeyHall$Automaton", "prefixes", "I", false)
  | 7 => ("KeyHall$Automaton", "stateText", "[I", true)
  | 8 => ("KeyHall$Automaton", "states", "I", false)
  | 9 => ("KeyHall$Automaton", "steps", "I", false)
  | _ => ("KeyHall$Automaton", "finals", "I", false)
def t_Automaton : Nat → FieldType := fun k => match k with
  | 0 => .array (.object "KeyHall$Key")
  | 1 => .int
  | 2 => .array .int
  | 3 => .array .int
  | 4 => .array .int
  | 5 => .array .int
  | 6 => .int
  | 7 => .array .int
  | 8 => .int
  | 9 => .int
  | _ => .int
def R_EditedText : String := "KeyHall$EditedText"
def F_EditedText : u_T := fun k => match k with
  | 0 => ("KeyHall$EditedText", "letters", "[I", true)
  | 1 => ("KeyHall$EditedText", "length", "I", false)
  | 2 => ("KeyHall$EditedText", "history", "LKeyHall$History;", true)
  | 3 => ("KeyHall$EditedText", "suffixes", "LKeyHall$SuffixOrder;", true)
  | _ => ("KeyHall$EditedText", "suffixesAreSorted", "Z", false)
def t_EditedText : Nat → FieldType := fun k => match k with
  | 0 => .array .int
  | 1 => .int
  | 2 => .object "KeyHall$History"
  | 3 => .object "KeyHall$SuffixOrder"
  | _ => .boolean
def R_History : String := "KeyHall$History"
def F_History : u_T := fun k => match k with
  | 0 => ("KeyHall$History", "letters", "[I", true)
  | 1 => ("KeyHall$History", "lengths", "[I", true)
  | 2 => ("KeyHall$History", "newest", "I", false)
  | _ => ("KeyHall$History", "kept", "I", false)
def t_History : Nat → FieldType := fun k => match k with
  | 0 => .array .int
  | 1 => .array .int
  | 2 => .int
  | _ => .int
def R_SuffixOrder : String := "KeyHall$SuffixOrder"
def F_SuffixOrder : u_T := fun k => match k with
  | 0 => ("KeyHall$SuffixOrder", "starts", "[I", true)
  | _ => ("KeyHall$SuffixOrder", "ranks", "[I", true)
def t_SuffixOrder : Nat → FieldType := fun k => match k with
  | 0 => .array .int
  | _ => .array .int
def R_Hall : String := "KeyHall"
def F_Hall : u_T := fun k => match k with
  | 0 => ("KeyHall", "tape", "LKeyHall$Key;", true)
  | 1 => ("KeyHall", "used", "LKeyHall$Key;", true)
  | 2 => ("KeyHall", "told", "LKeyHall$Key;", true)
  | 3 => ("KeyHall", "views", "[LKeyHall$View;", true)
  | 4 => ("KeyHall", "viewCount", "I", false)
  | 5 => ("KeyHall", "branches", "LKeyHall$Edges;", true)
  | 6 => ("KeyHall", "frozen", "LKeyHall$Automaton;", true)
  | _ => ("KeyHall", "text", "LKeyHall$EditedText;", true)
def t_Hall : Nat → FieldType := fun k => match k with
  | 0 => .object "KeyHall$Key"
  | 1 => .object "KeyHall$Key"
  | 2 => .object "KeyHall$Key"
  | 3 => .array (.object "KeyHall$View")
  | 4 => .int
  | 5 => .object "KeyHall$Edges"
  | 6 => .object "KeyHall$Automaton"
  | _ => .object "KeyHall$EditedText"
def R_Model : String := "KeyHallModel"
def F_Model : u_T := fun k => match k with
  | 0 => ("KeyHallModel", "code", "I", false)
  | 1 => ("KeyHallModel", "tape", "[I", true)
  | 2 => ("KeyHallModel", "typed", "I", false)
  | 3 => ("KeyHallModel", "many", "[I", true)
  | 4 => ("KeyHallModel", "turns", "[I", true)
  | 5 => ("KeyHallModel", "letters", "[I", true)
  | 6 => ("KeyHallModel", "length", "[I", true)
  | 7 => ("KeyHallModel", "value", "[I", true)
  | 8 => ("KeyHallModel", "views", "I", false)
  | 9 => ("KeyHallModel", "of", "[I", true)
  | 10 => ("KeyHallModel", "sort", "[I", true)
  | 11 => ("KeyHallModel", "textLong", "[I", true)
  | 12 => ("KeyHallModel", "text", "[I", true)
  | 13 => ("KeyHallModel", "begun", "[Z", true)
  | 14 => ("KeyHallModel", "told", "[Z", true)
  | 15 => ("KeyHallModel", "drops", "[Z", true)
  | 16 => ("KeyHallModel", "seen", "[I", true)
  | 17 => ("KeyHallModel", "lastLong", "[I", true)
  | 18 => ("KeyHallModel", "last", "[I", true)
  | 19 => ("KeyHallModel", "found", "[I", true)
  | 20 => ("KeyHallModel", "foundLong", "I", false)
  | 21 => ("KeyHallModel", "differs", "[Z", true)
  | 22 => ("KeyHallModel", "prefixes", "I", false)
  | 23 => ("KeyHallModel", "firstKey", "[I", true)
  | 24 => ("KeyHallModel", "chars", "[I", true)
  | 25 => ("KeyHallModel", "stateOf", "[I", true)
  | 26 => ("KeyHallModel", "states", "I", false)
  | 27 => ("KeyHallModel", "steps", "I", false)
  | 28 => ("KeyHallModel", "start", "I", false)
  | 29 => ("KeyHallModel", "isFinal", "[Z", true)
  | 30 => ("KeyHallModel", "stepFrom", "[I", true)
  | 31 => ("KeyHallModel", "stepChar", "[I", true)
  | 32 => ("KeyHallModel", "stepTo", "[I", true)
  | 33 => ("KeyHallModel", "page", "[I", true)
  | 34 => ("KeyHallModel", "size", "I", false)
  | 35 => ("KeyHallModel", "pages", "[I", true)
  | 36 => ("KeyHallModel", "sizes", "[I", true)
  | 37 => ("KeyHallModel", "edits", "I", false)
  | _ => ("KeyHallModel", "kept", "I", false)
def t_Model : Nat → FieldType := fun k => match k with
  | 0 => .int
  | 1 => .array .int
  | 2 => .int
  | 3 => .array .int
  | 4 => .array .int
  | 5 => .array .int
  | 6 => .array .int
  | 7 => .array .int
  | 8 => .int
  | 9 => .array .int
  | 10 => .array .int
  | 11 => .array .int
  | 12 => .array .int
  | 13 => .array .boolean
  | 14 => .array .boolean
  | 15 => .array .boolean
  | 16 => .array .int
  | 17 => .array .int
  | 18 => .array .int
  | 19 => .array .int
  | 20 => .int
  | 21 => .array .boolean
  | 22 => .int
  | 23 => .array .int
  | 24 => .array .int
  | 25 => .array .int
  | 26 => .int
  | 27 => .int
  | 28 => .int
  | 29 => .array .boolean
  | 30 => .array .int
  | 31 => .array .int
  | 32 => .array .int
  | 33 => .array .int
  | 34 => .int
  | 35 => .array .int
  | 36 => .array .int
  | 37 => .int
  | _ => .int
def R_Law : String := "KeyHallLaw"
abbrev CL : List vw_C := [(R_Key, F_Key, 2), (R_KeyMap, F_KeyMap, 4), (R_View, F_View, 8), (R_Walker, F_Walker, 4), (R_Edges, F_Edges, 2), (R_Automaton, F_Automaton, 11), (R_EditedText, F_EditedText, 5), (R_History, F_History, 4), (R_SuffixOrder, F_SuffixOrder, 2), (R_Hall, F_Hall, 8), (R_Model, F_Model, 39)]
abbrev gY (q : Nat → ClassId) : List (ClassId × FieldType) := [(q 0, .int), (q 1, .boolean), (q 2, .long), (q 3, .object R_Key), (q 4, .object R_View)]
theorem kc_Key : gk gWS CL 0 R_Key F_Key 2 t_Key := ⟨by decide +kernel, by decide +kernel, by decide +kernel, rfl⟩
theorem ki_Key : Cond.instantiable R_Key 2 ∈ gWS ∧ Cond.initialized R_Key ∈ gWS := by decide +kernel
theorem kc_KeyMap : gk gWS CL 1 R_KeyMap F_KeyMap 4 t_KeyMap := ⟨by decide +kernel, by decide +kernel, by decide +kernel, rfl⟩
theorem ki_KeyMap : Cond.instantiable R_KeyMap 4 ∈ gWS ∧ Cond.initialized R_KeyMap ∈ gWS := by decide +kernel
theorem kc_View : gk gWS CL 2 R_View F_View 8 t_View := ⟨by decide +kernel, by decide +kernel, by decide +kernel, rfl⟩
theorem ki_View : Cond.instantiable R_View 8 ∈ gWS ∧ Cond.initialized R_View ∈ gWS := by decide +kernel
theorem kc_Walker : gk gWS CL 3 R_Walker F_Walker 4 t_Walker := ⟨by decide +kernel, by decide +kernel, by decide +kernel, rfl⟩
theorem ki_Walker : Cond.instantiable R_Walker 4 ∈ gWS ∧ Cond.initialized R_Walker ∈ gWS := by decide +kernel
theorem kc_Edges : gk gWS CL 4 R_Edges F_Edges 2 t_Edges := ⟨by decide +kernel, by decide +kernel, by decide +kernel, rfl⟩
theorem ki_Edges : Cond.instantiable R_Edges 2 ∈ gWS ∧ Cond.initialized R_Edges ∈ gWS := by decide +kernel
theorem kc_Automaton : gk gWS CL 5 R_Automaton F_Automaton 11 t_Automaton := ⟨by decide +kernel, by decide +kernel, by decide +kernel, rfl⟩
theorem ki_Automaton : Cond.instantiable R_Automaton 11 ∈ gWS ∧ Cond.initialized R_Automaton ∈ gWS := by decide +kernel
theorem kc_EditedText : gk gWS CL 6 R_EditedText F_EditedText 5 t_EditedText := ⟨by decide +kernel, by decide +kernel, by decide +kernel, rfl⟩
theorem ki_EditedText : Cond.instantiable R_EditedText 5 ∈ gWS ∧ Cond.initialized R_EditedText ∈ gWS := by decide +kernel
theorem kc_History : gk gWS CL 7 R_History F_History 4 t_History := ⟨by decide +kernel, by decide +kernel, by decide +kernel, rfl⟩
theorem ki_History : Cond.instantiable R_History 4 ∈ gWS ∧ Cond.initialized R_History ∈ gWS := by decide +kernel
theorem kc_SuffixOrder : gk gWS CL 8 R_SuffixOrder F_SuffixOrder 2 t_SuffixOrder := ⟨by decide +kernel, by decide +kernel, by decide +kernel, rfl⟩
theorem ki_SuffixOrder : Cond.instantiable R_SuffixOrder 2 ∈ gWS ∧ Cond.initialized R_SuffixOrder ∈ gWS := by decide +kernel
theorem kc_Hall : gk gWS CL 9 R_Hall F_Hall 8 t_Hall := ⟨by decide +kernel, by decide +kernel, by decide +kernel, rfl⟩
theorem ki_Hall : Cond.instantiable R_Hall 8 ∈ gWS ∧ Cond.initialized R_Hall ∈ gWS := by decide +kernel
theorem kc_Model : gk gWS CL 10 R_Model F_Model 39 t_Model := ⟨by decide +kernel, by decide +kernel, by decide +kernel, rfl⟩
theorem ki_Model : Cond.instantiable R_Model 39 ∈ gWS ∧ Cond.initialized R_Model ∈ gWS := by decide +kernel
abbrev b_Key_init : ByteArray := prog_6_method_1_code
def y_Key_init : MethodName := ⟨R_Key, "<init>", "()V"⟩
abbrev b_Key_clear : ByteArray := prog_6_method_2_code
def y_Key_clear : MethodName := ⟨R_Key, "clear", "()V"⟩
abbrev b_Key_append : ByteArray := prog_6_method_3_code
def y_Key_append : MethodName := ⟨R_Key, "append", "(I)V"⟩
abbrev b_Key_become : ByteArray := prog_6_method_4_code
def y_Key_become : MethodName := ⟨R_Key, "become", "(LKeyHall$Key;)V"⟩
abbrev b_Key_shared : ByteArray := prog_6_method_5_code
def y_Key_shared : MethodName := ⟨R_Key, "shared", "(LKeyHall$Key;)I"⟩
abbrev b_Key_order : ByteArray := prog_6_method_6_code
def y_Key_order : MethodName := ⟨R_Key, "order", "(LKeyHall$Key;)I"⟩
abbrev b_Key_beginsWith : ByteArray := prog_6_method_7_code
def y_Key_beginsWith : MethodName := ⟨R_Key, "beginsWith", "(LKeyHall$Key;)Z"⟩
abbrev b_Key_hasTail : ByteArray := prog_6_method_8_code
def y_Key_hasTail : MethodName := ⟨R_Key, "hasTail", "(ILKeyHall$Key;I)Z"⟩
abbrev b_Key_matches : ByteArray := prog_6_method_9_code
def y_Key_matches : MethodName := ⟨R_Key, "matches", "(LKeyHall$Key;I)Z"⟩
abbrev b_KeyMap_init : ByteArray := prog_7_method_1_code
def y_KeyMap_init : MethodName := ⟨R_KeyMap, "<init>", "()V"⟩
abbrev b_KeyMap_countLess : ByteArray := prog_7_method_2_code
def y_KeyMap_countLess : MethodName := ⟨R_KeyMap, "countLess", "(LKeyHall$Key;)I"⟩
abbrev b_KeyMap_placeOf : ByteArray := prog_7_method_3_code
def y_KeyMap_placeOf : MethodName := ⟨R_KeyMap, "placeOf", "(LKeyHall$Key;)I"⟩
abbrev b_KeyMap_add : ByteArray := prog_7_method_4_code
def y_KeyMap_add : MethodName := ⟨R_KeyMap, "add", "(LKeyHall$Key;I)V"⟩
abbrev b_KeyMap_takeOut : ByteArray := prog_7_method_5_code
def y_KeyMap_takeOut : MethodName := ⟨R_KeyMap, "takeOut", "(I)I"⟩
abbrev b_View_init : ByteArray := prog_9_method_1_code
def y_View_init : MethodName := ⟨R_View, "<init>", "(LKeyHall$KeyMap;)V"⟩
abbrev b_View_init2 : ByteArray := prog_9_method_2_code
def y_View_init2 : MethodName := ⟨R_View, "<init>", "(LKeyHall$View;ILKeyHall$Key;)V"⟩
abbrev b_View_admits : ByteArray := prog_9_method_3_code
def y_View_admits : MethodName := ⟨R_View, "admits", "(LKeyHall$Key;)Z"⟩
abbrev b_View_bounds : ByteArray := prog_9_method_4_code
def y_View_bounds : MethodName := ⟨R_View, "bounds", "(LKeyHall$Key;)Z"⟩
abbrev b_View_measure : ByteArray := prog_9_method_5_code
def y_View_measure : MethodName := ⟨R_View, "measure", "()V"⟩
abbrev b_View_count : ByteArray := prog_9_method_6_code
def y_View_count : MethodName := ⟨R_View, "count", "()I"⟩
abbrev b_View_placeRanked : ByteArray := prog_9_method_7_code
def y_View_placeRanked : MethodName := ⟨R_View, "placeRanked", "(I)I"⟩
abbrev b_View_placeOf : ByteArray := prog_9_method_8_code
def y_View_placeOf : MethodName := ⟨R_View, "placeOf", "(LKeyHall$Key;)I"⟩
abbrev b_View_rankBy : ByteArray := prog_9_method_9_code
def y_View_rankBy : MethodName := ⟨R_View, "rankBy", "(ILKeyHall$Key;)I"⟩
abbrev b_View_countBefore : ByteArray := prog_9_method_10_code
def y_View_countBefore : MethodName := ⟨R_View, "countBefore", "(LKeyHall$Key;Z)I"⟩
abbrev b_View_rankOfLongestStart : ByteArray := prog_9_method_11_code
def y_View_rankOfLongestStart : MethodName := ⟨R_View, "rankOfLongestStart", "(LKeyHall$Key;)I"⟩
abbrev b_Walker_init : ByteArray := prog_10_method_1_code
def y_Walker_init : MethodName := ⟨R_Walker, "<init>", "()V"⟩
abbrev b_Walker_begin : ByteArray := prog_10_method_2_code
def y_Walker_begin : MethodName := ⟨R_Walker, "begin", "(I)V"⟩
abbrev b_Walker_mayGoOn : ByteArray := prog_10_method_3_code
def y_Walker_mayGoOn : MethodName := ⟨R_Walker, "mayGoOn", "(I)Z"⟩
abbrev b_Walker_step : ByteArray := prog_10_method_4_code
def y_Walker_step : MethodName := ⟨R_Walker, "step", "()V"⟩
abbrev b_Walker_stepBack : ByteArray := prog_10_method_5_code
def y_Walker_stepBack : MethodName := ⟨R_Walker, "stepBack", "(I)V"⟩
abbrev b_Edges_init : ByteArray := prog_3_method_1_code
def y_Edges_init : MethodName := ⟨R_Edges, "<init>", "()V"⟩
abbrev b_Edges_countInner : ByteArray := prog_3_method_2_code
def y_Edges_countInner : MethodName := ⟨R_Edges, "countInner", "(LKeyHall$KeyMap;II)I"⟩
abbrev b_Edges_countSharedBytes : ByteArray := prog_3_method_3_code
def y_Edges_countSharedBytes : MethodName := ⟨R_Edges, "countSharedBytes", "(LKeyHall$Key;LKeyHall$Key;)I"⟩
abbrev b_Edges_isNewText : ByteArray := prog_3_method_4_code
def y_Edges_isNewText : MethodName := ⟨R_Edges, "isNewText", "(I)Z"⟩
abbrev b_Edges_fan : ByteArray := prog_3_method_5_code
def y_Edges_fan : MethodName := ⟨R_Edges, "fan", "(IILKeyHall$Key;)I"⟩
abbrev b_Edges_depth : ByteArray := prog_3_method_6_code
def y_Edges_depth : MethodName := ⟨R_Edges, "depth", "(LKeyHall$KeyMap;I)I"⟩
abbrev b_Edges_firstDifferentBit : ByteArray := prog_3_method_7_code
def y_Edges_firstDifferentBit : MethodName := ⟨R_Edges, "firstDifferentBit", "(LKeyHall$Key;LKeyHall$Key;)I"⟩
abbrev b_Automaton_init : ByteArray := prog_2_method_1_code
def y_Automaton_init : MethodName := ⟨R_Automaton, "<init>", "()V"⟩
abbrev b_Automaton_become : ByteArray := prog_2_method_2_code
def y_Automaton_become : MethodName := ⟨R_Automaton, "become", "(LKeyHall$View;)V"⟩
abbrev b_Automaton_listPrefixes : ByteArray := prog_2_method_3_code
def y_Automaton_listPrefixes : MethodName := ⟨R_Automaton, "listPrefixes", "()V"⟩
abbrev b_Automaton_addPrefix : ByteArray := prog_2_method_4_code
def y_Automaton_addPrefix : MethodName := ⟨R_Automaton, "addPrefix", "(II)V"⟩
abbrev b_Automaton_countStates : ByteArray := prog_2_method_5_code
def y_Automaton_countStates : MethodName := ⟨R_Automaton, "countStates", "()V"⟩
abbrev b_Automaton_isKnown : ByteArray := prog_2_method_6_code
def y_Automaton_isKnown : MethodName := ⟨R_Automaton, "isKnown", "(II)Z"⟩
abbrev b_Automaton_leadAlike : ByteArray := prog_2_method_7_code
def y_Automaton_leadAlike : MethodName := ⟨R_Automaton, "leadAlike", "(II)Z"⟩
abbrev b_Automaton_addState : ByteArray := prog_2_method_8_code
def y_Automaton_addState : MethodName := ⟨R_Automaton, "addState", "(I)V"⟩
abbrev b_Automaton_countFollowing : ByteArray := prog_2_method_9_code
def y_Automaton_countFollowing : MethodName := ⟨R_Automaton, "countFollowing", "(I)I"⟩
abbrev b_Automaton_reach : ByteArray := prog_2_method_10_code
def y_Automaton_reach : MethodName := ⟨R_Automaton, "reach", "(LKeyHall$Key;)I"⟩
abbrev b_Automaton_accepts : ByteArray := prog_2_method_11_code
def y_Automaton_accepts : MethodName := ⟨R_Automaton, "accepts", "(LKeyHall$Key;)Z"⟩
abbrev b_EditedText_init : ByteArray := prog_4_method_1_code
def y_EditedText_init : MethodName := ⟨R_EditedText, "<init>", "()V"⟩
abbrev b_EditedText_open : ByteArray := prog_4_method_2_code
def y_EditedText_open : MethodName := ⟨R_EditedText, "open", "(ILKeyHall$Key;)V"⟩
abbrev b_EditedText_close : ByteArray := prog_4_method_3_code
def y_EditedText_close : MethodName := ⟨R_EditedText, "close", "(II)V"⟩
abbrev b_EditedText_takeBack : ByteArray := prog_4_method_4_code
def y_EditedText_takeBack : MethodName := ⟨R_EditedText, "takeBack", "()Z"⟩
abbrev b_EditedText_hash : ByteArray := prog_4_method_5_code
def y_EditedText_hash : MethodName := ⟨R_EditedText, "hash", "()I"⟩
abbrev b_EditedText_sortedSuffixes : ByteArray := prog_4_method_6_code
def y_EditedText_sortedSuffixes : MethodName := ⟨R_EditedText, "sortedSuffixes", "()LKeyHall$SuffixOrder;"⟩
abbrev b_EditedText_sharedWithSuffixBefore : ByteArray := prog_4_method_7_code
def y_EditedText_sharedWithSuffixBefore : MethodName := ⟨R_EditedText, "sharedWithSuffixBefore", "(I)I"⟩
abbrev b_EditedText_standsAt : ByteArray := prog_4_method_8_code
def y_EditedText_standsAt : MethodName := ⟨R_EditedText, "standsAt", "(ILKeyHall$Key;)Z"⟩
abbrev b_EditedText_countPlaces : ByteArray := prog_4_method_9_code
def y_EditedText_countPlaces : MethodName := ⟨R_EditedText, "countPlaces", "(LKeyHall$Key;)I"⟩
abbrev b_EditedText_leastSuffixBeginning : ByteArray := prog_4_method_10_code
def y_EditedText_leastSuffixBeginning : MethodName := ⟨R_EditedText, "leastSuffixBeginning", "(LKeyHall$Key;)I"⟩
abbrev b_History_init : ByteArray := prog_5_method_1_code
def y_History_init : MethodName := ⟨R_History, "<init>", "()V"⟩
abbrev b_History_keep : ByteArray := prog_5_method_2_code
def y_History_keep : MethodName := ⟨R_History, "keep", "([II)V"⟩
abbrev b_History_giveBack : ByteArray := prog_5_method_3_code
def y_History_giveBack : MethodName := ⟨R_History, "giveBack", "([I)I"⟩
abbrev b_SuffixOrder_init : ByteArray := prog_8_method_1_code
def y_SuffixOrder_init : MethodName := ⟨R_SuffixOrder, "<init>", "()V"⟩
abbrev b_SuffixOrder_sort : ByteArray := prog_8_method_2_code
def y_SuffixOrder_sort : MethodName := ⟨R_SuffixOrder, "sort", "([II)V"⟩
abbrev b_SuffixOrder_isLess : ByteArray := prog_8_method_3_code
def y_SuffixOrder_isLess : MethodName := ⟨R_SuffixOrder, "isLess", "([III)Z"⟩
abbrev b_Hall_init : ByteArray := prog_1_method_1_code
def y_Hall_init : MethodName := ⟨R_Hall, "<init>", "()V"⟩
abbrev b_Hall_type : ByteArray := prog_1_method_2_code
def y_Hall_type : MethodName := ⟨R_Hall, "type", "(JI)Z"⟩
abbrev b_Hall_view : ByteArray := prog_1_method_3_code
def y_Hall_view : MethodName := ⟨R_Hall, "view", "(II)I"⟩
abbrev b_Hall_put : ByteArray := prog_1_method_4_code
def y_Hall_put : MethodName := ⟨R_Hall, "put", "(II)I"⟩
abbrev b_Hall_get : ByteArray := prog_1_method_5_code
def y_Hall_get : MethodName := ⟨R_Hall, "get", "(I)I"⟩
abbrev b_Hall_remove : ByteArray := prog_1_method_6_code
def y_Hall_remove : MethodName := ⟨R_Hall, "remove", "(I)I"⟩
abbrev b_Hall_size : ByteArray := prog_1_method_7_code
def y_Hall_size : MethodName := ⟨R_Hall, "size", "(I)I"⟩
abbrev b_Hall_find : ByteArray := prog_1_method_8_code
def y_Hall_find : MethodName := ⟨R_Hall, "find", "(II)I"⟩
abbrev b_Hall_at : ByteArray := prog_1_method_9_code
def y_Hall_at : MethodName := ⟨R_Hall, "at", "(II)I"⟩
abbrev b_Hall_poll : ByteArray := prog_1_method_10_code
def y_Hall_poll : MethodName := ⟨R_Hall, "poll", "(IZ)I"⟩
abbrev b_Hall_found : ByteArray := prog_1_method_11_code
def y_Hall_found : MethodName := ⟨R_Hall, "found", "(I)I"⟩
abbrev b_Hall_iterate : ByteArray := prog_1_method_12_code
def y_Hall_iterate : MethodName := ⟨R_Hall, "iterate", "(I)Z"⟩
abbrev b_Hall_next : ByteArray := prog_1_method_13_code
def y_Hall_next : MethodName := ⟨R_Hall, "next", "(I)I"⟩
abbrev b_Hall_drop : ByteArray := prog_1_method_14_code
def y_Hall_drop : MethodName := ⟨R_Hall, "drop", "(I)I"⟩
abbrev b_Hall_match : ByteArray := prog_1_method_15_code
def y_Hall_match : MethodName := ⟨R_Hall, "match", "(II)I"⟩
abbrev b_Hall_edges : ByteArray := prog_1_method_16_code
def y_Hall_edges : MethodName := ⟨R_Hall, "edges", "(I)I"⟩
abbrev b_Hall_freeze : ByteArray := prog_1_method_17_code
def y_Hall_freeze : MethodName := ⟨R_Hall, "freeze", "(I)I"⟩
abbrev b_Hall_automaton : ByteArray := prog_1_method_18_code
def y_Hall_automaton : MethodName := ⟨R_Hall, "automaton", "(I)I"⟩
abbrev b_Hall_insert : ByteArray := prog_1_method_19_code
def y_Hall_insert : MethodName := ⟨R_Hall, "insert", "(I)I"⟩
abbrev b_Hall_delete : ByteArray := prog_1_method_20_code
def y_Hall_delete : MethodName := ⟨R_Hall, "delete", "(II)I"⟩
abbrev b_Hall_undo : ByteArray := prog_1_method_21_code
def y_Hall_undo : MethodName := ⟨R_Hall, "undo", "()I"⟩
abbrev b_Hall_letter : ByteArray := prog_1_method_22_code
def y_Hall_letter : MethodName := ⟨R_Hall, "letter", "(I)I"⟩
abbrev b_Hall_suffix : ByteArray := prog_1_method_23_code
def y_Hall_suffix : MethodName := ⟨R_Hall, "suffix", "(II)I"⟩
abbrev b_Hall_locate : ByteArray := prog_1_method_24_code
def y_Hall_locate : MethodName := ⟨R_Hall, "locate", "(I)I"⟩
abbrev b_Hall_useTape : ByteArray := prog_1_method_25_code
def y_Hall_useTape : MethodName := ⟨R_Hall, "useTape", "()V"⟩
abbrev b_Hall_isView : ByteArray := prog_1_method_26_code
def y_Hall_isView : MethodName := ⟨R_Hall, "isView", "(I)Z"⟩
abbrev b_Hall_viewNumbered : ByteArray := prog_1_method_27_code
def y_Hall_viewNumbered : MethodName := ⟨R_Hall, "viewNumbered", "(I)LKeyHall$View;"⟩
abbrev b_Hall_measured : ByteArray := prog_1_method_28_code
def y_Hall_measured : MethodName := ⟨R_Hall, "measured", "(I)LKeyHall$View;"⟩
abbrev b_Hall_tell : ByteArray := prog_1_method_29_code
def y_Hall_tell : MethodName := ⟨R_Hall, "tell", "(LKeyHall$View;I)I"⟩
abbrev b_Model_init : ByteArray := prog_12_method_1_code
def y_Model_init : MethodName := ⟨R_Model, "<init>", "()V"⟩
abbrev b_Model_thrown : ByteArray := prog_12_method_2_code
def y_Model_thrown : MethodName := ⟨R_Model, "thrown", "()I"⟩
abbrev b_Model_raise : ByteArray := prog_12_method_3_code
def y_Model_raise : MethodName := ⟨R_Model, "raise", "(I)I"⟩
abbrev b_Model_type : ByteArray := prog_12_method_4_code
def y_Model_type : MethodName := ⟨R_Model, "type", "(JI)Z"⟩
abbrev b_Model_order : ByteArray := prog_12_method_5_code
def y_Model_order : MethodName := ⟨R_Model, "order", "([III[III)I"⟩
abbrev b_Model_begins : ByteArray := prog_12_method_6_code
def y_Model_begins : MethodName := ⟨R_Model, "begins", "([III[III)Z"⟩
abbrev b_Model_orderOf : ByteArray := prog_12_method_7_code
def y_Model_orderOf : MethodName := ⟨R_Model, "orderOf", "(I[III)I"⟩
abbrev b_Model_isView : ByteArray := prog_12_method_8_code
def y_Model_isView : MethodName := ⟨R_Model, "isView", "(I)Z"⟩
abbrev b_Model_mapOf : ByteArray := prog_12_method_9_code
def y_Model_mapOf : MethodName := ⟨R_Model, "mapOf", "(I)I"⟩
abbrev b_Model_isTurned : ByteArray := prog_12_method_10_code
def y_Model_isTurned : MethodName := ⟨R_Model, "isTurned", "(I)Z"⟩
abbrev b_Model_within : ByteArray := prog_12_method_11_code
def y_Model_within : MethodName := ⟨R_Model, "within", "(I[III)Z"⟩
abbrev b_Model_has : ByteArray := prog_12_method_12_code
def y_Model_has : MethodName := ⟨R_Model, "has", "(II)Z"⟩
abbrev b_Model_view : ByteArray := prog_12_method_13_code
def y_Model_view : MethodName := ⟨R_Model, "view", "(II)I"⟩
abbrev b_Model_keyOf : ByteArray := prog_12_method_14_code
def y_Model_keyOf : MethodName := ⟨R_Model, "keyOf", "(I[III)I"⟩
abbrev b_Model_clear : ByteArray := prog_12_method_15_code
def y_Model_clear : MethodName := ⟨R_Model, "clear", "(II)V"⟩
abbrev b_Model_put : ByteArray := prog_12_method_16_code
def y_Model_put : MethodName := ⟨R_Model, "put", "(II)I"⟩
abbrev b_Model_used : ByteArray := prog_12_method_17_code
def y_Model_used : MethodName := ⟨R_Model, "used", "(I)I"⟩
abbrev b_Model_get : ByteArray := prog_12_method_18_code
def y_Model_get : MethodName := ⟨R_Model, "get", "(I)I"⟩
abbrev b_Model_remove : ByteArray := prog_12_method_19_code
def y_Model_remove : MethodName := ⟨R_Model, "remove", "(I)I"⟩
abbrev b_Model_size : ByteArray := prog_12_method_20_code
def y_Model_size : MethodName := ⟨R_Model, "size", "(I)I"⟩
abbrev b_Model_side : ByteArray := prog_12_method_21_code
def y_Model_side : MethodName := ⟨R_Model, "side", "(II[III)I"⟩
abbrev b_Model_nearest : ByteArray := prog_12_method_22_code
def y_Model_nearest : MethodName := ⟨R_Model, "nearest", "(IZZ[III)I"⟩
abbrev b_Model_longest : ByteArray := prog_12_method_23_code
def y_Model_longest : MethodName := ⟨R_Model, "longest", "(II)I"⟩
abbrev b_Model_tell : ByteArray := prog_12_method_24_code
def y_Model_tell : MethodName := ⟨R_Model, "tell", "(II)I"⟩
abbrev b_Model_find : ByteArray := prog_12_method_25_code
def y_Model_find : MethodName := ⟨R_Model, "find", "(II)I"⟩
abbrev b_Model_at : ByteArray := prog_12_method_26_code
def y_Model_at : MethodName := ⟨R_Model, "at", "(II)I"⟩
abbrev b_Model_poll : ByteArray := prog_12_method_27_code
def y_Model_poll : MethodName := ⟨R_Model, "poll", "(IZ)I"⟩
abbrev b_Model_found : ByteArray := prog_12_method_28_code
def y_Model_found : MethodName := ⟨R_Model, "found", "(I)I"⟩
abbrev b_Model_iterate : ByteArray := prog_12_method_29_code
def y_Model_iterate : MethodName := ⟨R_Model, "iterate", "(I)Z"⟩
abbrev b_Model_stale : ByteArray := prog_12_method_30_code
def y_Model_stale : MethodName := ⟨R_Model, "stale", "(I)Z"⟩
abbrev b_Model_next : ByteArray := prog_12_method_31_code
def y_Model_next : MethodName := ⟨R_Model, "next", "(I)I"⟩
abbrev b_Model_drop : ByteArray := prog_12_method_32_code
def y_Model_drop : MethodName := ⟨R_Model, "drop", "(I)I"⟩
abbrev b_Model_match : ByteArray := prog_12_method_33_code
def y_Model_match : MethodName := ⟨R_Model, "match", "(II)I"⟩
abbrev b_Model_octet : ByteArray := prog_12_method_34_code
def y_Model_octet : MethodName := ⟨R_Model, "octet", "(II)I"⟩
abbrev b_Model_sameBytes : ByteArray := prog_12_method_35_code
def y_Model_sameBytes : MethodName := ⟨R_Model, "sameBytes", "(III)Z"⟩
abbrev b_Model_fan : ByteArray := prog_12_method_36_code
def y_Model_fan : MethodName := ⟨R_Model, "fan", "(II)I"⟩
abbrev b_Model_inner : ByteArray := prog_12_method_37_code
def y_Model_inner : MethodName := ⟨R_Model, "inner", "(I)I"⟩
abbrev b_Model_bit : ByteArray := prog_12_method_38_code
def y_Model_bit : MethodName := ⟨R_Model, "bit", "(II)I"⟩
abbrev b_Model_depth : ByteArray := prog_12_method_39_code
def y_Model_depth : MethodName := ⟨R_Model, "depth", "(I)I"⟩
abbrev b_Model_edges : ByteArray := prog_12_method_40_code
def y_Model_edges : MethodName := ⟨R_Model, "edges", "(I)I"⟩
abbrev b_Model_samePrefix : ByteArray := prog_12_method_41_code
def y_Model_samePrefix : MethodName := ⟨R_Model, "samePrefix", "(III)Z"⟩
abbrev b_Model_freeze : ByteArray := prog_12_method_42_code
def y_Model_freeze : MethodName := ⟨R_Model, "freeze", "(I)I"⟩
abbrev b_Model_prefixesOf : ByteArray := prog_12_method_43_code
def y_Model_prefixesOf : MethodName := ⟨R_Model, "prefixesOf", "(II)V"⟩
abbrev b_Model_follows : ByteArray := prog_12_method_44_code
def y_Model_follows : MethodName := ⟨R_Model, "follows", "(II)Z"⟩
abbrev b_Model_endsAt : ByteArray := prog_12_method_45_code
def y_Model_endsAt : MethodName := ⟨R_Model, "endsAt", "(II)Z"⟩
abbrev b_Model_state : ByteArray := prog_12_method_46_code
def y_Model_state : MethodName := ⟨R_Model, "state", "(II)V"⟩
abbrev b_Model_stepsOf : ByteArray := prog_12_method_47_code
def y_Model_stepsOf : MethodName := ⟨R_Model, "stepsOf", "(I)I"⟩
abbrev b_Model_go : ByteArray := prog_12_method_48_code
def y_Model_go : MethodName := ⟨R_Model, "go", "(II)I"⟩
abbrev b_Model_alike : ByteArray := prog_12_method_49_code
def y_Model_alike : MethodName := ⟨R_Model, "alike", "(II)Z"⟩
abbrev b_Model_automaton : ByteArray := prog_12_method_50_code
def y_Model_automaton : MethodName := ⟨R_Model, "automaton", "(I)I"⟩
abbrev b_Model_keep : ByteArray := prog_12_method_51_code
def y_Model_keep : MethodName := ⟨R_Model, "keep", "()V"⟩
abbrev b_Model_insert : ByteArray := prog_12_method_52_code
def y_Model_insert : MethodName := ⟨R_Model, "insert", "(I)I"⟩
abbrev b_Model_delete : ByteArray := prog_12_method_53_code
def y_Model_delete : MethodName := ⟨R_Model, "delete", "(II)I"⟩
abbrev b_Model_undo : ByteArray := prog_12_method_54_code
def y_Model_undo : MethodName := ⟨R_Model, "undo", "()I"⟩
abbrev b_Model_letter : ByteArray := prog_12_method_55_code
def y_Model_letter : MethodName := ⟨R_Model, "letter", "(I)I"⟩
abbrev b_Model_begin : ByteArray := prog_12_method_56_code
def y_Model_begin : MethodName := ⟨R_Model, "begin", "(I)I"⟩
abbrev b_Model_suffix : ByteArray := prog_12_method_57_code
def y_Model_suffix : MethodName := ⟨R_Model, "suffix", "(II)I"⟩
abbrev b_Model_locate : ByteArray := prog_12_method_58_code
def y_Model_locate : MethodName := ⟨R_Model, "locate", "(I)I"⟩
abbrev b_Law_view : ByteArray := method_3_code
def y_Law_view : MethodName := ⟨R_Law, "view", "(LKeyHall;II[J)I"⟩
abbrev b_Law_put : ByteArray := method_4_code
def y_Law_put : MethodName := ⟨R_Law, "put", "(LKeyHall;II[J)I"⟩
abbrev b_Law_get : ByteArray := method_5_code
def y_Law_get : MethodName := ⟨R_Law, "get", "(LKeyHall;I[J)I"⟩
abbrev b_Law_remove : ByteArray := method_6_code
def y_Law_remove : MethodName := ⟨R_Law, "remove", "(LKeyHall;I[J)I"⟩
abbrev b_Law_find : ByteArray := method_7_code
def y_Law_find : MethodName := ⟨R_Law, "find", "(LKeyHall;II[J)I"⟩
abbrev b_Law_at : ByteArray := method_8_code
def y_Law_at : MethodName := ⟨R_Law, "at", "(LKeyHall;II[J)I"⟩
abbrev b_Law_poll : ByteArray := method_9_code
def y_Law_poll : MethodName := ⟨R_Law, "poll", "(LKeyHall;IZ[J)I"⟩
abbrev b_Law_next : ByteArray := method_10_code
def y_Law_next : MethodName := ⟨R_Law, "next", "(LKeyHall;I[J)I"⟩
abbrev b_Law_drop : ByteArray := method_11_code
def y_Law_drop : MethodName := ⟨R_Law, "drop", "(LKeyHall;I[J)I"⟩
abbrev b_Law_match : ByteArray := method_12_code
def y_Law_match : MethodName := ⟨R_Law, "match", "(LKeyHall;II[J)I"⟩
abbrev b_Law_edges : ByteArray := method_13_code
def y_Law_edges : MethodName := ⟨R_Law, "edges", "(LKeyHall;I[J)I"⟩
abbrev b_Law_freeze : ByteArray := method_14_code
def y_Law_freeze : MethodName := ⟨R_Law, "freeze", "(LKeyHall;I[J)I"⟩
abbrev b_Law_insert : ByteArray := method_15_code
def y_Law_insert : MethodName := ⟨R_Law, "insert", "(LKeyHall;I[J)I"⟩
abbrev b_Law_delete : ByteArray := method_16_code
def y_Law_delete : MethodName := ⟨R_Law, "delete", "(LKeyHall;II[J)I"⟩
theorem ka_int : Cond.arrayClass .int ∈ gWS := by decide +kernel
theorem ka_boolean : Cond.arrayClass .boolean ∈ gWS := by decide +kernel
theorem ka_long : Cond.arrayClass .long ∈ gWS := by decide +kernel
end
section
/-! printed by wip/tools/names.py: links -/
theorem mo_Key_3 : Cond.methodLink R_Key 3 objectInit ∈ gWS ∧ Cond.instanceMethod objectInit ∈ gWS ∧ Cond.code objectInit ⟨#[0xb1]⟩ 1 none ∈ gWS := ⟨(gWS_at 71 (by decide +kernel) (by decide +kernel)), (gWS_at 64 (by decide +kernel) (by decide +kernel)), (gWS_at 65 (by decide +kernel) (by decide +kernel))⟩
theorem lk_Key_9 : Cond.fieldLink R_Key 9 "KeyHall$Key" "letters" "[I" ∈ gWS := (gWS_at 72 (by decide +kernel) (by decide +kernel))
theorem lk_Key_15 : Cond.fieldLink R_Key 15 "KeyHall$Key" "length" "I" ∈ gWS := (gWS_at 77 (by decide +kernel) (by decide +kernel))
theorem mq_Key_19 : Cond.methodLink R_Key 19 arraycopyName ∈ gWS ∧ Cond.native arraycopyName ∈ gWS ∧ Cond.static arraycopyName ∈ gWS ∧ Cond.initialized "java/lang/System" ∈ gWS := ⟨(gWS_at 465 (by decide +kernel) (by decide +kernel)), (gWS_at 467 (by decide +kernel) (by decide +kernel)), (gWS_at 466 (by decide +kernel) (by decide +kernel)), (gWS_at 53 (by decide +kernel) (by decide +kernel))⟩
theorem mc_Key_shared : Cond.code y_Key_shared b_Key_shared 3 (some .int) ∈ gWS := (gWS_at 432 (by decide +kernel) (by decide +kernel))
theorem mi_Key_shared : Cond.instanceMethod y_Key_shared ∈ gWS ∧ Cond.initialized R_Key ∈ gWS := ⟨(gWS_at 430 (by decide +kernel) (by decide +kernel)), (gWS_at 39 (by decide +kernel) (by decide +kernel))⟩
theorem msl_Key_shared : Cond.selects R_Key y_Key_shared y_Key_shared ∈ gWS := (gWS_at 431 (by decide +kernel) (by decide +kernel))
theorem mw_Key_25 : gwV gWS R_Key 25 y_Key_shared b_Key_shared 3 (some .int) 1 := gwV_of (gWS_at 429 (by decide +kernel) (by decide +kernel)) mi_Key_shared.1 msl_Key_shared mi_Key_shared.2 mc_Key_shared (by decide +kernel)
theorem mo_KeyMap_3 : Cond.methodLink R_KeyMap 3 objectInit ∈ gWS ∧ Cond.instanceMethod objectInit ∈ gWS ∧ Cond.code objectInit ⟨#[0xb1]⟩ 1 none ∈ gWS := ⟨(gWS_at 97 (by decide +kernel) (by decide +kernel)), (gWS_at 64 (by decide +kernel) (by decide +kernel)), (gWS_at 65 (by decide +kernel) (by decide +kernel))⟩
theorem lk_KeyMap_9 : Cond.classLink R_KeyMap 9 "KeyHall$Key" ∈ gWS := (gWS_at 98 (by decide +kernel) (by decide +kernel))
theorem lk_KeyMap_11 : Cond.fieldLink R_KeyMap 11 "KeyHall$KeyMap" "keys" "[LKeyHall$Key;" ∈ gWS := (gWS_at 101 (by decide +kernel) (by decide +kernel))
theorem mc_Key_init : Cond.code y_Key_init b_Key_init 1 none ∈ gWS := (gWS_at 70 (by decide +kernel) (by decide +kernel))
theorem mi_Key_init : Cond.instanceMethod y_Key_init ∈ gWS ∧ Cond.initialized R_Key ∈ gWS := ⟨(gWS_at 69 (by decide +kernel) (by decide +kernel)), (gWS_at 39 (by decide +kernel) (by decide +kernel))⟩
theorem mw_KeyMap_17 : gwI gWS R_KeyMap 17 y_Key_init b_Key_init 1 0 := gwI_of (gWS_at 100 (by decide +kernel) (by decide +kernel)) mi_Key_init.1 mi_Key_init.2 mc_Key_init rfl (by decide +kernel)
theorem lk_KeyMap_18 : Cond.fieldLink R_KeyMap 18 "KeyHall$KeyMap" "values" "[I" ∈ gWS := (gWS_at 106 (by decide +kernel) (by decide +kernel))
theorem lk_KeyMap_22 : Cond.fieldLink R_KeyMap 22 "KeyHall$KeyMap" "count" "I" ∈ gWS := (gWS_at 109 (by decide +kernel) (by decide +kernel))
theorem mc_Key_order : Cond.code y_Key_order b_Key_order 3 (some .int) ∈ gWS := (gWS_at 436 (by decide +kernel) (by decide +kernel))
theorem mi_Key_order : Cond.instanceMethod y_Key_order ∈ gWS ∧ Cond.initialized R_Key ∈ gWS := ⟨(gWS_at 434 (by decide +kernel) (by decide +kernel)), (gWS_at 39 (by decide +kernel) (by decide +kernel))⟩
theorem msl_Key_order : Cond.selects R_Key y_Key_order y_Key_order ∈ gWS := (gWS_at 435 (by decide +kernel) (by decide +kernel))
theorem mw_KeyMap_26 : gwV gWS R_KeyMap 26 y_Key_order b_Key_order 3 (some .int) 1 := gwV_of (gWS_at 588 (by decide +kernel) (by decide +kernel)) mi_Key_order.1 msl_Key_order mi_Key_order.2 mc_Key_order (by decide +kernel)
theorem mc_KeyMap_countLess : Cond.code y_KeyMap_countLess b_KeyMap_countLess 3 (some .int) ∈ gWS := (gWS_at 587 (by decide +kernel) (by decide +kernel))
theorem mi_KeyMap_countLess : Cond.instanceMethod y_KeyMap_countLess ∈ gWS ∧ Cond.initialized R_KeyMap ∈ gWS := ⟨(gWS_at 585 (by decide +kernel) (by decide +kernel)), (gWS_at 41 (by decide +kernel) (by decide +kernel))⟩
theorem msl_KeyMap_countLess : Cond.selects R_KeyMap y_KeyMap_countLess y_KeyMap_countLess ∈ gWS := (gWS_at 586 (by decide +kernel) (by decide +kernel))
theorem mw_KeyMap_30 : gwV gWS R_KeyMap 30 y_KeyMap_countLess b_KeyMap_countLess 3 (some .int) 1 := gwV_of (gWS_at 584 (by decide +kernel) (by decide +kernel)) mi_KeyMap_countLess.1 msl_KeyMap_countLess mi_KeyMap_countLess.2 mc_KeyMap_countLess (by decide +kernel)
theorem mc_Key_become : Cond.code y_Key_become b_Key_become 2 none ∈ gWS := (gWS_at 464 (by decide +kernel) (by decide +kernel))
theorem mi_Key_become : Cond.instanceMethod y_Key_become ∈ gWS ∧ Cond.initialized R_Key ∈ gWS := ⟨(gWS_at 462 (by decide +kernel) (by decide +kernel)), (gWS_at 39 (by decide +kernel) (by decide +kernel))⟩
theorem msl_Key_become : Cond.selects R_Key y_Key_become y_Key_become ∈ gWS := (gWS_at 463 (by decide +kernel) (by decide +kernel))
theorem mw_KeyMap_33 : gwV gWS R_KeyMap 33 y_Key_become b_Key_become 2 none 1 := gwV_of (gWS_at 608 (by decide +kernel) (by decide +kernel)) mi_Key_become.1 msl_Key_become mi_Key_become.2 mc_Key_become (by decide +kernel)
theorem lk_KeyMap_37 : Cond.fieldLink R_KeyMap 37 "KeyHall$KeyMap" "changes" "I" ∈ gWS := (gWS_at 112 (by decide +kernel) (by decide +kernel))
theorem mo_View_3 : Cond.methodLink R_View 3 objectInit ∈ gWS ∧ Cond.instanceMethod objectInit ∈ gWS ∧ Cond.code objectInit ⟨#[0xb1]⟩ 1 none ∈ gWS := ⟨(gWS_at 126 (by decide +kernel) (by decide +kernel)), (gWS_at 64 (by decide +kernel) (by decide +kernel)), (gWS_at 65 (by decide +kernel) (by decide +kernel))⟩
theorem lk_View_9 : Cond.fieldLink R_View 9 "KeyHall$View" "map" "LKeyHall$KeyMap;" ∈ gWS := (gWS_at 150 (by decide +kernel) (by decide +kernel))
theorem lk_View_15 : Cond.fieldLink R_View 15 "KeyHall$View" "origin" "LKeyHall$View;" ∈ gWS := (gWS_at 153 (by decide +kernel) (by decide +kernel))
theorem lk_View_19 : Cond.fieldLink R_View 19 "KeyHall$View" "sort" "I" ∈ gWS := (gWS_at 154 (by decide +kernel) (by decide +kernel))
theorem lk_View_23 : Cond.classLink R_View 23 "KeyHall$Key" ∈ gWS := (gWS_at 127 (by decide +kernel) (by decide +kernel))
theorem mw_View_25 : gwI gWS R_View 25 y_Key_init b_Key_init 1 0 := gwI_of (gWS_at 128 (by decide +kernel) (by decide +kernel)) mi_Key_init.1 mi_Key_init.2 mc_Key_init rfl (by decide +kernel)
theorem lk_View_26 : Cond.fieldLink R_View 26 "KeyHall$View" "bound" "LKeyHall$Key;" ∈ gWS := (gWS_at 155 (by decide +kernel) (by decide +kernel))
theorem lk_View_30 : Cond.fieldLink R_View 30 "KeyHall$View" "turned" "Z" ∈ gWS := (gWS_at 156 (by decide +kernel) (by decide +kernel))
theorem lk_View_34 : Cond.classLink R_View 34 "KeyHall$Walker" ∈ gWS := (gWS_at 129 (by decide +kernel) (by decide +kernel))
theorem mc_Walker_init : Cond.code y_Walker_init b_Walker_init 1 none ∈ gWS := (gWS_at 133 (by decide +kernel) (by decide +kernel))
theorem mi_Walker_init : Cond.instanceMethod y_Walker_init ∈ gWS ∧ Cond.initialized R_Walker ∈ gWS := ⟨(gWS_at 132 (by decide +kernel) (by decide +kernel)), (gWS_at 42 (by decide +kernel) (by decide +kernel))⟩
theorem lk_View_37 : Cond.fieldLink R_View 37 "KeyHall$View" "walker" "LKeyHall$Walker;" ∈ gWS := (gWS_at 157 (by decide +kernel) (by decide +kernel))
theorem mw_View_41 : gwV gWS R_View 41 y_Key_become b_Key_become 2 none 1 := gwV_of (gWS_at 554 (by decide +kernel) (by decide +kernel)) mi_Key_become.1 msl_Key_become mi_Key_become.2 mc_Key_become (by decide +kernel)
theorem mc_View_bounds : Cond.code y_View_bounds b_View_bounds 2 (some .boolean) ∈ gWS := (gWS_at 424 (by decide +kernel) (by decide +kernel))
theorem mi_View_bounds : Cond.instanceMethod y_View_bounds ∈ gWS ∧ Cond.initialized R_View ∈ gWS := ⟨(gWS_at 422 (by decide +kernel) (by decide +kernel)), (gWS_at 40 (by decide +kernel) (by decide +kernel))⟩
theorem msl_View_bounds : Cond.selects R_View y_View_bounds y_View_bounds ∈ gWS := (gWS_at 423 (by decide +kernel) (by decide +kernel))
theorem mw_View_45 : gwV gWS R_View 45 y_View_bounds b_View_bounds 2 (some .boolean) 1 := gwV_of (gWS_at 421 (by decide +kernel) (by decide +kernel)) mi_View_bounds.1 msl_View_bounds mi_View_bounds.2 mc_View_bounds (by decide +kernel)
theorem mc_Key_beginsWith : Cond.code y_Key_beginsWith b_Key_beginsWith 2 (some .boolean) ∈ gWS := (gWS_at 428 (by decide +kernel) (by decide +kernel))
theorem mi_Key_beginsWith : Cond.instanceMethod y_Key_beginsWith ∈ gWS ∧ Cond.initialized R_Key ∈ gWS := ⟨(gWS_at 426 (by decide +kernel) (by decide +kernel)), (gWS_at 39 (by decide +kernel) (by decide +kernel))⟩
theorem msl_Key_beginsWith : Cond.selects R_Key y_Key_beginsWith y_Key_beginsWith ∈ gWS := (gWS_at 427 (by decide +kernel) (by decide +kernel))
theorem mw_View_49 : gwV gWS R_View 49 y_Key_beginsWith b_Key_beginsWith 2 (some .boolean) 1 := gwV_of (gWS_at 425 (by decide +kernel) (by decide +kernel)) mi_Key_beginsWith.1 msl_Key_beginsWith mi_Key_beginsWith.2 mc_Key_beginsWith (by decide +kernel)
theorem mw_View_52 : gwV gWS R_View 52 y_Key_order b_Key_order 3 (some .int) 1 := gwV_of (gWS_at 433 (by decide +kernel) (by decide +kernel)) mi_Key_order.1 msl_Key_order mi_Key_order.2 mc_Key_order (by decide +kernel)
theorem lk_View_56 : Cond.fieldLink R_View 56 "KeyHall$View" "from" "I" ∈ gWS := (gWS_at 160 (by decide +kernel) (by decide +kernel))
theorem lk_View_59 : Cond.fieldLink R_View 59 "KeyHall$KeyMap" "count" "I" ∈ gWS := (gWS_at 111 (by decide +kernel) (by decide +kernel))
theorem lk_View_64 : Cond.fieldLink R_View 64 "KeyHall$KeyMap" "keys" "[LKeyHall$Key;" ∈ gWS := (gWS_at 104 (by decide +kernel) (by decide +kernel))
theorem mc_View_admits : Cond.code y_View_admits b_View_admits 3 (some .boolean) ∈ gWS := (gWS_at 420 (by decide +kernel) (by decide +kernel))
theorem mi_View_admits : Cond.instanceMethod y_View_admits ∈ gWS ∧ Cond.initialized R_View ∈ gWS := ⟨(gWS_at 418 (by decide +kernel) (by decide +kernel)), (gWS_at 40 (by decide +kernel) (by decide +kernel))⟩
theorem msl_View_admits : Cond.selects R_View y_View_admits y_View_admits ∈ gWS := (gWS_at 419 (by decide +kernel) (by decide +kernel))
theorem mw_View_68 : gwV gWS R_View 68 y_View_admits b_View_admits 3 (some .boolean) 1 := gwV_of (gWS_at 417 (by decide +kernel) (by decide +kernel)) mi_View_admits.1 msl_View_admits mi_View_admits.2 mc_View_admits (by decide +kernel)
theorem lk_View_71 : Cond.fieldLink R_View 71 "KeyHall$View" "to" "I" ∈ gWS := (gWS_at 162 (by decide +kernel) (by decide +kernel))
theorem mc_KeyMap_placeOf : Cond.code y_KeyMap_placeOf b_KeyMap_placeOf 3 (some .int) ∈ gWS := (gWS_at 583 (by decide +kernel) (by decide +kernel))
theorem mi_KeyMap_placeOf : Cond.instanceMethod y_KeyMap_placeOf ∈ gWS ∧ Cond.initialized R_KeyMap ∈ gWS := ⟨(gWS_at 581 (by decide +kernel) (by decide +kernel)), (gWS_at 41 (by decide +kernel) (by decide +kernel))⟩
theorem msl_KeyMap_placeOf : Cond.selects R_KeyMap y_KeyMap_placeOf y_KeyMap_placeOf ∈ gWS := (gWS_at 582 (by decide +kernel) (by decide +kernel))
theorem mw_View_74 : gwV gWS R_View 74 y_KeyMap_placeOf b_KeyMap_placeOf 3 (some .int) 1 := gwV_of (gWS_at 620 (by decide +kernel) (by decide +kernel)) mi_KeyMap_placeOf.1 msl_KeyMap_placeOf mi_KeyMap_placeOf.2 mc_KeyMap_placeOf (by decide +kernel)
theorem mc_View_countBefore : Cond.code y_View_countBefore b_View_countBefore 7 (some .int) ∈ gWS := (gWS_at 647 (by decide +kernel) (by decide +kernel))
theorem mi_View_countBefore : Cond.instanceMethod y_View_countBefore ∈ gWS ∧ Cond.initialized R_View ∈ gWS := ⟨(gWS_at 645 (by decide +kernel) (by decide +kernel)), (gWS_at 40 (by decide +kernel) (by decide +kernel))⟩
theorem msl_View_countBefore : Cond.selects R_View y_View_countBefore y_View_countBefore ∈ gWS := (gWS_at 646 (by decide +kernel) (by decide +kernel))
theorem mw_View_77 : gwV gWS R_View 77 y_View_countBefore b_View_countBefore 7 (some .int) 2 := gwV_of (gWS_at 644 (by decide +kernel) (by decide +kernel)) mi_View_countBefore.1 msl_View_countBefore mi_View_countBefore.2 mc_View_countBefore (by decide +kernel)
theorem mc_View_count : Cond.code y_View_count b_View_count 1 (some .int) ∈ gWS := (gWS_at 440 (by decide +kernel) (by decide +kernel))
theorem mi_View_count : Cond.instanceMethod y_View_count ∈ gWS ∧ Cond.initialized R_View ∈ gWS := ⟨(gWS_at 438 (by decide +kernel) (by decide +kernel)), (gWS_at 40 (by decide +kernel) (by decide +kernel))⟩
theorem msl_View_count : Cond.selects R_View y_View_count y_View_count ∈ gWS := (gWS_at 439 (by decide +kernel) (by decide +kernel))
theorem mw_View_81 : gwV gWS R_View 81 y_View_count b_View_count 1 (some .int) 0 := gwV_of (gWS_at 648 (by decide +kernel) (by decide +kernel)) mi_View_count.1 msl_View_count mi_View_count.2 mc_View_count (by decide +kernel)
theorem mc_View_rankOfLongestStart : Cond.code y_View_rankOfLongestStart b_View_rankOfLongestStart 6 (some .int) ∈ gWS := (gWS_at 652 (by decide +kernel) (by decide +kernel))
theorem mi_View_rankOfLongestStart : Cond.instanceMethod y_View_rankOfLongestStart ∈ gWS ∧ Cond.initialized R_View ∈ gWS := ⟨(gWS_at 650 (by decide +kernel) (by decide +kernel)), (gWS_at 40 (by decide +kernel) (by decide +kernel))⟩
theorem msl_View_rankOfLongestStart : Cond.selects R_View y_View_rankOfLongestStart y_View_rankOfLongestStart ∈ gWS := (gWS_at 651 (by decide +kernel) (by decide +kernel))
theorem mw_View_84 : gwV gWS R_View 84 y_View_rankOfLongestStart b_View_rankOfLongestStart 6 (some .int) 1 := gwV_of (gWS_at 649 (by decide +kernel) (by decide +kernel)) mi_View_rankOfLongestStart.1 msl_View_rankOfLongestStart mi_View_rankOfLongestStart.2 mc_View_rankOfLongestStart (by decide +kernel)
theorem mc_View_placeRanked : Cond.code y_View_placeRanked b_View_placeRanked 2 (some .int) ∈ gWS := (gWS_at 656 (by decide +kernel) (by decide +kernel))
theorem mi_View_placeRanked : Cond.instanceMethod y_View_placeRanked ∈ gWS ∧ Cond.initialized R_View ∈ gWS := ⟨(gWS_at 654 (by decide +kernel) (by decide +kernel)), (gWS_at 40 (by decide +kernel) (by decide +kernel))⟩
theorem msl_View_placeRanked : Cond.selects R_View y_View_placeRanked y_View_placeRanked ∈ gWS := (gWS_at 655 (by decide +kernel) (by decide +kernel))
theorem mw_View_87 : gwV gWS R_View 87 y_View_placeRanked b_View_placeRanked 2 (some .int) 1 := gwV_of (gWS_at 653 (by decide +kernel) (by decide +kernel)) mi_View_placeRanked.1 msl_View_placeRanked mi_View_placeRanked.2 mc_View_placeRanked (by decide +kernel)
theorem lk_View_91 : Cond.fieldLink R_View 91 "KeyHall$Key" "length" "I" ∈ gWS := (gWS_at 82 (by decide +kernel) (by decide +kernel))
theorem mo_Walker_1 : Cond.methodLink R_Walker 1 objectInit ∈ gWS ∧ Cond.instanceMethod objectInit ∈ gWS ∧ Cond.code objectInit ⟨#[0xb1]⟩ 1 none ∈ gWS := ⟨(gWS_at 134 (by decide +kernel) (by decide +kernel)), (gWS_at 64 (by decide +kernel) (by decide +kernel)), (gWS_at 65 (by decide +kernel) (by decide +kernel))⟩
theorem lk_Walker_7 : Cond.fieldLink R_Walker 7 "KeyHall$Walker" "begun" "Z" ∈ gWS := (gWS_at 135 (by decide +kernel) (by decide +kernel))
theorem lk_Walker_13 : Cond.fieldLink R_Walker 13 "KeyHall$Walker" "behind" "I" ∈ gWS := (gWS_at 136 (by decide +kernel) (by decide +kernel))
theorem lk_Walker_17 : Cond.fieldLink R_Walker 17 "KeyHall$Walker" "hasTold" "Z" ∈ gWS := (gWS_at 138 (by decide +kernel) (by decide +kernel))
theorem lk_Walker_20 : Cond.fieldLink R_Walker 20 "KeyHall$Walker" "changesKnown" "I" ∈ gWS := (gWS_at 140 (by decide +kernel) (by decide +kernel))
theorem mo_Edges_3 : Cond.methodLink R_Edges 3 objectInit ∈ gWS ∧ Cond.instanceMethod objectInit ∈ gWS ∧ Cond.code objectInit ⟨#[0xb1]⟩ 1 none ∈ gWS := ⟨(gWS_at 186 (by decide +kernel) (by decide +kernel)), (gWS_at 64 (by decide +kernel) (by decide +kernel)), (gWS_at 65 (by decide +kernel) (by decide +kernel))⟩
theorem lk_Edges_9 : Cond.fieldLink R_Edges 9 "KeyHall$Edges" "sharedBytes" "[I" ∈ gWS := (gWS_at 187 (by decide +kernel) (by decide +kernel))
theorem lk_Edges_15 : Cond.fieldLink R_Edges 15 "KeyHall$Edges" "differsAt" "[Z" ∈ gWS := (gWS_at 188 (by decide +kernel) (by decide +kernel))
theorem lk_Edges_19 : Cond.fieldLink R_Edges 19 "KeyHall$KeyMap" "count" "I" ∈ gWS := (gWS_at 108 (by decide +kernel) (by decide +kernel))
theorem lk_Edges_25 : Cond.fieldLink R_Edges 25 "KeyHall$KeyMap" "keys" "[LKeyHall$Key;" ∈ gWS := (gWS_at 102 (by decide +kernel) (by decide +kernel))
theorem mc_Edges_countSharedBytes : Cond.code y_Edges_countSharedBytes b_Edges_countSharedBytes 5 (some .int) ∈ gWS := (gWS_at 746 (by decide +kernel) (by decide +kernel))
theorem mi_Edges_countSharedBytes : Cond.instanceMethod y_Edges_countSharedBytes ∈ gWS ∧ Cond.initialized R_Edges ∈ gWS := ⟨(gWS_at 744 (by decide +kernel) (by decide +kernel)), (gWS_at 43 (by decide +kernel) (by decide +kernel))⟩
theorem msl_Edges_countSharedBytes : Cond.selects R_Edges y_Edges_countSharedBytes y_Edges_countSharedBytes ∈ gWS := (gWS_at 745 (by decide +kernel) (by decide +kernel))
theorem mw_Edges_29 : gwV gWS R_Edges 29 y_Edges_countSharedBytes b_Edges_countSharedBytes 5 (some .int) 2 := gwV_of (gWS_at 743 (by decide +kernel) (by decide +kernel)) mi_Edges_countSharedBytes.1 msl_Edges_countSharedBytes mi_Edges_countSharedBytes.2 mc_Edges_countSharedBytes (by decide +kernel)
theorem mc_Edges_isNewText : Cond.code y_Edges_isNewText b_Edges_isNewText 3 (some .boolean) ∈ gWS := (gWS_at 751 (by decide +kernel) (by decide +kernel))
theorem mi_Edges_isNewText : Cond.instanceMethod y_Edges_isNewText ∈ gWS ∧ Cond.initialized R_Edges ∈ gWS := ⟨(gWS_at 749 (by decide +kernel) (by decide +kernel)), (gWS_at 43 (by decide +kernel) (by decide +kernel))⟩
theorem msl_Edges_isNewText : Cond.selects R_Edges y_Edges_isNewText y_Edges_isNewText ∈ gWS := (gWS_at 750 (by decide +kernel) (by decide +kernel))
theorem mw_Edges_33 : gwV gWS R_Edges 33 y_Edges_isNewText b_Edges_isNewText 3 (some .boolean) 1 := gwV_of (gWS_at 748 (by decide +kernel) (by decide +kernel)) mi_Edges_isNewText.1 msl_Edges_isNewText mi_Edges_isNewText.2 mc_Edges_isNewText (by decide +kernel)
theorem mc_Edges_fan : Cond.code y_Edges_fan b_Edges_fan 7 (some .int) ∈ gWS := (gWS_at 755 (by decide +kernel) (by decide +kernel))
theorem mi_Edges_fan : Cond.instanceMethod y_Edges_fan ∈ gWS ∧ Cond.initialized R_Edges ∈ gWS := ⟨(gWS_at 753 (by decide +kernel) (by decide +kernel)), (gWS_at 43 (by decide +kernel) (by decide +kernel))⟩
theorem msl_Edges_fan : Cond.selects R_Edges y_Edges_fan y_Edges_fan ∈ gWS := (gWS_at 754 (by decide +kernel) (by decide +kernel))
theorem mw_Edges_37 : gwV gWS R_Edges 37 y_Edges_fan b_Edges_fan 7 (some .int) 3 := gwV_of (gWS_at 752 (by decide +kernel) (by decide +kernel)) mi_Edges_fan.1 msl_Edges_fan mi_Edges_fan.2 mc_Edges_fan (by decide +kernel)
theorem mw_Edges_41 : gwV gWS R_Edges 41 y_Key_shared b_Key_shared 3 (some .int) 1 := gwV_of (gWS_at 747 (by decide +kernel) (by decide +kernel)) mi_Key_shared.1 msl_Key_shared mi_Key_shared.2 mc_Key_shared (by decide +kernel)
theorem lk_Edges_47 : Cond.fieldLink R_Edges 47 "KeyHall$Key" "length" "I" ∈ gWS := (gWS_at 80 (by decide +kernel) (by decide +kernel))
theorem lk_Edges_50 : Cond.fieldLink R_Edges 50 "KeyHall$Key" "letters" "[I" ∈ gWS := (gWS_at 74 (by decide +kernel) (by decide +kernel))
theorem mc_Edges_firstDifferentBit : Cond.code y_Edges_firstDifferentBit b_Edges_firstDifferentBit 7 (some .int) ∈ gWS := (gWS_at 763 (by decide +kernel) (by decide +kernel))
theorem mi_Edges_firstDifferentBit : Cond.instanceMethod y_Edges_firstDifferentBit ∈ gWS ∧ Cond.initialized R_Edges ∈ gWS := ⟨(gWS_at 761 (by decide +kernel) (by decide +kernel)), (gWS_at 43 (by decide +kernel) (by decide +kernel))⟩
theorem msl_Edges_firstDifferentBit : Cond.selects R_Edges y_Edges_firstDifferentBit y_Edges_firstDifferentBit ∈ gWS := (gWS_at 762 (by decide +kernel) (by decide +kernel))
theorem mw_Edges_53 : gwV gWS R_Edges 53 y_Edges_firstDifferentBit b_Edges_firstDifferentBit 7 (some .int) 2 := gwV_of (gWS_at 760 (by decide +kernel) (by decide +kernel)) mi_Edges_firstDifferentBit.1 msl_Edges_firstDifferentBit mi_Edges_firstDifferentBit.2 mc_Edges_firstDifferentBit (by decide +kernel)
theorem mo_Automaton_3 : Cond.methodLink R_Automaton 3 objectInit ∈ gWS ∧ Cond.instanceMethod objectInit ∈ gWS ∧ Cond.code objectInit ⟨#[0xb1]⟩ 1 none ∈ gWS := ⟨(gWS_at 200 (by decide +kernel) (by decide +kernel)), (gWS_at 64 (by decide +kernel) (by decide +kernel)), (gWS_at 65 (by decide +kernel) (by decide +kernel))⟩
theorem lk_Automaton_9 : Cond.classLink R_Automaton 9 "KeyHall$Key" ∈ gWS := (gWS_at 201 (by decide +kernel) (by decide +kernel))
theorem lk_Automaton_11 : Cond.fieldLink R_Automaton 11 "KeyHall$Automaton" "keys" "[LKeyHall$Key;" ∈ gWS := (gWS_at 203 (by decide +kernel) (by decide +kernel))
theorem mw_Automaton_17 : gwI gWS R_Automaton 17 y_Key_init b_Key_init 1 0 := gwI_of (gWS_at 202 (by decide +kernel) (by decide +kernel)) mi_Key_init.1 mi_Key_init.2 mc_Key_init rfl (by decide +kernel)
theorem lk_Automaton_18 : Cond.fieldLink R_Automaton 18 "KeyHall$Automaton" "prefixFrom" "[I" ∈ gWS := (gWS_at 205 (by decide +kernel) (by decide +kernel))
theorem lk_Automaton_22 : Cond.fieldLink R_Automaton 22 "KeyHall$Automaton" "prefixTo" "[I" ∈ gWS := (gWS_at 206 (by decide +kernel) (by decide +kernel))
theorem lk_Automaton_25 : Cond.fieldLink R_Automaton 25 "KeyHall$Automaton" "prefixLength" "[I" ∈ gWS := (gWS_at 207 (by decide +kernel) (by decide +kernel))
theorem lk_Automaton_28 : Cond.fieldLink R_Automaton 28 "KeyHall$Automaton" "prefixHeight" "[I" ∈ gWS := (gWS_at 208 (by decide +kernel) (by decide +kernel))
theorem lk_Automaton_31 : Cond.fieldLink R_Automaton 31 "KeyHall$Automaton" "stateText" "[I" ∈ gWS := (gWS_at 210 (by decide +kernel) (by decide +kernel))
theorem mw_Automaton_34 : gwV gWS R_Automaton 34 y_View_count b_View_count 1 (some .int) 0 := gwV_of (gWS_at 775 (by decide +kernel) (by decide +kernel)) mi_View_count.1 msl_View_count mi_View_count.2 mc_View_count (by decide +kernel)
theorem lk_Automaton_40 : Cond.fieldLink R_Automaton 40 "KeyHall$Automaton" "count" "I" ∈ gWS := (gWS_at 204 (by decide +kernel) (by decide +kernel))
theorem lk_Automaton_43 : Cond.fieldLink R_Automaton 43 "KeyHall$View" "map" "LKeyHall$KeyMap;" ∈ gWS := (gWS_at 151 (by decide +kernel) (by decide +kernel))
theorem lk_Automaton_47 : Cond.fieldLink R_Automaton 47 "KeyHall$KeyMap" "keys" "[LKeyHall$Key;" ∈ gWS := (gWS_at 103 (by decide +kernel) (by decide +kernel))
theorem lk_Automaton_50 : Cond.fieldLink R_Automaton 50 "KeyHall$View" "from" "I" ∈ gWS := (gWS_at 159 (by decide +kernel) (by decide +kernel))
theorem mw_Automaton_53 : gwV gWS R_Automaton 53 y_Key_become b_Key_become 2 none 1 := gwV_of (gWS_at 776 (by decide +kernel) (by decide +kernel)) mi_Key_become.1 msl_Key_become mi_Key_become.2 mc_Key_become (by decide +kernel)
theorem mc_Automaton_listPrefixes : Cond.code y_Automaton_listPrefixes b_Automaton_listPrefixes 4 none ∈ gWS := (gWS_at 780 (by decide +kernel) (by decide +kernel))
theorem mi_Automaton_listPrefixes : Cond.instanceMethod y_Automaton_listPrefixes ∈ gWS ∧ Cond.initialized R_Automaton ∈ gWS := ⟨(gWS_at 778 (by decide +kernel) (by decide +kernel)), (gWS_at 44 (by decide +kernel) (by decide +kernel))⟩
theorem msl_Automaton_listPrefixes : Cond.selects R_Automaton y_Automaton_listPrefixes y_Automaton_listPrefixes ∈ gWS := (gWS_at 779 (by decide +kernel) (by decide +kernel))
theorem mw_Automaton_57 : gwV gWS R_Automaton 57 y_Automaton_listPrefixes b_Automaton_listPrefixes 4 none 0 := gwV_of (gWS_at 777 (by decide +kernel) (by decide +kernel)) mi_Automaton_listPrefixes.1 msl_Automaton_listPrefixes mi_Automaton_listPrefixes.2 mc_Automaton_listPrefixes (by decide +kernel)
theorem mc_Automaton_countStates : Cond.code y_Automaton_countStates b_Automaton_countStates 4 none ∈ gWS := (gWS_at 788 (by decide +kernel) (by decide +kernel))
theorem mi_Automaton_countStates : Cond.instanceMethod y_Automaton_countStates ∈ gWS ∧ Cond.initialized R_Automaton ∈ gWS := ⟨(gWS_at 786 (by decide +kernel) (by decide +kernel)), (gWS_at 44 (by decide +kernel) (by decide +kernel))⟩
theorem msl_Automaton_countStates : Cond.selects R_Automaton y_Automaton_countStates y_Automaton_countStates ∈ gWS := (gWS_at 787 (by decide +kernel) (by decide +kernel))
theorem mw_Automaton_60 : gwV gWS R_Automaton 60 y_Automaton_countStates b_Automaton_countStates 4 none 0 := gwV_of (gWS_at 785 (by decide +kernel) (by decide +kernel)) mi_Automaton_countStates.1 msl_Automaton_countStates mi_Automaton_countStates.2 mc_Automaton_countStates (by decide +kernel)
theorem lk_Automaton_63 : Cond.fieldLink R_Automaton 63 "KeyHall$Automaton" "prefixes" "I" ∈ gWS := (gWS_at 209 (by decide +kernel) (by decide +kernel))
theorem mw_Automaton_66 : gwV gWS R_Automaton 66 y_Key_shared b_Key_shared 3 (some .int) 1 := gwV_of (gWS_at 476 (by decide +kernel) (by decide +kernel)) mi_Key_shared.1 msl_Key_shared mi_Key_shared.2 mc_Key_shared (by decide +kernel)
theorem lk_Automaton_70 : Cond.fieldLink R_Automaton 70 "KeyHall$Key" "length" "I" ∈ gWS := (gWS_at 81 (by decide +kernel) (by decide +kernel))
theorem mc_Automaton_addPrefix : Cond.code y_Automaton_addPrefix b_Automaton_addPrefix 5 none ∈ gWS := (gWS_at 784 (by decide +kernel) (by decide +kernel))
theorem mi_Automaton_addPrefix : Cond.instanceMethod y_Automaton_addPrefix ∈ gWS ∧ Cond.initialized R_Automaton ∈ gWS := ⟨(gWS_at 782 (by decide +kernel) (by decide +kernel)), (gWS_at 44 (by decide +kernel) (by decide +kernel))⟩
theorem msl_Automaton_addPrefix : Cond.selects R_Automaton y_Automaton_addPrefix y_Automaton_addPrefix ∈ gWS := (gWS_at 783 (by decide +kernel) (by decide +kernel))
theorem mw_Automaton_73 : gwV gWS R_Automaton 73 y_Automaton_addPrefix b_Automaton_addPrefix 5 none 2 := gwV_of (gWS_at 781 (by decide +kernel) (by decide +kernel)) mi_Automaton_addPrefix.1 msl_Automaton_addPrefix mi_Automaton_addPrefix.2 mc_Automaton_addPrefix (by decide +kernel)
theorem lk_Automaton_83 : Cond.fieldLink R_Automaton 83 "KeyHall$Automaton" "states" "I" ∈ gWS := (gWS_at 211 (by decide +kernel) (by decide +kernel))
theorem lk_Automaton_86 : Cond.fieldLink R_Automaton 86 "KeyHall$Automaton" "steps" "I" ∈ gWS := (gWS_at 213 (by decide +kernel) (by decide +kernel))
theorem lk_Automaton_89 : Cond.fieldLink R_Automaton 89 "KeyHall$Automaton" "finals" "I" ∈ gWS := (gWS_at 215 (by decide +kernel) (by decide +kernel))
theorem mc_Automaton_isKnown : Cond.code y_Automaton_isKnown b_Automaton_isKnown 4 (some .boolean) ∈ gWS := (gWS_at 792 (by decide +kernel) (by decide +kernel))
theorem mi_Automaton_isKnown : Cond.instanceMethod y_Automaton_isKnown ∈ gWS ∧ Cond.initialized R_Automaton ∈ gWS := ⟨(gWS_at 790 (by decide +kernel) (by decide +kernel)), (gWS_at 44 (by decide +kernel) (by decide +kernel))⟩
theorem msl_Automaton_isKnown : Cond.selects R_Automaton y_Automaton_isKnown y_Automaton_isKnown ∈ gWS := (gWS_at 791 (by decide +kernel) (by decide +kernel))
theorem mw_Automaton_92 : gwV gWS R_Automaton 92 y_Automaton_isKnown b_Automaton_isKnown 4 (some .boolean) 2 := gwV_of (gWS_at 789 (by decide +kernel) (by decide +kernel)) mi_Automaton_isKnown.1 msl_Automaton_isKnown mi_Automaton_isKnown.2 mc_Automaton_isKnown (by decide +kernel)
theorem mc_Automaton_addState : Cond.code y_Automaton_addState b_Automaton_addState 2 none ∈ gWS := (gWS_at 804 (by decide +kernel) (by decide +kernel))
theorem mi_Automaton_addState : Cond.instanceMethod y_Automaton_addState ∈ gWS ∧ Cond.initialized R_Automaton ∈ gWS := ⟨(gWS_at 802 (by decide +kernel) (by decide +kernel)), (gWS_at 44 (by decide +kernel) (by decide +kernel))⟩
theorem msl_Automaton_addState : Cond.selects R_Automaton y_Automaton_addState y_Automaton_addState ∈ gWS := (gWS_at 803 (by decide +kernel) (by decide +kernel))
theorem mw_Automaton_96 : gwV gWS R_Automaton 96 y_Automaton_addState b_Automaton_addState 2 none 1 := gwV_of (gWS_at 801 (by decide +kernel) (by decide +kernel)) mi_Automaton_addState.1 msl_Automaton_addState mi_Automaton_addState.2 mc_Automaton_addState (by decide +kernel)
theorem mc_Automaton_leadAlike : Cond.code y_Automaton_leadAlike b_Automaton_leadAlike 7 (some .boolean) ∈ gWS := (gWS_at 796 (by decide +kernel) (by decide +kernel))
theorem mi_Automaton_leadAlike : Cond.instanceMethod y_Automaton_leadAlike ∈ gWS ∧ Cond.initialized R_Automaton ∈ gWS := ⟨(gWS_at 794 (by decide +kernel) (by decide +kernel)), (gWS_at 44 (by decide +kernel) (by decide +kernel))⟩
theorem msl_Automaton_leadAlike : Cond.selects R_Automaton y_Automaton_leadAlike y_Automaton_leadAlike ∈ gWS := (gWS_at 795 (by decide +kernel) (by decide +kernel))
theorem mw_Automaton_100 : gwV gWS R_Automaton 100 y_Automaton_leadAlike b_Automaton_leadAlike 7 (some .boolean) 2 := gwV_of (gWS_at 793 (by decide +kernel) (by decide +kernel)) mi_Automaton_leadAlike.1 msl_Automaton_leadAlike mi_Automaton_leadAlike.2 mc_Automaton_leadAlike (by decide +kernel)
theorem mc_Key_hasTail : Cond.code y_Key_hasTail b_Key_hasTail 5 (some .boolean) ∈ gWS := (gWS_at 800 (by decide +kernel) (by decide +kernel))
theorem mi_Key_hasTail : Cond.instanceMethod y_Key_hasTail ∈ gWS ∧ Cond.initialized R_Key ∈ gWS := ⟨(gWS_at 798 (by decide +kernel) (by decide +kernel)), (gWS_at 39 (by decide +kernel) (by decide +kernel))⟩
theorem msl_Key_hasTail : Cond.selects R_Key y_Key_hasTail y_Key_hasTail ∈ gWS := (gWS_at 799 (by decide +kernel) (by decide +kernel))
theorem mw_Automaton_103 : gwV gWS R_Automaton 103 y_Key_hasTail b_Key_hasTail 5 (some .boolean) 3 := gwV_of (gWS_at 797 (by decide +kernel) (by decide +kernel)) mi_Key_hasTail.1 msl_Key_hasTail mi_Key_hasTail.2 mc_Key_hasTail (by decide +kernel)
theorem mc_Automaton_countFollowing : Cond.code y_Automaton_countFollowing b_Automaton_countFollowing 6 (some .int) ∈ gWS := (gWS_at 808 (by decide +kernel) (by decide +kernel))
theorem mi_Automaton_countFollowing : Cond.instanceMethod y_Automaton_countFollowing ∈ gWS ∧ Cond.initialized R_Automaton ∈ gWS := ⟨(gWS_at 806 (by decide +kernel) (by decide +kernel)), (gWS_at 44 (by decide +kernel) (by decide +kernel))⟩
theorem msl_Automaton_countFollowing : Cond.selects R_Automaton y_Automaton_countFollowing y_Automaton_countFollowing ∈ gWS := (gWS_at 807 (by decide +kernel) (by decide +kernel))
theorem mw_Automaton_107 : gwV gWS R_Automaton 107 y_Automaton_countFollowing b_Automaton_countFollowing 6 (some .int) 1 := gwV_of (gWS_at 805 (by decide +kernel) (by decide +kernel)) mi_Automaton_countFollowing.1 msl_Automaton_countFollowing mi_Automaton_countFollowing.2 mc_Automaton_countFollowing (by decide +kernel)
theorem lk_Automaton_111 : Cond.fieldLink R_Automaton 111 "KeyHall$Key" "letters" "[I" ∈ gWS := (gWS_at 75 (by decide +kernel) (by decide +kernel))
theorem mw_Automaton_114 : gwV gWS R_Automaton 114 y_Key_order b_Key_order 3 (some .int) 1 := gwV_of (gWS_at 484 (by decide +kernel) (by decide +kernel)) mi_Key_order.1 msl_Key_order mi_Key_order.2 mc_Key_order (by decide +kernel)
theorem mo_EditedText_3 : Cond.methodLink R_EditedText 3 objectInit ∈ gWS ∧ Cond.instanceMethod objectInit ∈ gWS ∧ Cond.code objectInit ⟨#[0xb1]⟩ 1 none ∈ gWS := ⟨(gWS_at 245 (by decide +kernel) (by decide +kernel)), (gWS_at 64 (by decide +kernel) (by decide +kernel)), (gWS_at 65 (by decide +kernel) (by decide +kernel))⟩
theorem lk_EditedText_9 : Cond.fieldLink R_EditedText 9 "KeyHall$EditedText" "letters" "[I" ∈ gWS := (gWS_at 281 (by decide +kernel) (by decide +kernel))
theorem lk_EditedText_15 : Cond.classLink R_EditedText 15 "KeyHall$History" ∈ gWS := (gWS_at 246 (by decide +kernel) (by decide +kernel))
theorem mc_History_init : Cond.code y_History_init b_History_init 1 none ∈ gWS := (gWS_at 250 (by decide +kernel) (by decide +kernel))
theorem mi_History_init : Cond.instanceMethod y_History_init ∈ gWS ∧ Cond.initialized R_History ∈ gWS := ⟨(gWS_at 249 (by decide +kernel) (by decide +kernel)), (gWS_at 46 (by decide +kernel) (by decide +kernel))⟩
theorem mw_EditedText_17 : gwI gWS R_EditedText 17 y_History_init b_History_init 1 0 := gwI_of (gWS_at 248 (by decide +kernel) (by decide +kernel)) mi_History_init.1 mi_History_init.2 mc_History_init rfl (by decide +kernel)
theorem lk_EditedText_18 : Cond.fieldLink R_EditedText 18 "KeyHall$EditedText" "history" "LKeyHall$History;" ∈ gWS := (gWS_at 285 (by decide +kernel) (by decide +kernel))
theorem lk_EditedText_22 : Cond.classLink R_EditedText 22 "KeyHall$SuffixOrder" ∈ gWS := (gWS_at 266 (by decide +kernel) (by decide +kernel))
theorem mc_SuffixOrder_init : Cond.code y_SuffixOrder_init b_SuffixOrder_init 1 none ∈ gWS := (gWS_at 270 (by decide +kernel) (by decide +kernel))
theorem mi_SuffixOrder_init : Cond.instanceMethod y_SuffixOrder_init ∈ gWS ∧ Cond.initialized R_SuffixOrder ∈ gWS := ⟨(gWS_at 269 (by decide +kernel) (by decide +kernel)), (gWS_at 47 (by decide +kernel) (by decide +kernel))⟩
theorem mw_EditedText_24 : gwI gWS R_EditedText 24 y_SuffixOrder_init b_SuffixOrder_init 1 0 := gwI_of (gWS_at 268 (by decide +kernel) (by decide +kernel)) mi_SuffixOrder_init.1 mi_SuffixOrder_init.2 mc_SuffixOrder_init rfl (by decide +kernel)
theorem lk_EditedText_25 : Cond.fieldLink R_EditedText 25 "KeyHall$EditedText" "suffixes" "LKeyHall$SuffixOrder;" ∈ gWS := (gWS_at 286 (by decide +kernel) (by decide +kernel))
theorem lk_EditedText_29 : Cond.fieldLink R_EditedText 29 "KeyHall$EditedText" "length" "I" ∈ gWS := (gWS_at 283 (by decide +kernel) (by decide +kernel))
theorem mc_History_keep : Cond.code y_History_keep b_History_keep 3 none ∈ gWS := (gWS_at 823 (by decide +kernel) (by decide +kernel))
theorem mi_History_keep : Cond.instanceMethod y_History_keep ∈ gWS ∧ Cond.initialized R_History ∈ gWS := ⟨(gWS_at 821 (by decide +kernel) (by decide +kernel)), (gWS_at 46 (by decide +kernel) (by decide +kernel))⟩
theorem msl_History_keep : Cond.selects R_History y_History_keep y_History_keep ∈ gWS := (gWS_at 822 (by decide +kernel) (by decide +kernel))
theorem mw_EditedText_33 : gwV gWS R_EditedText 33 y_History_keep b_History_keep 3 none 2 := gwV_of (gWS_at 820 (by decide +kernel) (by decide +kernel)) mi_History_keep.1 msl_History_keep mi_History_keep.2 mc_History_keep (by decide +kernel)
theorem lk_EditedText_37 : Cond.fieldLink R_EditedText 37 "KeyHall$Key" "length" "I" ∈ gWS := (gWS_at 79 (by decide +kernel) (by decide +kernel))
theorem mq_EditedText_40 : Cond.methodLink R_EditedText 40 arraycopyName ∈ gWS ∧ Cond.native arraycopyName ∈ gWS ∧ Cond.static arraycopyName ∈ gWS ∧ Cond.initialized "java/lang/System" ∈ gWS := ⟨(gWS_at 827 (by decide +kernel) (by decide +kernel)), (gWS_at 467 (by decide +kernel) (by decide +kernel)), (gWS_at 466 (by decide +kernel) (by decide +kernel)), (gWS_at 53 (by decide +kernel) (by decide +kernel))⟩
theorem lk_EditedText_46 : Cond.fieldLink R_EditedText 46 "KeyHall$Key" "letters" "[I" ∈ gWS := (gWS_at 73 (by decide +kernel) (by decide +kernel))
theorem lk_EditedText_47 : Cond.fieldLink R_EditedText 47 "KeyHall$EditedText" "suffixesAreSorted" "Z" ∈ gWS := (gWS_at 287 (by decide +kernel) (by decide +kernel))
theorem lk_EditedText_51 : Cond.fieldLink R_EditedText 51 "KeyHall$History" "kept" "I" ∈ gWS := (gWS_at 256 (by decide +kernel) (by decide +kernel))
theorem mc_History_giveBack : Cond.code y_History_giveBack b_History_giveBack 3 (some .int) ∈ gWS := (gWS_at 496 (by decide +kernel) (by decide +kernel))
theorem mi_History_giveBack : Cond.instanceMethod y_History_giveBack ∈ gWS ∧ Cond.initialized R_History ∈ gWS := ⟨(gWS_at 494 (by decide +kernel) (by decide +kernel)), (gWS_at 46 (by decide +kernel) (by decide +kernel))⟩
theorem msl_History_giveBack : Cond.selects R_History y_History_giveBack y_History_giveBack ∈ gWS := (gWS_at 495 (by decide +kernel) (by decide +kernel))
theorem mw_EditedText_54 : gwV gWS R_EditedText 54 y_History_giveBack b_History_giveBack 3 (some .int) 1 := gwV_of (gWS_at 493 (by decide +kernel) (by decide +kernel)) mi_History_giveBack.1 msl_History_giveBack mi_History_giveBack.2 mc_History_giveBack (by decide +kernel)
theorem mc_SuffixOrder_sort : Cond.code y_SuffixOrder_sort b_SuffixOrder_sort 5 none ∈ gWS := (gWS_at 517 (by decide +kernel) (by decide +kernel))
theorem mi_SuffixOrder_sort : Cond.instanceMethod y_SuffixOrder_sort ∈ gWS ∧ Cond.initialized R_SuffixOrder ∈ gWS := ⟨(gWS_at 515 (by decide +kernel) (by decide +kernel)), (gWS_at 47 (by decide +kernel) (by decide +kernel))⟩
theorem msl_SuffixOrder_sort : Cond.selects R_SuffixOrder y_SuffixOrder_sort y_SuffixOrder_sort ∈ gWS := (gWS_at 516 (by decide +kernel) (by decide +kernel))
theorem mw_EditedText_58 : gwV gWS R_EditedText 58 y_SuffixOrder_sort b_SuffixOrder_sort 5 none 2 := gwV_of (gWS_at 514 (by decide +kernel) (by decide +kernel)) mi_SuffixOrder_sort.1 msl_SuffixOrder_sort mi_SuffixOrder_sort.2 mc_SuffixOrder_sort (by decide +kernel)
theorem mc_EditedText_sortedSuffixes : Cond.code y_EditedText_sortedSuffixes b_EditedText_sortedSuffixes 1 (some (.object "KeyHall$SuffixOrder")) ∈ gWS := (gWS_at 513 (by decide +kernel) (by decide +kernel))
theorem mi_EditedText_sortedSuffixes : Cond.instanceMethod y_EditedText_sortedSuffixes ∈ gWS ∧ Cond.initialized R_EditedText ∈ gWS := ⟨(gWS_at 511 (by decide +kernel) (by decide +kernel)), (gWS_at 45 (by decide +kernel) (by decide +kernel))⟩
theorem msl_EditedText_sortedSuffixes : Cond.selects R_EditedText y_EditedText_sortedSuffixes y_EditedText_sortedSuffixes ∈ gWS := (gWS_at 512 (by decide +kernel) (by decide +kernel))
theorem mw_EditedText_61 : gwV gWS R_EditedText 61 y_EditedText_sortedSuffixes b_EditedText_sortedSuffixes 1 (some (.object "KeyHall$SuffixOrder")) 0 := gwV_of (gWS_at 526 (by decide +kernel) (by decide +kernel)) mi_EditedText_sortedSuffixes.1 msl_EditedText_sortedSuffixes mi_EditedText_sortedSuffixes.2 mc_EditedText_sortedSuffixes (by decide +kernel)
theorem lk_EditedText_65 : Cond.fieldLink R_EditedText 65 "KeyHall$SuffixOrder" "starts" "[I" ∈ gWS := (gWS_at 273 (by decide +kernel) (by decide +kernel))
theorem mc_EditedText_standsAt : Cond.code y_EditedText_standsAt b_EditedText_standsAt 4 (some .boolean) ∈ gWS := (gWS_at 538 (by decide +kernel) (by decide +kernel))
theorem mi_EditedText_standsAt : Cond.instanceMethod y_EditedText_standsAt ∈ gWS ∧ Cond.initialized R_EditedText ∈ gWS := ⟨(gWS_at 536 (by decide +kernel) (by decide +kernel)), (gWS_at 45 (by decide +kernel) (by decide +kernel))⟩
theorem msl_EditedText_standsAt : Cond.selects R_EditedText y_EditedText_standsAt y_EditedText_standsAt ∈ gWS := (gWS_at 537 (by decide +kernel) (by decide +kernel))
theorem mw_EditedText_68 : gwV gWS R_EditedText 68 y_EditedText_standsAt b_EditedText_standsAt 4 (some .boolean) 2 := gwV_of (gWS_at 535 (by decide +kernel) (by decide +kernel)) mi_EditedText_standsAt.1 msl_EditedText_standsAt mi_EditedText_standsAt.2 mc_EditedText_standsAt (by decide +kernel)
theorem mo_History_3 : Cond.methodLink R_History 3 objectInit ∈ gWS ∧ Cond.instanceMethod objectInit ∈ gWS ∧ Cond.code objectInit ⟨#[0xb1]⟩ 1 none ∈ gWS := ⟨(gWS_at 251 (by decide +kernel) (by decide +kernel)), (gWS_at 64 (by decide +kernel) (by decide +kernel)), (gWS_at 65 (by decide +kernel) (by decide +kernel))⟩
theorem lk_History_9 : Cond.fieldLink R_History 9 "KeyHall$History" "letters" "[I" ∈ gWS := (gWS_at 252 (by decide +kernel) (by decide +kernel))
theorem lk_History_15 : Cond.fieldLink R_History 15 "KeyHall$History" "lengths" "[I" ∈ gWS := (gWS_at 253 (by decide +kernel) (by decide +kernel))
theorem lk_History_18 : Cond.fieldLink R_History 18 "KeyHall$History" "newest" "I" ∈ gWS := (gWS_at 254 (by decide +kernel) (by decide +kernel))
theorem mq_History_22 : Cond.methodLink R_History 22 arraycopyName ∈ gWS ∧ Cond.native arraycopyName ∈ gWS ∧ Cond.static arraycopyName ∈ gWS ∧ Cond.initialized "java/lang/System" ∈ gWS := ⟨(gWS_at 497 (by decide +kernel) (by decide +kernel)), (gWS_at 467 (by decide +kernel) (by decide +kernel)), (gWS_at 466 (by decide +kernel) (by decide +kernel)), (gWS_at 53 (by decide +kernel) (by decide +kernel))⟩
theorem lk_History_28 : Cond.fieldLink R_History 28 "KeyHall$History" "kept" "I" ∈ gWS := (gWS_at 255 (by decide +kernel) (by decide +kernel))
theorem mo_SuffixOrder_3 : Cond.methodLink R_SuffixOrder 3 objectInit ∈ gWS ∧ Cond.instanceMethod objectInit ∈ gWS ∧ Cond.code objectInit ⟨#[0xb1]⟩ 1 none ∈ gWS := ⟨(gWS_at 271 (by decide +kernel) (by decide +kernel)), (gWS_at 64 (by decide +kernel) (by decide +kernel)), (gWS_at 65 (by decide +kernel) (by decide +kernel))⟩
theorem lk_SuffixOrder_9 : Cond.fieldLink R_SuffixOrder 9 "KeyHall$SuffixOrder" "starts" "[I" ∈ gWS := (gWS_at 272 (by decide +kernel) (by decide +kernel))
theorem lk_SuffixOrder_15 : Cond.fieldLink R_SuffixOrder 15 "KeyHall$SuffixOrder" "ranks" "[I" ∈ gWS := (gWS_at 275 (by decide +kernel) (by decide +kernel))
theorem mc_SuffixOrder_isLess : Cond.code y_SuffixOrder_isLess b_SuffixOrder_isLess 4 (some .boolean) ∈ gWS := (gWS_at 521 (by decide +kernel) (by decide +kernel))
theorem mi_SuffixOrder_isLess : Cond.instanceMethod y_SuffixOrder_isLess ∈ gWS ∧ Cond.initialized R_SuffixOrder ∈ gWS := ⟨(gWS_at 519 (by decide +kernel) (by decide +kernel)), (gWS_at 47 (by decide +kernel) (by decide +kernel))⟩
theorem msl_SuffixOrder_isLess : Cond.selects R_SuffixOrder y_SuffixOrder_isLess y_SuffixOrder_isLess ∈ gWS := (gWS_at 520 (by decide +kernel) (by decide +kernel))
theorem mw_SuffixOrder_18 : gwV gWS R_SuffixOrder 18 y_SuffixOrder_isLess b_SuffixOrder_isLess 4 (some .boolean) 3 := gwV_of (gWS_at 518 (by decide +kernel) (by decide +kernel)) mi_SuffixOrder_isLess.1 msl_SuffixOrder_isLess mi_SuffixOrder_isLess.2 mc_SuffixOrder_isLess (by decide +kernel)
theorem mo_Hall_1 : Cond.methodLink R_Hall 1 objectInit ∈ gWS ∧ Cond.instanceMethod objectInit ∈ gWS ∧ Cond.code objectInit ⟨#[0xb1]⟩ 1 none ∈ gWS := ⟨(gWS_at 63 (by decide +kernel) (by decide +kernel)), (gWS_at 64 (by decide +kernel) (by decide +kernel)), (gWS_at 65 (by decide +kernel) (by decide +kernel))⟩
theorem lk_Hall_7 : Cond.classLink R_Hall 7 "KeyHall$Key" ∈ gWS := (gWS_at 66 (by decide +kernel) (by decide +kernel))
theorem mw_Hall_9 : gwI gWS R_Hall 9 y_Key_init b_Key_init 1 0 := gwI_of (gWS_at 68 (by decide +kernel) (by decide +kernel)) mi_Key_init.1 mi_Key_init.2 mc_Key_init rfl (by decide +kernel)
theorem lk_Hall_10 : Cond.fieldLink R_Hall 10 "KeyHall" "tape" "LKeyHall$Key;" ∈ gWS := (gWS_at 299 (by decide +kernel) (by decide +kernel))
theorem lk_Hall_16 : Cond.fieldLink R_Hall 16 "KeyHall" "used" "LKeyHall$Key;" ∈ gWS := (gWS_at 300 (by decide +kernel) (by decide +kernel))
theorem lk_Hall_19 : Cond.fieldLink R_Hall 19 "KeyHall" "told" "LKeyHall$Key;" ∈ gWS := (gWS_at 301 (by decide +kernel) (by decide +kernel))
theorem lk_Hall_22 : Cond.classLink R_Hall 22 "KeyHall$View" ∈ gWS := (gWS_at 89 (by decide +kernel) (by decide +kernel))
theorem lk_Hall_24 : Cond.fieldLink R_Hall 24 "KeyHall" "views" "[LKeyHall$View;" ∈ gWS := (gWS_at 302 (by decide +kernel) (by decide +kernel))
theorem lk_Hall_28 : Cond.classLink R_Hall 28 "KeyHall$KeyMap" ∈ gWS := (gWS_at 92 (by decide +kernel) (by decide +kernel))
theorem mc_KeyMap_init : Cond.code y_KeyMap_init b_KeyMap_init 2 none ∈ gWS := (gWS_at 96 (by decide +kernel) (by decide +kernel))
theorem mi_KeyMap_init : Cond.instanceMethod y_KeyMap_init ∈ gWS ∧ Cond.initialized R_KeyMap ∈ gWS := ⟨(gWS_at 95 (by decide +kernel) (by decide +kernel)), (gWS_at 41 (by decide +kernel) (by decide +kernel))⟩
theorem mw_Hall_30 : gwI gWS R_Hall 30 y_KeyMap_init b_KeyMap_init 2 0 := gwI_of (gWS_at 94 (by decide +kernel) (by decide +kernel)) mi_KeyMap_init.1 mi_KeyMap_init.2 mc_KeyMap_init rfl (by decide +kernel)
theorem mc_View_init : Cond.code y_View_init b_View_init 2 none ∈ gWS := (gWS_at 125 (by decide +kernel) (by decide +kernel))
theorem mi_View_init : Cond.instanceMethod y_View_init ∈ gWS ∧ Cond.initialized R_View ∈ gWS := ⟨(gWS_at 124 (by decide +kernel) (by decide +kernel)), (gWS_at 40 (by decide +kernel) (by decide +kernel))⟩
theorem mw_Hall_31 : gwI gWS R_Hall 31 y_View_init b_View_init 2 1 := gwI_of (gWS_at 123 (by decide +kernel) (by decide +kernel)) mi_View_init.1 mi_View_init.2 mc_View_init rfl (by decide +kernel)
theorem lk_Hall_34 : Cond.fieldLink R_Hall 34 "KeyHall" "viewCount" "I" ∈ gWS := (gWS_at 303 (by decide +kernel) (by decide +kernel))
theorem lk_Hall_38 : Cond.classLink R_Hall 38 "KeyHall$Edges" ∈ gWS := (gWS_at 181 (by decide +kernel) (by decide +kernel))
theorem mc_Edges_init : Cond.code y_Edges_init b_Edges_init 1 none ∈ gWS := (gWS_at 185 (by decide +kernel) (by decide +kernel))
theorem mi_Edges_init : Cond.instanceMethod y_Edges_init ∈ gWS ∧ Cond.initialized R_Edges ∈ gWS := ⟨(gWS_at 184 (by decide +kernel) (by decide +kernel)), (gWS_at 43 (by decide +kernel) (by decide +kernel))⟩
theorem mw_Hall_40 : gwI gWS R_Hall 40 y_Edges_init b_Edges_init 1 0 := gwI_of (gWS_at 183 (by decide +kernel) (by decide +kernel)) mi_Edges_init.1 mi_Edges_init.2 mc_Edges_init rfl (by decide +kernel)
theorem lk_Hall_41 : Cond.fieldLink R_Hall 41 "KeyHall" "branches" "LKeyHall$Edges;" ∈ gWS := (gWS_at 304 (by decide +kernel) (by decide +kernel))
theorem lk_Hall_45 : Cond.classLink R_Hall 45 "KeyHall$Automaton" ∈ gWS := (gWS_at 195 (by decide +kernel) (by decide +kernel))
theorem mc_Automaton_init : Cond.code y_Automaton_init b_Automaton_init 2 none ∈ gWS := (gWS_at 199 (by decide +kernel) (by decide +kernel))
theorem mi_Automaton_init : Cond.instanceMethod y_Automaton_init ∈ gWS ∧ Cond.initialized R_Automaton ∈ gWS := ⟨(gWS_at 198 (by decide +kernel) (by decide +kernel)), (gWS_at 44 (by decide +kernel) (by decide +kernel))⟩
theorem mw_Hall_47 : gwI gWS R_Hall 47 y_Automaton_init b_Automaton_init 2 0 := gwI_of (gWS_at 197 (by decide +kernel) (by decide +kernel)) mi_Automaton_init.1 mi_Automaton_init.2 mc_Automaton_init rfl (by decide +kernel)
theorem lk_Hall_48 : Cond.fieldLink R_Hall 48 "KeyHall" "frozen" "LKeyHall$Automaton;" ∈ gWS := (gWS_at 305 (by decide +kernel) (by decide +kernel))
theorem lk_Hall_52 : Cond.classLink R_Hall 52 "KeyHall$EditedText" ∈ gWS := (gWS_at 240 (by decide +kernel) (by decide +kernel))
theorem mc_EditedText_init : Cond.code y_EditedText_init b_EditedText_init 1 none ∈ gWS := (gWS_at 244 (by decide +kernel) (by decide +kernel))
theorem mi_EditedText_init : Cond.instanceMethod y_EditedText_init ∈ gWS ∧ Cond.initialized R_EditedText ∈ gWS := ⟨(gWS_at 243 (by decide +kernel) (by decide +kernel)), (gWS_at 45 (by decide +kernel) (by decide +kernel))⟩
theorem mw_Hall_54 : gwI gWS R_Hall 54 y_EditedText_init b_EditedText_init 1 0 := gwI_of (gWS_at 242 (by decide +kernel) (by decide +kernel)) mi_EditedText_init.1 mi_EditedText_init.2 mc_EditedText_init rfl (by decide +kernel)
theorem lk_Hall_55 : Cond.fieldLink R_Hall 55 "KeyHall" "text" "LKeyHall$EditedText;" ∈ gWS := (gWS_at 306 (by decide +kernel) (by decide +kernel))
theorem lk_Hall_59 : Cond.fieldLink R_Hall 59 "KeyHall$Key" "length" "I" ∈ gWS := (gWS_at 78 (by decide +kernel) (by decide +kernel))
theorem mc_Key_append : Cond.code y_Key_append b_Key_append 2 none ∈ gWS := (gWS_at 332 (by decide +kernel) (by decide +kernel))
theorem mi_Key_append : Cond.instanceMethod y_Key_append ∈ gWS ∧ Cond.initialized R_Key ∈ gWS := ⟨(gWS_at 330 (by decide +kernel) (by decide +kernel)), (gWS_at 39 (by decide +kernel) (by decide +kernel))⟩
theorem msl_Key_append : Cond.selects R_Key y_Key_append y_Key_append ∈ gWS := (gWS_at 331 (by decide +kernel) (by decide +kernel))
theorem mw_Hall_63 : gwV gWS R_Hall 63 y_Key_append b_Key_append 2 none 1 := gwV_of (gWS_at 329 (by decide +kernel) (by decide +kernel)) mi_Key_append.1 msl_Key_append mi_Key_append.2 mc_Key_append (by decide +kernel)
theorem mc_Hall_viewNumbered : Cond.code y_Hall_viewNumbered b_Hall_viewNumbered 2 (some (.object "KeyHall$View")) ∈ gWS := (gWS_at 348 (by decide +kernel) (by decide +kernel))
theorem mi_Hall_viewNumbered : Cond.instanceMethod y_Hall_viewNumbered ∈ gWS ∧ Cond.initialized R_Hall ∈ gWS := ⟨(gWS_at 347 (by decide +kernel) (by decide +kernel)), (gWS_at 38 (by decide +kernel) (by decide +kernel))⟩
theorem msl_Hall_viewNumbered : Cond.selects R_Hall y_Hall_viewNumbered y_Hall_viewNumbered ∈ gWS := (gWS_at 2 (by decide +kernel) (by decide +kernel))
theorem mw_Hall_67 : gwV gWS R_Hall 67 y_Hall_viewNumbered b_Hall_viewNumbered 2 (some (.object "KeyHall$View")) 1 := gwV_of (gWS_at 345 (by decide +kernel) (by decide +kernel)) mi_Hall_viewNumbered.1 msl_Hall_viewNumbered mi_Hall_viewNumbered.2 mc_Hall_viewNumbered (by decide +kernel)
theorem lk_Hall_71 : Cond.classLink R_Hall 71 "java/lang/IndexOutOfBoundsException" ∈ gWS := (gWS_at 349 (by decide +kernel) (by decide +kernel))
theorem mc_Hall_useTape : Cond.code y_Hall_useTape b_Hall_useTape 1 none ∈ gWS := (gWS_at 460 (by decide +kernel) (by decide +kernel))
theorem mi_Hall_useTape : Cond.instanceMethod y_Hall_useTape ∈ gWS ∧ Cond.initialized R_Hall ∈ gWS := ⟨(gWS_at 459 (by decide +kernel) (by decide +kernel)), (gWS_at 38 (by decide +kernel) (by decide +kernel))⟩
theorem msl_Hall_useTape : Cond.selects R_Hall y_Hall_useTape y_Hall_useTape ∈ gWS := (gWS_at 4 (by decide +kernel) (by decide +kernel))
theorem mw_Hall_74 : gwV gWS R_Hall 74 y_Hall_useTape b_Hall_useTape 1 none 0 := gwV_of (gWS_at 457 (by decide +kernel) (by decide +kernel)) mi_Hall_useTape.1 msl_Hall_useTape mi_Hall_useTape.2 mc_Hall_useTape (by decide +kernel)
theorem mc_View_init2 : Cond.code y_View_init2 b_View_init2 4 none ∈ gWS := (gWS_at 553 (by decide +kernel) (by decide +kernel))
theorem mi_View_init2 : Cond.instanceMethod y_View_init2 ∈ gWS ∧ Cond.initialized R_View ∈ gWS := ⟨(gWS_at 552 (by decide +kernel) (by decide +kernel)), (gWS_at 40 (by decide +kernel) (by decide +kernel))⟩
theorem mw_Hall_77 : gwI gWS R_Hall 77 y_View_init2 b_View_init2 4 3 := gwI_of (gWS_at 551 (by decide +kernel) (by decide +kernel)) mi_View_init2.1 mi_View_init2.2 mc_View_init2 rfl (by decide +kernel)
theorem mw_Hall_80 : gwV gWS R_Hall 80 y_View_admits b_View_admits 3 (some .boolean) 1 := gwV_of (gWS_at 564 (by decide +kernel) (by decide +kernel)) mi_View_admits.1 msl_View_admits mi_View_admits.2 mc_View_admits (by decide +kernel)
theorem lk_Hall_84 : Cond.classLink R_Hall 84 "java/lang/IllegalArgumentException" ∈ gWS := (gWS_at 565 (by decide +kernel) (by decide +kernel))
theorem lk_Hall_87 : Cond.fieldLink R_Hall 87 "KeyHall$View" "map" "LKeyHall$KeyMap;" ∈ gWS := (gWS_at 152 (by decide +kernel) (by decide +kernel))
theorem mw_Hall_91 : gwV gWS R_Hall 91 y_KeyMap_placeOf b_KeyMap_placeOf 3 (some .int) 1 := gwV_of (gWS_at 580 (by decide +kernel) (by decide +kernel)) mi_KeyMap_placeOf.1 msl_KeyMap_placeOf mi_KeyMap_placeOf.2 mc_KeyMap_placeOf (by decide +kernel)
theorem lk_Hall_95 : Cond.fieldLink R_Hall 95 "KeyHall$KeyMap" "values" "[I" ∈ gWS := (gWS_at 107 (by decide +kernel) (by decide +kernel))
theorem lk_Hall_99 : Cond.fieldLink R_Hall 99 "KeyHall$KeyMap" "count" "I" ∈ gWS := (gWS_at 110 (by decide +kernel) (by decide +kernel))
theorem lk_Hall_102 : Cond.classLink R_Hall 102 "java/lang/IllegalStateException" ∈ gWS := (gWS_at 589 (by decide +kernel) (by decide +kernel))
theorem mc_KeyMap_add : Cond.code y_KeyMap_add b_KeyMap_add 6 none ∈ gWS := (gWS_at 607 (by decide +kernel) (by decide +kernel))
theorem mi_KeyMap_add : Cond.instanceMethod y_KeyMap_add ∈ gWS ∧ Cond.initialized R_KeyMap ∈ gWS := ⟨(gWS_at 605 (by decide +kernel) (by decide +kernel)), (gWS_at 41 (by decide +kernel) (by decide +kernel))⟩
theorem msl_KeyMap_add : Cond.selects R_KeyMap y_KeyMap_add y_KeyMap_add ∈ gWS := (gWS_at 606 (by decide +kernel) (by decide +kernel))
theorem mw_Hall_105 : gwV gWS R_Hall 105 y_KeyMap_add b_KeyMap_add 6 none 2 := gwV_of (gWS_at 604 (by decide +kernel) (by decide +kernel)) mi_KeyMap_add.1 msl_KeyMap_add mi_KeyMap_add.2 mc_KeyMap_add (by decide +kernel)
theorem mc_View_placeOf : Cond.code y_View_placeOf b_View_placeOf 2 (some .int) ∈ gWS := (gWS_at 619 (by decide +kernel) (by decide +kernel))
theorem mi_View_placeOf : Cond.instanceMethod y_View_placeOf ∈ gWS ∧ Cond.initialized R_View ∈ gWS := ⟨(gWS_at 617 (by decide +kernel) (by decide +kernel)), (gWS_at 40 (by decide +kernel) (by decide +kernel))⟩
theorem msl_View_placeOf : Cond.selects R_View y_View_placeOf y_View_placeOf ∈ gWS := (gWS_at 618 (by decide +kernel) (by decide +kernel))
theorem mw_Hall_109 : gwV gWS R_Hall 109 y_View_placeOf b_View_placeOf 2 (some .int) 1 := gwV_of (gWS_at 616 (by decide +kernel) (by decide +kernel)) mi_View_placeOf.1 msl_View_placeOf mi_View_placeOf.2 mc_View_placeOf (by decide +kernel)
theorem mc_KeyMap_takeOut : Cond.code y_KeyMap_takeOut b_KeyMap_takeOut 5 (some .int) ∈ gWS := (gWS_at 631 (by decide +kernel) (by decide +kernel))
theorem mi_KeyMap_takeOut : Cond.instanceMethod y_KeyMap_takeOut ∈ gWS ∧ Cond.initialized R_KeyMap ∈ gWS := ⟨(gWS_at 629 (by decide +kernel) (by decide +kernel)), (gWS_at 41 (by decide +kernel) (by decide +kernel))⟩
theorem msl_KeyMap_takeOut : Cond.selects R_KeyMap y_KeyMap_takeOut y_KeyMap_takeOut ∈ gWS := (gWS_at 630 (by decide +kernel) (by decide +kernel))
theorem mw_Hall_110 : gwV gWS R_Hall 110 y_KeyMap_takeOut b_KeyMap_takeOut 5 (some .int) 1 := gwV_of (gWS_at 628 (by decide +kernel) (by decide +kernel)) mi_KeyMap_takeOut.1 msl_KeyMap_takeOut mi_KeyMap_takeOut.2 mc_KeyMap_takeOut (by decide +kernel)
theorem mc_Hall_isView : Cond.code y_Hall_isView b_Hall_isView 2 (some .boolean) ∈ gWS := (gWS_at 340 (by decide +kernel) (by decide +kernel))
theorem mi_Hall_isView : Cond.instanceMethod y_Hall_isView ∈ gWS ∧ Cond.initialized R_Hall ∈ gWS := ⟨(gWS_at 339 (by decide +kernel) (by decide +kernel)), (gWS_at 38 (by decide +kernel) (by decide +kernel))⟩
theorem msl_Hall_isView : Cond.selects R_Hall y_Hall_isView y_Hall_isView ∈ gWS := (gWS_at 0 (by decide +kernel) (by decide +kernel))
theorem mw_Hall_114 : gwV gWS R_Hall 114 y_Hall_isView b_Hall_isView 2 (some .boolean) 1 := gwV_of (gWS_at 337 (by decide +kernel) (by decide +kernel)) mi_Hall_isView.1 msl_Hall_isView mi_Hall_isView.2 mc_Hall_isView (by decide +kernel)
theorem mc_Hall_measured : Cond.code y_Hall_measured b_Hall_measured 3 (some (.object "KeyHall$View")) ∈ gWS := (gWS_at 344 (by decide +kernel) (by decide +kernel))
theorem mi_Hall_measured : Cond.instanceMethod y_Hall_measured ∈ gWS ∧ Cond.initialized R_Hall ∈ gWS := ⟨(gWS_at 343 (by decide +kernel) (by decide +kernel)), (gWS_at 38 (by decide +kernel) (by decide +kernel))⟩
theorem msl_Hall_measured : Cond.selects R_Hall y_Hall_measured y_Hall_measured ∈ gWS := (gWS_at 1 (by decide +kernel) (by decide +kernel))
theorem mw_Hall_118 : gwV gWS R_Hall 118 y_Hall_measured b_Hall_measured 3 (some (.object "KeyHall$View")) 1 := gwV_of (gWS_at 341 (by decide +kernel) (by decide +kernel)) mi_Hall_measured.1 msl_Hall_measured mi_Hall_measured.2 mc_Hall_measured (by decide +kernel)
theorem mw_Hall_121 : gwV gWS R_Hall 121 y_View_count b_View_count 1 (some .int) 0 := gwV_of (gWS_at 437 (by decide +kernel) (by decide +kernel)) mi_View_count.1 msl_View_count mi_View_count.2 mc_View_count (by decide +kernel)
theorem mc_View_rankBy : Cond.code y_View_rankBy b_View_rankBy 3 (some .int) ∈ gWS := (gWS_at 643 (by decide +kernel) (by decide +kernel))
theorem mi_View_rankBy : Cond.instanceMethod y_View_rankBy ∈ gWS ∧ Cond.initialized R_View ∈ gWS := ⟨(gWS_at 641 (by decide +kernel) (by decide +kernel)), (gWS_at 40 (by decide +kernel) (by decide +kernel))⟩
theorem msl_View_rankBy : Cond.selects R_View y_View_rankBy y_View_rankBy ∈ gWS := (gWS_at 642 (by decide +kernel) (by decide +kernel))
theorem mw_Hall_124 : gwV gWS R_Hall 124 y_View_rankBy b_View_rankBy 3 (some .int) 2 := gwV_of (gWS_at 640 (by decide +kernel) (by decide +kernel)) mi_View_rankBy.1 msl_View_rankBy mi_View_rankBy.2 mc_View_rankBy (by decide +kernel)
theorem mc_Hall_tell : Cond.code y_Hall_tell b_Hall_tell 4 (some .int) ∈ gWS := (gWS_at 660 (by decide +kernel) (by decide +kernel))
theorem mi_Hall_tell : Cond.instanceMethod y_Hall_tell ∈ gWS ∧ Cond.initialized R_Hall ∈ gWS := ⟨(gWS_at 659 (by decide +kernel) (by decide +kernel)), (gWS_at 38 (by decide +kernel) (by decide +kernel))⟩
theorem msl_Hall_tell : Cond.selects R_Hall y_Hall_tell y_Hall_tell ∈ gWS := (gWS_at 5 (by decide +kernel) (by decide +kernel))
theorem mw_Hall_128 : gwV gWS R_Hall 128 y_Hall_tell b_Hall_tell 4 (some .int) 2 := gwV_of (gWS_at 657 (by decide +kernel) (by decide +kernel)) mi_Hall_tell.1 msl_Hall_tell mi_Hall_tell.2 mc_Hall_tell (by decide +kernel)
theorem mw_Hall_132 : gwV gWS R_Hall 132 y_View_placeRanked b_View_placeRanked 2 (some .int) 1 := gwV_of (gWS_at 676 (by decide +kernel) (by decide +kernel)) mi_View_placeRanked.1 msl_View_placeRanked mi_View_placeRanked.2 mc_View_placeRanked (by decide +kernel)
theorem lk_Hall_135 : Cond.fieldLink R_Hall 135 "KeyHall$Key" "letters" "[I" ∈ gWS := (gWS_at 76 (by decide +kernel) (by decide +kernel))
theorem lk_Hall_138 : Cond.fieldLink R_Hall 138 "KeyHall$View" "walker" "LKeyHall$Walker;" ∈ gWS := (gWS_at 158 (by decide +kernel) (by decide +kernel))
theorem lk_Hall_142 : Cond.fieldLink R_Hall 142 "KeyHall$KeyMap" "changes" "I" ∈ gWS := (gWS_at 113 (by decide +kernel) (by decide +kernel))
theorem mc_Walker_begin : Cond.code y_Walker_begin b_Walker_begin 2 none ∈ gWS := (gWS_at 452 (by decide +kernel) (by decide +kernel))
theorem mi_Walker_begin : Cond.instanceMethod y_Walker_begin ∈ gWS ∧ Cond.initialized R_Walker ∈ gWS := ⟨(gWS_at 450 (by decide +kernel) (by decide +kernel)), (gWS_at 42 (by decide +kernel) (by decide +kernel))⟩
theorem msl_Walker_begin : Cond.selects R_Walker y_Walker_begin y_Walker_begin ∈ gWS := (gWS_at 451 (by decide +kernel) (by decide +kernel))
theorem mw_Hall_145 : gwV gWS R_Hall 145 y_Walker_begin b_Walker_begin 2 none 1 := gwV_of (gWS_at 449 (by decide +kernel) (by decide +kernel)) mi_Walker_begin.1 msl_Walker_begin mi_Walker_begin.2 mc_Walker_begin (by decide +kernel)
theorem mc_Walker_mayGoOn : Cond.code y_Walker_mayGoOn b_Walker_mayGoOn 2 (some .boolean) ∈ gWS := (gWS_at 701 (by decide +kernel) (by decide +kernel))
theorem mi_Walker_mayGoOn : Cond.instanceMethod y_Walker_mayGoOn ∈ gWS ∧ Cond.initialized R_Walker ∈ gWS := ⟨(gWS_at 699 (by decide +kernel) (by decide +kernel)), (gWS_at 42 (by decide +kernel) (by decide +kernel))⟩
theorem msl_Walker_mayGoOn : Cond.selects R_Walker y_Walker_mayGoOn y_Walker_mayGoOn ∈ gWS := (gWS_at 700 (by decide +kernel) (by decide +kernel))
theorem mw_Hall_150 : gwV gWS R_Hall 150 y_Walker_mayGoOn b_Walker_mayGoOn 2 (some .boolean) 1 := gwV_of (gWS_at 698 (by decide +kernel) (by decide +kernel)) mi_Walker_mayGoOn.1 msl_Walker_mayGoOn mi_Walker_mayGoOn.2 mc_Walker_mayGoOn (by decide +kernel)
theorem lk_Hall_153 : Cond.fieldLink R_Hall 153 "KeyHall$Walker" "behind" "I" ∈ gWS := (gWS_at 137 (by decide +kernel) (by decide +kernel))
theorem mc_Walker_step : Cond.code y_Walker_step b_Walker_step 1 none ∈ gWS := (gWS_at 705 (by decide +kernel) (by decide +kernel))
theorem mi_Walker_step : Cond.instanceMethod y_Walker_step ∈ gWS ∧ Cond.initialized R_Walker ∈ gWS := ⟨(gWS_at 703 (by decide +kernel) (by decide +kernel)), (gWS_at 42 (by decide +kernel) (by decide +kernel))⟩
theorem msl_Walker_step : Cond.selects R_Walker y_Walker_step y_Walker_step ∈ gWS := (gWS_at 704 (by decide +kernel) (by decide +kernel))
theorem mw_Hall_156 : gwV gWS R_Hall 156 y_Walker_step b_Walker_step 1 none 0 := gwV_of (gWS_at 702 (by decide +kernel) (by decide +kernel)) mi_Walker_step.1 msl_Walker_step mi_Walker_step.2 mc_Walker_step (by decide +kernel)
theorem lk_Hall_159 : Cond.fieldLink R_Hall 159 "KeyHall$Walker" "hasTold" "Z" ∈ gWS := (gWS_at 139 (by decide +kernel) (by decide +kernel))
theorem mc_Walker_stepBack : Cond.code y_Walker_stepBack b_Walker_stepBack 2 none ∈ gWS := (gWS_at 716 (by decide +kernel) (by decide +kernel))
theorem mi_Walker_stepBack : Cond.instanceMethod y_Walker_stepBack ∈ gWS ∧ Cond.initialized R_Walker ∈ gWS := ⟨(gWS_at 714 (by decide +kernel) (by decide +kernel)), (gWS_at 42 (by decide +kernel) (by decide +kernel))⟩
theorem msl_Walker_stepBack : Cond.selects R_Walker y_Walker_stepBack y_Walker_stepBack ∈ gWS := (gWS_at 715 (by decide +kernel) (by decide +kernel))
theorem mw_Hall_163 : gwV gWS R_Hall 163 y_Walker_stepBack b_Walker_stepBack 2 none 1 := gwV_of (gWS_at 713 (by decide +kernel) (by decide +kernel)) mi_Walker_stepBack.1 msl_Walker_stepBack mi_Walker_stepBack.2 mc_Walker_stepBack (by decide +kernel)
theorem lk_Hall_166 : Cond.fieldLink R_Hall 166 "KeyHall$View" "from" "I" ∈ gWS := (gWS_at 161 (by decide +kernel) (by decide +kernel))
theorem lk_Hall_169 : Cond.fieldLink R_Hall 169 "KeyHall$View" "to" "I" ∈ gWS := (gWS_at 163 (by decide +kernel) (by decide +kernel))
theorem lk_Hall_172 : Cond.fieldLink R_Hall 172 "KeyHall$KeyMap" "keys" "[LKeyHall$Key;" ∈ gWS := (gWS_at 105 (by decide +kernel) (by decide +kernel))
theorem mc_Key_matches : Cond.code y_Key_matches b_Key_matches 5 (some .boolean) ∈ gWS := (gWS_at 727 (by decide +kernel) (by decide +kernel))
theorem mi_Key_matches : Cond.instanceMethod y_Key_matches ∈ gWS ∧ Cond.initialized R_Key ∈ gWS := ⟨(gWS_at 725 (by decide +kernel) (by decide +kernel)), (gWS_at 39 (by decide +kernel) (by decide +kernel))⟩
theorem msl_Key_matches : Cond.selects R_Key y_Key_matches y_Key_matches ∈ gWS := (gWS_at 726 (by decide +kernel) (by decide +kernel))
theorem mw_Hall_176 : gwV gWS R_Hall 176 y_Key_matches b_Key_matches 5 (some .boolean) 2 := gwV_of (gWS_at 724 (by decide +kernel) (by decide +kernel)) mi_Key_matches.1 msl_Key_matches mi_Key_matches.2 mc_Key_matches (by decide +kernel)
theorem lk_Hall_180 : Cond.fieldLink R_Hall 180 "KeyHall" "LEAST_FAN" "[I" ∈ gWS := (gWS_at 735 (by decide +kernel) (by decide +kernel))
theorem lk_Hall_183 : Cond.fieldLink R_Hall 183 "KeyHall" "MOST_FAN" "[I" ∈ gWS := (gWS_at 737 (by decide +kernel) (by decide +kernel))
theorem mc_Edges_countInner : Cond.code y_Edges_countInner b_Edges_countInner 8 (some .int) ∈ gWS := (gWS_at 742 (by decide +kernel) (by decide +kernel))
theorem mi_Edges_countInner : Cond.instanceMethod y_Edges_countInner ∈ gWS ∧ Cond.initialized R_Edges ∈ gWS := ⟨(gWS_at 740 (by decide +kernel) (by decide +kernel)), (gWS_at 43 (by decide +kernel) (by decide +kernel))⟩
theorem msl_Edges_countInner : Cond.selects R_Edges y_Edges_countInner y_Edges_countInner ∈ gWS := (gWS_at 741 (by decide +kernel) (by decide +kernel))
theorem mw_Hall_186 : gwV gWS R_Hall 186 y_Edges_countInner b_Edges_countInner 8 (some .int) 3 := gwV_of (gWS_at 739 (by decide +kernel) (by decide +kernel)) mi_Edges_countInner.1 msl_Edges_countInner mi_Edges_countInner.2 mc_Edges_countInner (by decide +kernel)
theorem mc_Edges_depth : Cond.code y_Edges_depth b_Edges_depth 6 (some .int) ∈ gWS := (gWS_at 759 (by decide +kernel) (by decide +kernel))
theorem mi_Edges_depth : Cond.instanceMethod y_Edges_depth ∈ gWS ∧ Cond.initialized R_Edges ∈ gWS := ⟨(gWS_at 757 (by decide +kernel) (by decide +kernel)), (gWS_at 43 (by decide +kernel) (by decide +kernel))⟩
theorem msl_Edges_depth : Cond.selects R_Edges y_Edges_depth y_Edges_depth ∈ gWS := (gWS_at 758 (by decide +kernel) (by decide +kernel))
theorem mw_Hall_190 : gwV gWS R_Hall 190 y_Edges_depth b_Edges_depth 6 (some .int) 2 := gwV_of (gWS_at 756 (by decide +kernel) (by decide +kernel)) mi_Edges_depth.1 msl_Edges_depth mi_Edges_depth.2 mc_Edges_depth (by decide +kernel)
theorem mc_Automaton_become : Cond.code y_Automaton_become b_Automaton_become 3 none ∈ gWS := (gWS_at 774 (by decide +kernel) (by decide +kernel))
theorem mi_Automaton_become : Cond.instanceMethod y_Automaton_become ∈ gWS ∧ Cond.initialized R_Automaton ∈ gWS := ⟨(gWS_at 772 (by decide +kernel) (by decide +kernel)), (gWS_at 44 (by decide +kernel) (by decide +kernel))⟩
theorem msl_Automaton_become : Cond.selects R_Automaton y_Automaton_become y_Automaton_become ∈ gWS := (gWS_at 773 (by decide +kernel) (by decide +kernel))
theorem mw_Hall_194 : gwV gWS R_Hall 194 y_Automaton_become b_Automaton_become 3 none 1 := gwV_of (gWS_at 771 (by decide +kernel) (by decide +kernel)) mi_Automaton_become.1 msl_Automaton_become mi_Automaton_become.2 mc_Automaton_become (by decide +kernel)
theorem lk_Hall_198 : Cond.fieldLink R_Hall 198 "KeyHall$Automaton" "states" "I" ∈ gWS := (gWS_at 212 (by decide +kernel) (by decide +kernel))
theorem lk_Hall_201 : Cond.fieldLink R_Hall 201 "KeyHall$Automaton" "steps" "I" ∈ gWS := (gWS_at 214 (by decide +kernel) (by decide +kernel))
theorem lk_Hall_204 : Cond.fieldLink R_Hall 204 "KeyHall$Automaton" "finals" "I" ∈ gWS := (gWS_at 216 (by decide +kernel) (by decide +kernel))
theorem mc_Automaton_reach : Cond.code y_Automaton_reach b_Automaton_reach 4 (some .int) ∈ gWS := (gWS_at 475 (by decide +kernel) (by decide +kernel))
theorem mi_Automaton_reach : Cond.instanceMethod y_Automaton_reach ∈ gWS ∧ Cond.initialized R_Automaton ∈ gWS := ⟨(gWS_at 473 (by decide +kernel) (by decide +kernel)), (gWS_at 44 (by decide +kernel) (by decide +kernel))⟩
theorem msl_Automaton_reach : Cond.selects R_Automaton y_Automaton_reach y_Automaton_reach ∈ gWS := (gWS_at 474 (by decide +kernel) (by decide +kernel))
theorem mw_Hall_207 : gwV gWS R_Hall 207 y_Automaton_reach b_Automaton_reach 4 (some .int) 1 := gwV_of (gWS_at 472 (by decide +kernel) (by decide +kernel)) mi_Automaton_reach.1 msl_Automaton_reach mi_Automaton_reach.2 mc_Automaton_reach (by decide +kernel)
theorem mc_Automaton_accepts : Cond.code y_Automaton_accepts b_Automaton_accepts 3 (some .boolean) ∈ gWS := (gWS_at 483 (by decide +kernel) (by decide +kernel))
theorem mi_Automaton_accepts : Cond.instanceMethod y_Automaton_accepts ∈ gWS ∧ Cond.initialized R_Automaton ∈ gWS := ⟨(gWS_at 481 (by decide +kernel) (by decide +kernel)), (gWS_at 44 (by decide +kernel) (by decide +kernel))⟩
theorem msl_Automaton_accepts : Cond.selects R_Automaton y_Automaton_accepts y_Automaton_accepts ∈ gWS := (gWS_at 482 (by decide +kernel) (by decide +kernel))
theorem mw_Hall_210 : gwV gWS R_Hall 210 y_Automaton_accepts b_Automaton_accepts 3 (some .boolean) 1 := gwV_of (gWS_at 480 (by decide +kernel) (by decide +kernel)) mi_Automaton_accepts.1 msl_Automaton_accepts mi_Automaton_accepts.2 mc_Automaton_accepts (by decide +kernel)
theorem lk_Hall_213 : Cond.fieldLink R_Hall 213 "KeyHall$EditedText" "length" "I" ∈ gWS := (gWS_at 284 (by decide +kernel) (by decide +kernel))
theorem mc_EditedText_open : Cond.code y_EditedText_open b_EditedText_open 3 none ∈ gWS := (gWS_at 819 (by decide +kernel) (by decide +kernel))
theorem mi_EditedText_open : Cond.instanceMethod y_EditedText_open ∈ gWS ∧ Cond.initialized R_EditedText ∈ gWS := ⟨(gWS_at 817 (by decide +kernel) (by decide +kernel)), (gWS_at 45 (by decide +kernel) (by decide +kernel))⟩
theorem msl_EditedText_open : Cond.selects R_EditedText y_EditedText_open y_EditedText_open ∈ gWS := (gWS_at 818 (by decide +kernel) (by decide +kernel))
theorem mw_Hall_214 : gwV gWS R_Hall 214 y_EditedText_open b_EditedText_open 3 none 2 := gwV_of (gWS_at 816 (by decide +kernel) (by decide +kernel)) mi_EditedText_open.1 msl_EditedText_open mi_EditedText_open.2 mc_EditedText_open (by decide +kernel)
theorem mc_EditedText_close : Cond.code y_EditedText_close b_EditedText_close 3 none ∈ gWS := (gWS_at 838 (by decide +kernel) (by decide +kernel))
theorem mi_EditedText_close : Cond.instanceMethod y_EditedText_close ∈ gWS ∧ Cond.initialized R_EditedText ∈ gWS := ⟨(gWS_at 836 (by decide +kernel) (by decide +kernel)), (gWS_at 45 (by decide +kernel) (by decide +kernel))⟩
theorem msl_EditedText_close : Cond.selects R_EditedText y_EditedText_close y_EditedText_close ∈ gWS := (gWS_at 837 (by decide +kernel) (by decide +kernel))
theorem mw_Hall_218 : gwV gWS R_Hall 218 y_EditedText_close b_EditedText_close 3 none 2 := gwV_of (gWS_at 835 (by decide +kernel) (by decide +kernel)) mi_EditedText_close.1 msl_EditedText_close mi_EditedText_close.2 mc_EditedText_close (by decide +kernel)
theorem mc_EditedText_takeBack : Cond.code y_EditedText_takeBack b_EditedText_takeBack 1 (some .boolean) ∈ gWS := (gWS_at 492 (by decide +kernel) (by decide +kernel))
theorem mi_EditedText_takeBack : Cond.instanceMethod y_EditedText_takeBack ∈ gWS ∧ Cond.initialized R_EditedText ∈ gWS := ⟨(gWS_at 490 (by decide +kernel) (by decide +kernel)), (gWS_at 45 (by decide +kernel) (by decide +kernel))⟩
theorem msl_EditedText_takeBack : Cond.selects R_EditedText y_EditedText_takeBack y_EditedText_takeBack ∈ gWS := (gWS_at 491 (by decide +kernel) (by decide +kernel))
theorem mw_Hall_222 : gwV gWS R_Hall 222 y_EditedText_takeBack b_EditedText_takeBack 1 (some .boolean) 0 := gwV_of (gWS_at 489 (by decide +kernel) (by decide +kernel)) mi_EditedText_takeBack.1 msl_EditedText_takeBack mi_EditedText_takeBack.2 mc_EditedText_takeBack (by decide +kernel)
theorem mc_EditedText_hash : Cond.code y_EditedText_hash b_EditedText_hash 3 (some .int) ∈ gWS := (gWS_at 505 (by decide +kernel) (by decide +kernel))
theorem mi_EditedText_hash : Cond.instanceMethod y_EditedText_hash ∈ gWS ∧ Cond.initialized R_EditedText ∈ gWS := ⟨(gWS_at 503 (by decide +kernel) (by decide +kernel)), (gWS_at 45 (by decide +kernel) (by decide +kernel))⟩
theorem msl_EditedText_hash : Cond.selects R_EditedText y_EditedText_hash y_EditedText_hash ∈ gWS := (gWS_at 504 (by decide +kernel) (by decide +kernel))
theorem mw_Hall_226 : gwV gWS R_Hall 226 y_EditedText_hash b_EditedText_hash 3 (some .int) 0 := gwV_of (gWS_at 502 (by decide +kernel) (by decide +kernel)) mi_EditedText_hash.1 msl_EditedText_hash mi_EditedText_hash.2 mc_EditedText_hash (by decide +kernel)
theorem lk_Hall_229 : Cond.fieldLink R_Hall 229 "KeyHall$EditedText" "letters" "[I" ∈ gWS := (gWS_at 282 (by decide +kernel) (by decide +kernel))
theorem mw_Hall_230 : gwV gWS R_Hall 230 y_EditedText_sortedSuffixes b_EditedText_sortedSuffixes 1 (some (.object "KeyHall$SuffixOrder")) 0 := gwV_of (gWS_at 510 (by decide +kernel) (by decide +kernel)) mi_EditedText_sortedSuffixes.1 msl_EditedText_sortedSuffixes mi_EditedText_sortedSuffixes.2 mc_EditedText_sortedSuffixes (by decide +kernel)
theorem lk_Hall_234 : Cond.fieldLink R_Hall 234 "KeyHall$SuffixOrder" "starts" "[I" ∈ gWS := (gWS_at 274 (by decide +kernel) (by decide +kernel))
theorem mc_EditedText_sharedWithSuffixBefore : Cond.code y_EditedText_sharedWithSuffixBefore b_EditedText_sharedWithSuffixBefore 6 (some .int) ∈ gWS := (gWS_at 525 (by decide +kernel) (by decide +kernel))
theorem mi_EditedText_sharedWithSuffixBefore : Cond.instanceMethod y_EditedText_sharedWithSuffixBefore ∈ gWS ∧ Cond.initialized R_EditedText ∈ gWS := ⟨(gWS_at 523 (by decide +kernel) (by decide +kernel)), (gWS_at 45 (by decide +kernel) (by decide +kernel))⟩
theorem msl_EditedText_sharedWithSuffixBefore : Cond.selects R_EditedText y_EditedText_sharedWithSuffixBefore y_EditedText_sharedWithSuffixBefore ∈ gWS := (gWS_at 524 (by decide +kernel) (by decide +kernel))
theorem mw_Hall_239 : gwV gWS R_Hall 239 y_EditedText_sharedWithSuffixBefore b_EditedText_sharedWithSuffixBefore 6 (some .int) 1 := gwV_of (gWS_at 522 (by decide +kernel) (by decide +kernel)) mi_EditedText_sharedWithSuffixBefore.1 msl_EditedText_sharedWithSuffixBefore mi_EditedText_sharedWithSuffixBefore.2 mc_EditedText_sharedWithSuffixBefore (by decide +kernel)
theorem mc_EditedText_countPlaces : Cond.code y_EditedText_countPlaces b_EditedText_countPlaces 4 (some .int) ∈ gWS := (gWS_at 534 (by decide +kernel) (by decide +kernel))
theorem mi_EditedText_countPlaces : Cond.instanceMethod y_EditedText_countPlaces ∈ gWS ∧ Cond.initialized R_EditedText ∈ gWS := ⟨(gWS_at 532 (by decide +kernel) (by decide +kernel)), (gWS_at 45 (by decide +kernel) (by decide +kernel))⟩
theorem msl_EditedText_countPlaces : Cond.selects R_EditedText y_EditedText_countPlaces y_EditedText_countPlaces ∈ gWS := (gWS_at 533 (by decide +kernel) (by decide +kernel))
theorem mw_Hall_242 : gwV gWS R_Hall 242 y_EditedText_countPlaces b_EditedText_countPlaces 4 (some .int) 1 := gwV_of (gWS_at 531 (by decide +kernel) (by decide +kernel)) mi_EditedText_countPlaces.1 msl_EditedText_countPlaces mi_EditedText_countPlaces.2 mc_EditedText_countPlaces (by decide +kernel)
theorem mc_EditedText_leastSuffixBeginning : Cond.code y_EditedText_leastSuffixBeginning b_EditedText_leastSuffixBeginning 4 (some .int) ∈ gWS := (gWS_at 542 (by decide +kernel) (by decide +kernel))
theorem mi_EditedText_leastSuffixBeginning : Cond.instanceMethod y_EditedText_leastSuffixBeginning ∈ gWS ∧ Cond.initialized R_EditedText ∈ gWS := ⟨(gWS_at 540 (by decide +kernel) (by decide +kernel)), (gWS_at 45 (by decide +kernel) (by decide +kernel))⟩
theorem msl_EditedText_leastSuffixBeginning : Cond.selects R_EditedText y_EditedText_leastSuffixBeginning y_EditedText_leastSuffixBeginning ∈ gWS := (gWS_at 541 (by decide +kernel) (by decide +kernel))
theorem mw_Hall_245 : gwV gWS R_Hall 245 y_EditedText_leastSuffixBeginning b_EditedText_leastSuffixBeginning 4 (some .int) 1 := gwV_of (gWS_at 539 (by decide +kernel) (by decide +kernel)) mi_EditedText_leastSuffixBeginning.1 msl_EditedText_leastSuffixBeginning mi_EditedText_leastSuffixBeginning.2 mc_EditedText_leastSuffixBeginning (by decide +kernel)
theorem mw_Hall_248 : gwV gWS R_Hall 248 y_Key_become b_Key_become 2 none 1 := gwV_of (gWS_at 461 (by decide +kernel) (by decide +kernel)) mi_Key_become.1 msl_Key_become mi_Key_become.2 mc_Key_become (by decide +kernel)
theorem mc_Key_clear : Cond.code y_Key_clear b_Key_clear 1 none ∈ gWS := (gWS_at 471 (by decide +kernel) (by decide +kernel))
theorem mi_Key_clear : Cond.instanceMethod y_Key_clear ∈ gWS ∧ Cond.initialized R_Key ∈ gWS := ⟨(gWS_at 469 (by decide +kernel) (by decide +kernel)), (gWS_at 39 (by decide +kernel) (by decide +kernel))⟩
theorem msl_Key_clear : Cond.selects R_Key y_Key_clear y_Key_clear ∈ gWS := (gWS_at 470 (by decide +kernel) (by decide +kernel))
theorem mw_Hall_251 : gwV gWS R_Hall 251 y_Key_clear b_Key_clear 1 none 0 := gwV_of (gWS_at 468 (by decide +kernel) (by decide +kernel)) mi_Key_clear.1 msl_Key_clear mi_Key_clear.2 mc_Key_clear (by decide +kernel)
theorem mc_View_measure : Cond.code y_View_measure b_View_measure 1 none ∈ gWS := (gWS_at 416 (by decide +kernel) (by decide +kernel))
theorem mi_View_measure : Cond.instanceMethod y_View_measure ∈ gWS ∧ Cond.initialized R_View ∈ gWS := ⟨(gWS_at 414 (by decide +kernel) (by decide +kernel)), (gWS_at 40 (by decide +kernel) (by decide +kernel))⟩
theorem msl_View_measure : Cond.selects R_View y_View_measure y_View_measure ∈ gWS := (gWS_at 415 (by decide +kernel) (by decide +kernel))
theorem mw_Hall_254 : gwV gWS R_Hall 254 y_View_measure b_View_measure 1 none 0 := gwV_of (gWS_at 413 (by decide +kernel) (by decide +kernel)) mi_View_measure.1 msl_View_measure mi_View_measure.2 mc_View_measure (by decide +kernel)
theorem lk_Hall_257 : Cond.classLink R_Hall 257 "java/util/NoSuchElementException" ∈ gWS := (gWS_at 661 (by decide +kernel) (by decide +kernel))
theorem mo_Model_1 : Cond.methodLink R_Model 1 objectInit ∈ gWS ∧ Cond.instanceMethod objectInit ∈ gWS ∧ Cond.code objectInit ⟨#[0xb1]⟩ 1 none ∈ gWS := ⟨(gWS_at 844 (by decide +kernel) (by decide +kernel)), (gWS_at 64 (by decide +kernel) (by decide +kernel)), (gWS_at 65 (by decide +kernel) (by decide +kernel))⟩
theorem lk_Model_7 : Cond.fieldLink R_Model 7 "KeyHallModel" "tape" "[I" ∈ gWS := (gWS_at 846 (by decide +kernel) (by decide +kernel))
theorem lk_Model_13 : Cond.fieldLink R_Model 13 "KeyHallModel" "many" "[I" ∈ gWS := (gWS_at 848 (by decide +kernel) (by decide +kernel))
theorem lk_Model_16 : Cond.fieldLink R_Model 16 "KeyHallModel" "turns" "[I" ∈ gWS := (gWS_at 849 (by decide +kernel) (by decide +kernel))
theorem lk_Model_19 : Cond.fieldLink R_Model 19 "KeyHallModel" "letters" "[I" ∈ gWS := (gWS_at 850 (by decide +kernel) (by decide +kernel))
theorem lk_Model_22 : Cond.fieldLink R_Model 22 "KeyHallModel" "length" "[I" ∈ gWS := (gWS_at 851 (by decide +kernel) (by decide +kernel))
theorem lk_Model_25 : Cond.fieldLink R_Model 25 "KeyHallModel" "value" "[I" ∈ gWS := (gWS_at 852 (by decide +kernel) (by decide +kernel))
theorem lk_Model_28 : Cond.fieldLink R_Model 28 "KeyHallModel" "views" "I" ∈ gWS := (gWS_at 853 (by decide +kernel) (by decide +kernel))
theorem lk_Model_32 : Cond.fieldLink R_Model 32 "KeyHallModel" "of" "[I" ∈ gWS := (gWS_at 854 (by decide +kernel) (by decide +kernel))
theorem lk_Model_35 : Cond.fieldLink R_Model 35 "KeyHallModel" "sort" "[I" ∈ gWS := (gWS_at 855 (by decide +kernel) (by decide +kernel))
theorem lk_Model_38 : Cond.fieldLink R_Model 38 "KeyHallModel" "textLong" "[I" ∈ gWS := (gWS_at 856 (by decide +kernel) (by decide +kernel))
theorem lk_Model_41 : Cond.fieldLink R_Model 41 "KeyHallModel" "text" "[I" ∈ gWS := (gWS_at 857 (by decide +kernel) (by decide +kernel))
theorem lk_Model_44 : Cond.fieldLink R_Model 44 "KeyHallModel" "begun" "[Z" ∈ gWS := (gWS_at 858 (by decide +kernel) (by decide +kernel))
theorem lk_Model_48 : Cond.fieldLink R_Model 48 "KeyHallModel" "told" "[Z" ∈ gWS := (gWS_at 859 (by decide +kernel) (by decide +kernel))
theorem lk_Model_51 : Cond.fieldLink R_Model 51 "KeyHallModel" "drops" "[Z" ∈ gWS := (gWS_at 860 (by decide +kernel) (by decide +kernel))
theorem lk_Model_54 : Cond.fieldLink R_Model 54 "KeyHallModel" "seen" "[I" ∈ gWS := (gWS_at 861 (by decide +kernel) (by decide +kernel))
theorem lk_Model_57 : Cond.fieldLink R_Model 57 "KeyHallModel" "lastLong" "[I" ∈ gWS := (gWS_at 862 (by decide +kernel) (by decide +kernel))
theorem lk_Model_60 : Cond.fieldLink R_Model 60 "KeyHallModel" "last" "[I" ∈ gWS := (gWS_at 863 (by decide +kernel) (by decide +kernel))
theorem lk_Model_63 : Cond.fieldLink R_Model 63 "KeyHallModel" "found" "[I" ∈ gWS := (gWS_at 864 (by decide +kernel) (by decide +kernel))
theorem lk_Model_66 : Cond.fieldLink R_Model 66 "KeyHallModel" "differs" "[Z" ∈ gWS := (gWS_at 866 (by decide +kernel) (by decide +kernel))
theorem lk_Model_69 : Cond.fieldLink R_Model 69 "KeyHallModel" "firstKey" "[I" ∈ gWS := (gWS_at 868 (by decide +kernel) (by decide +kernel))
theorem lk_Model_72 : Cond.fieldLink R_Model 72 "KeyHallModel" "chars" "[I" ∈ gWS := (gWS_at 869 (by decide +kernel) (by decide +kernel))
theorem lk_Model_75 : Cond.fieldLink R_Model 75 "KeyHallModel" "stateOf" "[I" ∈ gWS := (gWS_at 870 (by decide +kernel) (by decide +kernel))
theorem lk_Model_78 : Cond.fieldLink R_Model 78 "KeyHallModel" "isFinal" "[Z" ∈ gWS := (gWS_at 874 (by decide +kernel) (by decide +kernel))
theorem lk_Model_81 : Cond.fieldLink R_Model 81 "KeyHallModel" "stepFrom" "[I" ∈ gWS := (gWS_at 875 (by decide +kernel) (by decide +kernel))
theorem lk_Model_84 : Cond.fieldLink R_Model 84 "KeyHallModel" "stepChar" "[I" ∈ gWS := (gWS_at 876 (by decide +kernel) (by decide +kernel))
theorem lk_Model_87 : Cond.fieldLink R_Model 87 "KeyHallModel" "stepTo" "[I" ∈ gWS := (gWS_at 877 (by decide +kernel) (by decide +kernel))
theorem lk_Model_90 : Cond.fieldLink R_Model 90 "KeyHallModel" "page" "[I" ∈ gWS := (gWS_at 878 (by decide +kernel) (by decide +kernel))
theorem lk_Model_93 : Cond.fieldLink R_Model 93 "KeyHallModel" "pages" "[I" ∈ gWS := (gWS_at 880 (by decide +kernel) (by decide +kernel))
theorem lk_Model_96 : Cond.fieldLink R_Model 96 "KeyHallModel" "sizes" "[I" ∈ gWS := (gWS_at 881 (by decide +kernel) (by decide +kernel))
theorem lk_Model_99 : Cond.fieldLink R_Model 99 "KeyHallModel" "code" "I" ∈ gWS := (gWS_at 845 (by decide +kernel) (by decide +kernel))
theorem lk_Model_102 : Cond.fieldLink R_Model 102 "KeyHallModel" "typed" "I" ∈ gWS := (gWS_at 847 (by decide +kernel) (by decide +kernel))
theorem mc_Model_order : Cond.code y_Model_order b_Model_order 7 (some .int) ∈ gWS := (gWS_at 997 (by decide +kernel) (by decide +kernel))
theorem ms_Model_order : Cond.static y_Model_order ∈ gWS ∧ Cond.initialized R_Model ∈ gWS := ⟨(gWS_at 996 (by decide +kernel) (by decide +kernel)), (gWS_at 48 (by decide +kernel) (by decide +kernel))⟩
theorem mw_Model_106 : gwS gWS R_Model 106 y_Model_order b_Model_order 7 (some .int) 6 := gwS_of (gWS_at 995 (by decide +kernel) (by decide +kernel)) ms_Model_order.1 ms_Model_order.2 mc_Model_order (by decide +kernel)
theorem mc_Model_begins : Cond.code y_Model_begins b_Model_begins 6 (some .boolean) ∈ gWS := (gWS_at 994 (by decide +kernel) (by decide +kernel))
theorem ms_Model_begins : Cond.static y_Model_begins ∈ gWS ∧ Cond.initialized R_Model ∈ gWS := ⟨(gWS_at 993 (by decide +kernel) (by decide +kernel)), (gWS_at 48 (by decide +kernel) (by decide +kernel))⟩
theorem mw_Model_110 : gwS gWS R_Model 110 y_Model_begins b_Model_begins 6 (some .boolean) 6 := gwS_of (gWS_at 992 (by decide +kernel) (by decide +kernel)) ms_Model_begins.1 ms_Model_begins.2 mc_Model_begins (by decide +kernel)
theorem mc_Model_mapOf : Cond.code y_Model_mapOf b_Model_mapOf 3 (some .int) ∈ gWS := (gWS_at 1001 (by decide +kernel) (by decide +kernel))
theorem mi_Model_mapOf : Cond.instanceMethod y_Model_mapOf ∈ gWS ∧ Cond.initialized R_Model ∈ gWS := ⟨(gWS_at 1000 (by decide +kernel) (by decide +kernel)), (gWS_at 48 (by decide +kernel) (by decide +kernel))⟩
theorem msl_Model_mapOf : Cond.selects R_Model y_Model_mapOf y_Model_mapOf ∈ gWS := (gWS_at 9 (by decide +kernel) (by decide +kernel))
theorem mw_Model_114 : gwV gWS R_Model 114 y_Model_mapOf b_Model_mapOf 3 (some .int) 1 := gwV_of (gWS_at 998 (by decide +kernel) (by decide +kernel)) mi_Model_mapOf.1 msl_Model_mapOf mi_Model_mapOf.2 mc_Model_mapOf (by decide +kernel)
theorem mc_Model_within : Cond.code y_Model_within b_Model_within 7 (some .boolean) ∈ gWS := (gWS_at 991 (by decide +kernel) (by decide +kernel))
theorem mi_Model_within : Cond.instanceMethod y_Model_within ∈ gWS ∧ Cond.initialized R_Model ∈ gWS := ⟨(gWS_at 990 (by decide +kernel) (by decide +kernel)), (gWS_at 48 (by decide +kernel) (by decide +kernel))⟩
theorem msl_Model_within : Cond.selects R_Model y_Model_within y_Model_within ∈ gWS := (gWS_at 8 (by decide +kernel) (by decide +kernel))
theorem mw_Model_118 : gwV gWS R_Model 118 y_Model_within b_Model_within 7 (some .boolean) 4 := gwV_of (gWS_at 988 (by decide +kernel) (by decide +kernel)) mi_Model_within.1 msl_Model_within mi_Model_within.2 mc_Model_within (by decide +kernel)
theorem mc_Model_isView : Cond.code y_Model_isView b_Model_isView 2 (some .boolean) ∈ gWS := (gWS_at 979 (by decide +kernel) (by decide +kernel))
theorem mi_Model_isView : Cond.instanceMethod y_Model_isView ∈ gWS ∧ Cond.initialized R_Model ∈ gWS := ⟨(gWS_at 978 (by decide +kernel) (by decide +kernel)), (gWS_at 48 (by decide +kernel) (by decide +kernel))⟩
theorem msl_Model_isView : Cond.selects R_Model y_Model_isView y_Model_isView ∈ gWS := (gWS_at 6 (by decide +kernel) (by decide +kernel))
theorem mw_Model_122 : gwV gWS R_Model 122 y_Model_isView b_Model_isView 2 (some .boolean) 1 := gwV_of (gWS_at 976 (by decide +kernel) (by decide +kernel)) mi_Model_isView.1 msl_Model_isView mi_Model_isView.2 mc_Model_isView (by decide +kernel)
theorem mc_Model_raise : Cond.code y_Model_raise b_Model_raise 2 (some .int) ∈ gWS := (gWS_at 983 (by decide +kernel) (by decide +kernel))
theorem mi_Model_raise : Cond.instanceMethod y_Model_raise ∈ gWS ∧ Cond.initialized R_Model ∈ gWS := ⟨(gWS_at 982 (by decide +kernel) (by decide +kernel)), (gWS_at 48 (by decide +kernel) (by decide +kernel))⟩
theorem msl_Model_raise : Cond.selects R_Model y_Model_raise y_Model_raise ∈ gWS := (gWS_at 7 (by decide +kernel) (by decide +kernel))
theorem mw_Model_126 : gwV gWS R_Model 126 y_Model_raise b_Model_raise 2 (some .int) 1 := gwV_of (gWS_at 980 (by decide +kernel) (by decide +kernel)) mi_Model_raise.1 msl_Model_raise mi_Model_raise.2 mc_Model_raise (by decide +kernel)
theorem mc_Model_orderOf : Cond.code y_Model_orderOf b_Model_orderOf 5 (some .int) ∈ gWS := (gWS_at 1009 (by decide +kernel) (by decide +kernel))
theorem mi_Model_orderOf : Cond.instanceMethod y_Model_orderOf ∈ gWS ∧ Cond.initialized R_Model ∈ gWS := ⟨(gWS_at 1008 (by decide +kernel) (by decide +kernel)), (gWS_at 48 (by decide +kernel) (by decide +kernel))⟩
theorem msl_Model_orderOf : Cond.selects R_Model y_Model_orderOf y_Model_orderOf ∈ gWS := (gWS_at 11 (by decide +kernel) (by decide +kernel))
theorem mw_Model_129 : gwV gWS R_Model 129 y_Model_orderOf b_Model_orderOf 5 (some .int) 4 := gwV_of (gWS_at 1006 (by decide +kernel) (by decide +kernel)) mi_Model_orderOf.1 msl_Model_orderOf mi_Model_orderOf.2 mc_Model_orderOf (by decide +kernel)
theorem mc_Model_keyOf : Cond.code y_Model_keyOf b_Model_keyOf 6 (some .int) ∈ gWS := (gWS_at 1005 (by decide +kernel) (by decide +kernel))
theorem mi_Model_keyOf : Cond.instanceMethod y_Model_keyOf ∈ gWS ∧ Cond.initialized R_Model ∈ gWS := ⟨(gWS_at 1004 (by decide +kernel) (by decide +kernel)), (gWS_at 48 (by decide +kernel) (by decide +kernel))⟩
theorem msl_Model_keyOf : Cond.selects R_Model y_Model_keyOf y_Model_keyOf ∈ gWS := (gWS_at 10 (by decide +kernel) (by decide +kernel))
theorem mw_Model_133 : gwV gWS R_Model 133 y_Model_keyOf b_Model_keyOf 6 (some .int) 4 := gwV_of (gWS_at 1002 (by decide +kernel) (by decide +kernel)) mi_Model_keyOf.1 msl_Model_keyOf mi_Model_keyOf.2 mc_Model_keyOf (by decide +kernel)
theorem mc_Model_used : Cond.code y_Model_used b_Model_used 3 (some .int) ∈ gWS := (gWS_at 1017 (by decide +kernel) (by decide +kernel))
theorem mi_Model_used : Cond.instanceMethod y_Model_used ∈ gWS ∧ Cond.initialized R_Model ∈ gWS := ⟨(gWS_at 1016 (by decide +kernel) (by decide +kernel)), (gWS_at 48 (by decide +kernel) (by decide +kernel))⟩
theorem msl_Model_used : Cond.selects R_Model y_Model_used y_Model_used ∈ gWS := (gWS_at 12 (by decide +kernel) (by decide +kernel))
theorem mw_Model_136 : gwV gWS R_Model 136 y_Model_used b_Model_used 3 (some .int) 1 := gwV_of (gWS_at 1014 (by decide +kernel) (by decide +kernel)) mi_Model_used.1 msl_Model_used mi_Model_used.2 mc_Model_used (by decide +kernel)
theorem mc_Model_clear : Cond.code y_Model_clear b_Model_clear 5 none ∈ gWS := (gWS_at 1025 (by decide +kernel) (by decide +kernel))
theorem mi_Model_clear : Cond.instanceMethod y_Model_clear ∈ gWS ∧ Cond.initialized R_Model ∈ gWS := ⟨(gWS_at 1024 (by decide +kernel) (by decide +kernel)), (gWS_at 48 (by decide +kernel) (by decide +kernel))⟩
theorem msl_Model_clear : Cond.selects R_Model y_Model_clear y_Model_clear ∈ gWS := (gWS_at 13 (by decide +kernel) (by decide +kernel))
theorem mw_Model_139 : gwV gWS R_Model 139 y_Model_clear b_Model_clear 5 none 2 := gwV_of (gWS_at 1022 (by decide +kernel) (by decide +kernel)) mi_Model_clear.1 msl_Model_clear mi_Model_clear.2 mc_Model_clear (by decide +kernel)
theorem mc_Model_has : Cond.code y_Model_has b_Model_has 4 (some .boolean) ∈ gWS := (gWS_at 1033 (by decide +kernel) (by decide +kernel))
theorem mi_Model_has : Cond.instanceMethod y_Model_has ∈ gWS ∧ Cond.initialized R_Model ∈ gWS := ⟨(gWS_at 1032 (by decide +kernel) (by decide +kernel)), (gWS_at 48 (by decide +kernel) (by decide +kernel))⟩
theorem msl_Model_has : Cond.selects R_Model y_Model_has y_Model_has ∈ gWS := (gWS_at 14 (by decide +kernel) (by decide +kernel))
theorem mw_Model_143 : gwV gWS R_Model 143 y_Model_has b_Model_has 4 (some .boolean) 2 := gwV_of (gWS_at 1030 (by decide +kernel) (by decide +kernel)) mi_Model_has.1 msl_Model_has mi_Model_has.2 mc_Model_has (by decide +kernel)
theorem mc_Model_isTurned : Cond.code y_Model_isTurned b_Model_isTurned 4 (some .boolean) ∈ gWS := (gWS_at 1049 (by decide +kernel) (by decide +kernel))
theorem mi_Model_isTurned : Cond.instanceMethod y_Model_isTurned ∈ gWS ∧ Cond.initialized R_Model ∈ gWS := ⟨(gWS_at 1048 (by decide +kernel) (by decide +kernel)), (gWS_at 48 (by decide +kernel) (by decide +kernel))⟩
theorem msl_Model_isTurned : Cond.selects R_Model y_Model_isTurned y_Model_isTurned ∈ gWS := (gWS_at 17 (by decide +kernel) (by decide +kernel))
theorem mw_Model_147 : gwV gWS R_Model 147 y_Model_isTurned b_Model_isTurned 4 (some .boolean) 1 := gwV_of (gWS_at 1046 (by decide +kernel) (by decide +kernel)) mi_Model_isTurned.1 msl_Model_isTurned mi_Model_isTurned.2 mc_Model_isTurned (by decide +kernel)
theorem mc_Model_side : Cond.code y_Model_side b_Model_side 6 (some .int) ∈ gWS := (gWS_at 1045 (by decide +kernel) (by decide +kernel))
theorem mi_Model_side : Cond.instanceMethod y_Model_side ∈ gWS ∧ Cond.initialized R_Model ∈ gWS := ⟨(gWS_at 1044 (by decide +kernel) (by decide +kernel)), (gWS_at 48 (by decide +kernel) (by decide +kernel))⟩
theorem msl_Model_side : Cond.selects R_Model y_Model_side y_Model_side ∈ gWS := (gWS_at 16 (by decide +kernel) (by decide +kernel))
theorem mw_Model_150 : gwV gWS R_Model 150 y_Model_side b_Model_side 6 (some .int) 5 := gwV_of (gWS_at 1042 (by decide +kernel) (by decide +kernel)) mi_Model_side.1 msl_Model_side mi_Model_side.2 mc_Model_side (by decide +kernel)
theorem lk_Model_154 : Cond.fieldLink R_Model 154 "KeyHallModel" "foundLong" "I" ∈ gWS := (gWS_at 865 (by decide +kernel) (by decide +kernel))
theorem mc_Model_nearest : Cond.code y_Model_nearest b_Model_nearest 13 (some .int) ∈ gWS := (gWS_at 1041 (by decide +kernel) (by decide +kernel))
theorem mi_Model_nearest : Cond.instanceMethod y_Model_nearest ∈ gWS ∧ Cond.initialized R_Model ∈ gWS := ⟨(gWS_at 1040 (by decide +kernel) (by decide +kernel)), (gWS_at 48 (by decide +kernel) (by decide +kernel))⟩
theorem msl_Model_nearest : Cond.selects R_Model y_Model_nearest y_Model_nearest ∈ gWS := (gWS_at 15 (by decide +kernel) (by decide +kernel))
theorem mw_Model_157 : gwV gWS R_Model 157 y_Model_nearest b_Model_nearest 13 (some .int) 6 := gwV_of (gWS_at 1038 (by decide +kernel) (by decide +kernel)) mi_Model_nearest.1 msl_Model_nearest mi_Model_nearest.2 mc_Model_nearest (by decide +kernel)
theorem mc_Model_tell : Cond.code y_Model_tell b_Model_tell 4 (some .int) ∈ gWS := (gWS_at 1053 (by decide +kernel) (by decide +kernel))
theorem mi_Model_tell : Cond.instanceMethod y_Model_tell ∈ gWS ∧ Cond.initialized R_Model ∈ gWS := ⟨(gWS_at 1052 (by decide +kernel) (by decide +kernel)), (gWS_at 48 (by decide +kernel) (by decide +kernel))⟩
theorem msl_Model_tell : Cond.selects R_Model y_Model_tell y_Model_tell ∈ gWS := (gWS_at 18 (by decide +kernel) (by decide +kernel))
theorem mw_Model_161 : gwV gWS R_Model 161 y_Model_tell b_Model_tell 4 (some .int) 2 := gwV_of (gWS_at 1050 (by decide +kernel) (by decide +kernel)) mi_Model_tell.1 msl_Model_tell mi_Model_tell.2 mc_Model_tell (by decide +kernel)
theorem mc_Model_longest : Cond.code y_Model_longest b_Model_longest 8 (some .int) ∈ gWS := (gWS_at 1057 (by decide +kernel) (by decide +kernel))
theorem mi_Model_longest : Cond.instanceMethod y_Model_longest ∈ gWS ∧ Cond.initialized R_Model ∈ gWS := ⟨(gWS_at 1056 (by decide +kernel) (by decide +kernel)), (gWS_at 48 (by decide +kernel) (by decide +kernel))⟩
theorem msl_Model_longest : Cond.selects R_Model y_Model_longest y_Model_longest ∈ gWS := (gWS_at 19 (by decide +kernel) (by decide +kernel))
theorem mw_Model_165 : gwV gWS R_Model 165 y_Model_longest b_Model_longest 8 (some .int) 2 := gwV_of (gWS_at 1054 (by decide +kernel) (by decide +kernel)) mi_Model_longest.1 msl_Model_longest mi_Model_longest.2 mc_Model_longest (by decide +kernel)
theorem mc_Model_size : Cond.code y_Model_size b_Model_size 4 (some .int) ∈ gWS := (gWS_at 1029 (by decide +kernel) (by decide +kernel))
theorem mi_Model_size : Cond.instanceMethod y_Model_size ∈ gWS ∧ Cond.initialized R_Model ∈ gWS := ⟨(gWS_at 1027 (by decide +kernel) (by decide +kernel)), (gWS_at 48 (by decide +kernel) (by decide +kernel))⟩
theorem msl_Model_size : Cond.selects R_Model y_Model_size y_Model_size ∈ gWS := (gWS_at 1028 (by decide +kernel) (by decide +kernel))
theorem mw_Model_168 : gwV gWS R_Model 168 y_Model_size b_Model_size 4 (some .int) 1 := gwV_of (gWS_at 1062 (by decide +kernel) (by decide +kernel)) mi_Model_size.1 msl_Model_size mi_Model_size.2 mc_Model_size (by decide +kernel)
theorem mc_Model_stale : Cond.code y_Model_stale b_Model_stale 2 (some .boolean) ∈ gWS := (gWS_at 1082 (by decide +kernel) (by decide +kernel))
theorem mi_Model_stale : Cond.instanceMethod y_Model_stale ∈ gWS ∧ Cond.initialized R_Model ∈ gWS := ⟨(gWS_at 1081 (by decide +kernel) (by decide +kernel)), (gWS_at 48 (by decide +kernel) (by decide +kernel))⟩
theorem msl_Model_stale : Cond.selects R_Model y_Model_stale y_Model_stale ∈ gWS := (gWS_at 20 (by decide +kernel) (by decide +kernel))
theorem mw_Model_171 : gwV gWS R_Model 171 y_Model_stale b_Model_stale 2 (some .boolean) 1 := gwV_of (gWS_at 1079 (by decide +kernel) (by decide +kernel)) mi_Model_stale.1 msl_Model_stale mi_Model_stale.2 mc_Model_stale (by decide +kernel)
theorem mc_Model_octet : Cond.code y_Model_octet b_Model_octet 3 (some .int) ∈ gWS := (gWS_at 1110 (by decide +kernel) (by decide +kernel))
theorem mi_Model_octet : Cond.instanceMethod y_Model_octet ∈ gWS ∧ Cond.initialized R_Model ∈ gWS := ⟨(gWS_at 1109 (by decide +kernel) (by decide +kernel)), (gWS_at 48 (by decide +kernel) (by decide +kernel))⟩
theorem msl_Model_octet : Cond.selects R_Model y_Model_octet y_Model_octet ∈ gWS := (gWS_at 24 (by decide +kernel) (by decide +kernel))
theorem mw_Model_174 : gwV gWS R_Model 174 y_Model_octet b_Model_octet 3 (some .int) 2 := gwV_of (gWS_at 1107 (by decide +kernel) (by decide +kernel)) mi_Model_octet.1 msl_Model_octet mi_Model_octet.2 mc_Model_octet (by decide +kernel)
theorem mc_Model_sameBytes : Cond.code y_Model_sameBytes b_Model_sameBytes 5 (some .boolean) ∈ gWS := (gWS_at 1106 (by decide +kernel) (by decide +kernel))
theorem mi_Model_sameBytes : Cond.instanceMethod y_Model_sameBytes ∈ gWS ∧ Cond.initialized R_Model ∈ gWS := ⟨(gWS_at 1105 (by decide +kernel) (by decide +kernel)), (gWS_at 48 (by decide +kernel) (by decide +kernel))⟩
theorem msl_Model_sameBytes : Cond.selects R_Model y_Model_sameBytes y_Model_sameBytes ∈ gWS := (gWS_at 23 (by decide +kernel) (by decide +kernel))
theorem mw_Model_177 : gwV gWS R_Model 177 y_Model_sameBytes b_Model_sameBytes 5 (some .boolean) 3 := gwV_of (gWS_at 1103 (by decide +kernel) (by decide +kernel)) mi_Model_sameBytes.1 msl_Model_sameBytes mi_Model_sameBytes.2 mc_Model_sameBytes (by decide +kernel)
theorem mc_Model_fan : Cond.code y_Model_fan b_Model_fan 8 (some .int) ∈ gWS := (gWS_at 1102 (by decide +kernel) (by decide +kernel))
theorem mi_Model_fan : Cond.instanceMethod y_Model_fan ∈ gWS ∧ Cond.initialized R_Model ∈ gWS := ⟨(gWS_at 1101 (by decide +kernel) (by decide +kernel)), (gWS_at 48 (by decide +kernel) (by decide +kernel))⟩
theorem msl_Model_fan : Cond.selects R_Model y_Model_fan y_Model_fan ∈ gWS := (gWS_at 22 (by decide +kernel) (by decide +kernel))
theorem mw_Model_181 : gwV gWS R_Model 181 y_Model_fan b_Model_fan 8 (some .int) 2 := gwV_of (gWS_at 1099 (by decide +kernel) (by decide +kernel)) mi_Model_fan.1 msl_Model_fan mi_Model_fan.2 mc_Model_fan (by decide +kernel)
theorem mc_Model_bit : Cond.code y_Model_bit b_Model_bit 4 (some .int) ∈ gWS := (gWS_at 1118 (by decide +kernel) (by decide +kernel))
theorem mi_Model_bit : Cond.instanceMethod y_Model_bit ∈ gWS ∧ Cond.initialized R_Model ∈ gWS := ⟨(gWS_at 1117 (by decide +kernel) (by decide +kernel)), (gWS_at 48 (by decide +kernel) (by decide +kernel))⟩
theorem msl_Model_bit : Cond.selects R_Model y_Model_bit y_Model_bit ∈ gWS := (gWS_at 26 (by decide +kernel) (by decide +kernel))
theorem mw_Model_184 : gwV gWS R_Model 184 y_Model_bit b_Model_bit 4 (some .int) 2 := gwV_of (gWS_at 1115 (by decide +kernel) (by decide +kernel)) mi_Model_bit.1 msl_Model_bit mi_Model_bit.2 mc_Model_bit (by decide +kernel)
theorem mc_Model_inner : Cond.code y_Model_inner b_Model_inner 7 (some .int) ∈ gWS := (gWS_at 1098 (by decide +kernel) (by decide +kernel))
theorem mi_Model_inner : Cond.instanceMethod y_Model_inner ∈ gWS ∧ Cond.initialized R_Model ∈ gWS := ⟨(gWS_at 1097 (by decide +kernel) (by decide +kernel)), (gWS_at 48 (by decide +kernel) (by decide +kernel))⟩
theorem msl_Model_inner : Cond.selects R_Model y_Model_inner y_Model_inner ∈ gWS := (gWS_at 21 (by decide +kernel) (by decide +kernel))
theorem mw_Model_187 : gwV gWS R_Model 187 y_Model_inner b_Model_inner 7 (some .int) 1 := gwV_of (gWS_at 1095 (by decide +kernel) (by decide +kernel)) mi_Model_inner.1 msl_Model_inner mi_Model_inner.2 mc_Model_inner (by decide +kernel)
theorem mc_Model_depth : Cond.code y_Model_depth b_Model_depth 4 (some .int) ∈ gWS := (gWS_at 1114 (by decide +kernel) (by decide +kernel))
theorem mi_Model_depth : Cond.instanceMethod y_Model_depth ∈ gWS ∧ Cond.initialized R_Model ∈ gWS := ⟨(gWS_at 1113 (by decide +kernel) (by decide +kernel)), (gWS_at 48 (by decide +kernel) (by decide +kernel))⟩
theorem msl_Model_depth : Cond.selects R_Model y_Model_depth y_Model_depth ∈ gWS := (gWS_at 25 (by decide +kernel) (by decide +kernel))
theorem mw_Model_190 : gwV gWS R_Model 190 y_Model_depth b_Model_depth 4 (some .int) 1 := gwV_of (gWS_at 1111 (by decide +kernel) (by decide +kernel)) mi_Model_depth.1 msl_Model_depth mi_Model_depth.2 mc_Model_depth (by decide +kernel)
theorem lk_Model_193 : Cond.fieldLink R_Model 193 "KeyHallModel" "prefixes" "I" ∈ gWS := (gWS_at 867 (by decide +kernel) (by decide +kernel))
theorem lk_Model_196 : Cond.fieldLink R_Model 196 "KeyHallModel" "states" "I" ∈ gWS := (gWS_at 871 (by decide +kernel) (by decide +kernel))
theorem lk_Model_199 : Cond.fieldLink R_Model 199 "KeyHallModel" "steps" "I" ∈ gWS := (gWS_at 872 (by decide +kernel) (by decide +kernel))
theorem lk_Model_202 : Cond.fieldLink R_Model 202 "KeyHallModel" "start" "I" ∈ gWS := (gWS_at 873 (by decide +kernel) (by decide +kernel))
theorem mc_Model_prefixesOf : Cond.code y_Model_prefixesOf b_Model_prefixesOf 6 none ∈ gWS := (gWS_at 1126 (by decide +kernel) (by decide +kernel))
theorem mi_Model_prefixesOf : Cond.instanceMethod y_Model_prefixesOf ∈ gWS ∧ Cond.initialized R_Model ∈ gWS := ⟨(gWS_at 1125 (by decide +kernel) (by decide +kernel)), (gWS_at 48 (by decide +kernel) (by decide +kernel))⟩
theorem msl_Model_prefixesOf : Cond.selects R_Model y_Model_prefixesOf y_Model_prefixesOf ∈ gWS := (gWS_at 27 (by decide +kernel) (by decide +kernel))
theorem mw_Model_205 : gwV gWS R_Model 205 y_Model_prefixesOf b_Model_prefixesOf 6 none 2 := gwV_of (gWS_at 1123 (by decide +kernel) (by decide +kernel)) mi_Model_prefixesOf.1 msl_Model_prefixesOf mi_Model_prefixesOf.2 mc_Model_prefixesOf (by decide +kernel)
theorem mc_Model_state : Cond.code y_Model_state b_Model_state 7 none ∈ gWS := (gWS_at 1134 (by decide +kernel) (by decide +kernel))
theorem mi_Model_state : Cond.instanceMethod y_Model_state ∈ gWS ∧ Cond.initialized R_Model ∈ gWS := ⟨(gWS_at 1133 (by decide +kernel) (by decide +kernel)), (gWS_at 48 (by decide +kernel) (by decide +kernel))⟩
theorem msl_Model_state : Cond.selects R_Model y_Model_state y_Model_state ∈ gWS := (gWS_at 29 (by decide +kernel) (by decide +kernel))
theorem mw_Model_208 : gwV gWS R_Model 208 y_Model_state b_Model_state 7 none 2 := gwV_of (gWS_at 1131 (by decide +kernel) (by decide +kernel)) mi_Model_state.1 msl_Model_state mi_Model_state.2 mc_Model_state (by decide +kernel)
theorem mc_Model_samePrefix : Cond.code y_Model_samePrefix b_Model_samePrefix 4 (some .boolean) ∈ gWS := (gWS_at 1130 (by decide +kernel) (by decide +kernel))
theorem mi_Model_samePrefix : Cond.instanceMethod y_Model_samePrefix ∈ gWS ∧ Cond.initialized R_Model ∈ gWS := ⟨(gWS_at 1129 (by decide +kernel) (by decide +kernel)), (gWS_at 48 (by decide +kernel) (by decide +kernel))⟩
theorem msl_Model_samePrefix : Cond.selects R_Model y_Model_samePrefix y_Model_samePrefix ∈ gWS := (gWS_at 28 (by decide +kernel) (by decide +kernel))
theorem mw_Model_211 : gwV gWS R_Model 211 y_Model_samePrefix b_Model_samePrefix 4 (some .boolean) 3 := gwV_of (gWS_at 1127 (by decide +kernel) (by decide +kernel)) mi_Model_samePrefix.1 msl_Model_samePrefix mi_Model_samePrefix.2 mc_Model_samePrefix (by decide +kernel)
theorem mc_Model_endsAt : Cond.code y_Model_endsAt b_Model_endsAt 5 (some .boolean) ∈ gWS := (gWS_at 1138 (by decide +kernel) (by decide +kernel))
theorem mi_Model_endsAt : Cond.instanceMethod y_Model_endsAt ∈ gWS ∧ Cond.initialized R_Model ∈ gWS := ⟨(gWS_at 1137 (by decide +kernel) (by decide +kernel)), (gWS_at 48 (by decide +kernel) (by decide +kernel))⟩
theorem msl_Model_endsAt : Cond.selects R_Model y_Model_endsAt y_Model_endsAt ∈ gWS := (gWS_at 30 (by decide +kernel) (by decide +kernel))
theorem mw_Model_214 : gwV gWS R_Model 214 y_Model_endsAt b_Model_endsAt 5 (some .boolean) 2 := gwV_of (gWS_at 1135 (by decide +kernel) (by decide +kernel)) mi_Model_endsAt.1 msl_Model_endsAt mi_Model_endsAt.2 mc_Model_endsAt (by decide +kernel)
theorem mc_Model_follows : Cond.code y_Model_follows b_Model_follows 3 (some .boolean) ∈ gWS := (gWS_at 1142 (by decide +kernel) (by decide +kernel))
theorem mi_Model_follows : Cond.instanceMethod y_Model_follows ∈ gWS ∧ Cond.initialized R_Model ∈ gWS := ⟨(gWS_at 1141 (by decide +kernel) (by decide +kernel)), (gWS_at 48 (by decide +kernel) (by decide +kernel))⟩
theorem msl_Model_follows : Cond.selects R_Model y_Model_follows y_Model_follows ∈ gWS := (gWS_at 31 (by decide +kernel) (by decide +kernel))
theorem mw_Model_217 : gwV gWS R_Model 217 y_Model_follows b_Model_follows 3 (some .boolean) 2 := gwV_of (gWS_at 1139 (by decide +kernel) (by decide +kernel)) mi_Model_follows.1 msl_Model_follows mi_Model_follows.2 mc_Model_follows (by decide +kernel)
theorem mc_Model_stepsOf : Cond.code y_Model_stepsOf b_Model_stepsOf 4 (some .int) ∈ gWS := (gWS_at 1146 (by decide +kernel) (by decide +kernel))
theorem mi_Model_stepsOf : Cond.instanceMethod y_Model_stepsOf ∈ gWS ∧ Cond.initialized R_Model ∈ gWS := ⟨(gWS_at 1145 (by decide +kernel) (by decide +kernel)), (gWS_at 48 (by decide +kernel) (by decide +kernel))⟩
theorem msl_Model_stepsOf : Cond.selects R_Model y_Model_stepsOf y_Model_stepsOf ∈ gWS := (gWS_at 32 (by decide +kernel) (by decide +kernel))
theorem mw_Model_220 : gwV gWS R_Model 220 y_Model_stepsOf b_Model_stepsOf 4 (some .int) 1 := gwV_of (gWS_at 1143 (by decide +kernel) (by decide +kernel)) mi_Model_stepsOf.1 msl_Model_stepsOf mi_Model_stepsOf.2 mc_Model_stepsOf (by decide +kernel)
theorem mc_Model_alike : Cond.code y_Model_alike b_Model_alike 4 (some .boolean) ∈ gWS := (gWS_at 1150 (by decide +kernel) (by decide +kernel))
theorem mi_Model_alike : Cond.instanceMethod y_Model_alike ∈ gWS ∧ Cond.initialized R_Model ∈ gWS := ⟨(gWS_at 1149 (by decide +kernel) (by decide +kernel)), (gWS_at 48 (by decide +kernel) (by decide +kernel))⟩
theorem msl_Model_alike : Cond.selects R_Model y_Model_alike y_Model_alike ∈ gWS := (gWS_at 33 (by decide +kernel) (by decide +kernel))
theorem mw_Model_223 : gwV gWS R_Model 223 y_Model_alike b_Model_alike 4 (some .boolean) 2 := gwV_of (gWS_at 1147 (by decide +kernel) (by decide +kernel)) mi_Model_alike.1 msl_Model_alike mi_Model_alike.2 mc_Model_alike (by decide +kernel)
theorem mc_Model_go : Cond.code y_Model_go b_Model_go 4 (some .int) ∈ gWS := (gWS_at 1154 (by decide +kernel) (by decide +kernel))
theorem mi_Model_go : Cond.instanceMethod y_Model_go ∈ gWS ∧ Cond.initialized R_Model ∈ gWS := ⟨(gWS_at 1153 (by decide +kernel) (by decide +kernel)), (gWS_at 48 (by decide +kernel) (by decide +kernel))⟩
theorem msl_Model_go : Cond.selects R_Model y_Model_go y_Model_go ∈ gWS := (gWS_at 34 (by decide +kernel) (by decide +kernel))
theorem mw_Model_226 : gwV gWS R_Model 226 y_Model_go b_Model_go 4 (some .int) 2 := gwV_of (gWS_at 1151 (by decide +kernel) (by decide +kernel)) mi_Model_go.1 msl_Model_go mi_Model_go.2 mc_Model_go (by decide +kernel)
theorem lk_Model_229 : Cond.fieldLink R_Model 229 "KeyHallModel" "edits" "I" ∈ gWS := (gWS_at 882 (by decide +kernel) (by decide +kernel))
theorem lk_Model_232 : Cond.fieldLink R_Model 232 "KeyHallModel" "size" "I" ∈ gWS := (gWS_at 879 (by decide +kernel) (by decide +kernel))
theorem lk_Model_234 : Cond.fieldLink R_Model 234 "KeyHallModel" "kept" "I" ∈ gWS := (gWS_at 883 (by decide +kernel) (by decide +kernel))
theorem mc_Model_keep : Cond.code y_Model_keep b_Model_keep 3 none ∈ gWS := (gWS_at 1166 (by decide +kernel) (by decide +kernel))
theorem mi_Model_keep : Cond.instanceMethod y_Model_keep ∈ gWS ∧ Cond.initialized R_Model ∈ gWS := ⟨(gWS_at 1165 (by decide +kernel) (by decide +kernel)), (gWS_at 48 (by decide +kernel) (by decide +kernel))⟩
theorem msl_Model_keep : Cond.selects R_Model y_Model_keep y_Model_keep ∈ gWS := (gWS_at 35 (by decide +kernel) (by decide +kernel))
theorem mw_Model_237 : gwV gWS R_Model 237 y_Model_keep b_Model_keep 3 none 0 := gwV_of (gWS_at 1163 (by decide +kernel) (by decide +kernel)) mi_Model_keep.1 msl_Model_keep mi_Model_keep.2 mc_Model_keep (by decide +kernel)
theorem mc_Model_begin : Cond.code y_Model_begin b_Model_begin 5 (some .int) ∈ gWS := (gWS_at 1186 (by decide +kernel) (by decide +kernel))
theorem mi_Model_begin : Cond.instanceMethod y_Model_begin ∈ gWS ∧ Cond.initialized R_Model ∈ gWS := ⟨(gWS_at 1185 (by decide +kernel) (by decide +kernel)), (gWS_at 48 (by decide +kernel) (by decide +kernel))⟩
theorem msl_Model_begin : Cond.selects R_Model y_Model_begin y_Model_begin ∈ gWS := (gWS_at 36 (by decide +kernel) (by decide +kernel))
theorem mw_Model_240 : gwV gWS R_Model 240 y_Model_begin b_Model_begin 5 (some .int) 1 := gwV_of (gWS_at 1183 (by decide +kernel) (by decide +kernel)) mi_Model_begin.1 msl_Model_begin mi_Model_begin.2 mc_Model_begin (by decide +kernel)
theorem mc_Hall_view : Cond.code y_Hall_view b_Hall_view 4 (some .int) ∈ gWS := (gWS_at 550 (by decide +kernel) (by decide +kernel))
theorem mi_Hall_view : Cond.instanceMethod y_Hall_view ∈ gWS ∧ Cond.initialized R_Hall ∈ gWS := ⟨(gWS_at 548 (by decide +kernel) (by decide +kernel)), (gWS_at 38 (by decide +kernel) (by decide +kernel))⟩
theorem msl_Hall_view : Cond.selects R_Hall y_Hall_view y_Hall_view ∈ gWS := (gWS_at 549 (by decide +kernel) (by decide +kernel))
theorem mw_Law_7 : gwV gWS R_Law 7 y_Hall_view b_Hall_view 4 (some .int) 2 := gwV_of (gWS_at 547 (by decide +kernel) (by decide +kernel)) mi_Hall_view.1 msl_Hall_view mi_Hall_view.2 mc_Hall_view (by decide +kernel)
theorem mc_Hall_put : Cond.code y_Hall_put b_Hall_put 7 (some .int) ∈ gWS := (gWS_at 563 (by decide +kernel) (by decide +kernel))
theorem mi_Hall_put : Cond.instanceMethod y_Hall_put ∈ gWS ∧ Cond.initialized R_Hall ∈ gWS := ⟨(gWS_at 561 (by decide +kernel) (by decide +kernel)), (gWS_at 38 (by decide +kernel) (by decide +kernel))⟩
theorem msl_Hall_put : Cond.selects R_Hall y_Hall_put y_Hall_put ∈ gWS := (gWS_at 562 (by decide +kernel) (by decide +kernel))
theorem mw_Law_15 : gwV gWS R_Law 15 y_Hall_put b_Hall_put 7 (some .int) 2 := gwV_of (gWS_at 560 (by decide +kernel) (by decide +kernel)) mi_Hall_put.1 msl_Hall_put mi_Hall_put.2 mc_Hall_put (by decide +kernel)
theorem mc_Hall_get : Cond.code y_Hall_get b_Hall_get 4 (some .int) ∈ gWS := (gWS_at 615 (by decide +kernel) (by decide +kernel))
theorem mi_Hall_get : Cond.instanceMethod y_Hall_get ∈ gWS ∧ Cond.initialized R_Hall ∈ gWS := ⟨(gWS_at 613 (by decide +kernel) (by decide +kernel)), (gWS_at 38 (by decide +kernel) (by decide +kernel))⟩
theorem msl_Hall_get : Cond.selects R_Hall y_Hall_get y_Hall_get ∈ gWS := (gWS_at 614 (by decide +kernel) (by decide +kernel))
theorem mw_Law_22 : gwV gWS R_Law 22 y_Hall_get b_Hall_get 4 (some .int) 1 := gwV_of (gWS_at 612 (by decide +kernel) (by decide +kernel)) mi_Hall_get.1 msl_Hall_get mi_Hall_get.2 mc_Hall_get (by decide +kernel)
theorem mc_Hall_remove : Cond.code y_Hall_remove b_Hall_remove 4 (some .int) ∈ gWS := (gWS_at 627 (by decide +kernel) (by decide +kernel))
theorem mi_Hall_remove : Cond.instanceMethod y_Hall_remove ∈ gWS ∧ Cond.initialized R_Hall ∈ gWS := ⟨(gWS_at 625 (by decide +kernel) (by decide +kernel)), (gWS_at 38 (by decide +kernel) (by decide +kernel))⟩
theorem msl_Hall_remove : Cond.selects R_Hall y_Hall_remove y_Hall_remove ∈ gWS := (gWS_at 626 (by decide +kernel) (by decide +kernel))
theorem mw_Law_26 : gwV gWS R_Law 26 y_Hall_remove b_Hall_remove 4 (some .int) 1 := gwV_of (gWS_at 624 (by decide +kernel) (by decide +kernel)) mi_Hall_remove.1 msl_Hall_remove mi_Hall_remove.2 mc_Hall_remove (by decide +kernel)
theorem mc_Hall_find : Cond.code y_Hall_find b_Hall_find 4 (some .int) ∈ gWS := (gWS_at 639 (by decide +kernel) (by decide +kernel))
theorem mi_Hall_find : Cond.instanceMethod y_Hall_find ∈ gWS ∧ Cond.initialized R_Hall ∈ gWS := ⟨(gWS_at 637 (by decide +kernel) (by decide +kernel)), (gWS_at 38 (by decide +kernel) (by decide +kernel))⟩
theorem msl_Hall_find : Cond.selects R_Hall y_Hall_find y_Hall_find ∈ gWS := (gWS_at 638 (by decide +kernel) (by decide +kernel))
theorem mw_Law_29 : gwV gWS R_Law 29 y_Hall_find b_Hall_find 4 (some .int) 2 := gwV_of (gWS_at 636 (by decide +kernel) (by decide +kernel)) mi_Hall_find.1 msl_Hall_find mi_Hall_find.2 mc_Hall_find (by decide +kernel)
theorem mc_Hall_at : Cond.code y_Hall_at b_Hall_at 3 (some .int) ∈ gWS := (gWS_at 683 (by decide +kernel) (by decide +kernel))
theorem mi_Hall_at : Cond.instanceMethod y_Hall_at ∈ gWS ∧ Cond.initialized R_Hall ∈ gWS := ⟨(gWS_at 681 (by decide +kernel) (by decide +kernel)), (gWS_at 38 (by decide +kernel) (by decide +kernel))⟩
theorem msl_Hall_at : Cond.selects R_Hall y_Hall_at y_Hall_at ∈ gWS := (gWS_at 682 (by decide +kernel) (by decide +kernel))
theorem mw_Law_34 : gwV gWS R_Law 34 y_Hall_at b_Hall_at 3 (some .int) 2 := gwV_of (gWS_at 680 (by decide +kernel) (by decide +kernel)) mi_Hall_at.1 msl_Hall_at mi_Hall_at.2 mc_Hall_at (by decide +kernel)
theorem mc_Hall_poll : Cond.code y_Hall_poll b_Hall_poll 5 (some .int) ∈ gWS := (gWS_at 690 (by decide +kernel) (by decide +kernel))
theorem mi_Hall_poll : Cond.instanceMethod y_Hall_poll ∈ gWS ∧ Cond.initialized R_Hall ∈ gWS := ⟨(gWS_at 688 (by decide +kernel) (by decide +kernel)), (gWS_at 38 (by decide +kernel) (by decide +kernel))⟩
theorem msl_Hall_poll : Cond.selects R_Hall y_Hall_poll y_Hall_poll ∈ gWS := (gWS_at 689 (by decide +kernel) (by decide +kernel))
theorem mw_Law_37 : gwV gWS R_Law 37 y_Hall_poll b_Hall_poll 5 (some .int) 2 := gwV_of (gWS_at 687 (by decide +kernel) (by decide +kernel)) mi_Hall_poll.1 msl_Hall_poll mi_Hall_poll.2 mc_Hall_poll (by decide +kernel)
theorem mc_Hall_next : Cond.code y_Hall_next b_Hall_next 4 (some .int) ∈ gWS := (gWS_at 697 (by decide +kernel) (by decide +kernel))
theorem mi_Hall_next : Cond.instanceMethod y_Hall_next ∈ gWS ∧ Cond.initialized R_Hall ∈ gWS := ⟨(gWS_at 695 (by decide +kernel) (by decide +kernel)), (gWS_at 38 (by decide +kernel) (by decide +kernel))⟩
theorem msl_Hall_next : Cond.selects R_Hall y_Hall_next y_Hall_next ∈ gWS := (gWS_at 696 (by decide +kernel) (by decide +kernel))
theorem mw_Law_41 : gwV gWS R_Law 41 y_Hall_next b_Hall_next 4 (some .int) 1 := gwV_of (gWS_at 694 (by decide +kernel) (by decide +kernel)) mi_Hall_next.1 msl_Hall_next mi_Hall_next.2 mc_Hall_next (by decide +kernel)
theorem mc_Hall_drop : Cond.code y_Hall_drop b_Hall_drop 5 (some .int) ∈ gWS := (gWS_at 712 (by decide +kernel) (by decide +kernel))
theorem mi_Hall_drop : Cond.instanceMethod y_Hall_drop ∈ gWS ∧ Cond.initialized R_Hall ∈ gWS := ⟨(gWS_at 710 (by decide +kernel) (by decide +kernel)), (gWS_at 38 (by decide +kernel) (by decide +kernel))⟩
theorem msl_Hall_drop : Cond.selects R_Hall y_Hall_drop y_Hall_drop ∈ gWS := (gWS_at 711 (by decide +kernel) (by decide +kernel))
theorem mw_Law_44 : gwV gWS R_Law 44 y_Hall_drop b_Hall_drop 5 (some .int) 1 := gwV_of (gWS_at 709 (by decide +kernel) (by decide +kernel)) mi_Hall_drop.1 msl_Hall_drop mi_Hall_drop.2 mc_Hall_drop (by decide +kernel)
theorem mc_Hall_match : Cond.code y_Hall_match b_Hall_match 6 (some .int) ∈ gWS := (gWS_at 723 (by decide +kernel) (by decide +kernel))
theorem mi_Hall_match : Cond.instanceMethod y_Hall_match ∈ gWS ∧ Cond.initialized R_Hall ∈ gWS := ⟨(gWS_at 721 (by decide +kernel) (by decide +kernel)), (gWS_at 38 (by decide +kernel) (by decide +kernel))⟩
theorem msl_Hall_match : Cond.selects R_Hall y_Hall_match y_Hall_match ∈ gWS := (gWS_at 722 (by decide +kernel) (by decide +kernel))
theorem mw_Law_47 : gwV gWS R_Law 47 y_Hall_match b_Hall_match 6 (some .int) 2 := gwV_of (gWS_at 720 (by decide +kernel) (by decide +kernel)) mi_Hall_match.1 msl_Hall_match mi_Hall_match.2 mc_Hall_match (by decide +kernel)
theorem mc_Hall_edges : Cond.code y_Hall_edges b_Hall_edges 4 (some .int) ∈ gWS := (gWS_at 734 (by decide +kernel) (by decide +kernel))
theorem mi_Hall_edges : Cond.instanceMethod y_Hall_edges ∈ gWS ∧ Cond.initialized R_Hall ∈ gWS := ⟨(gWS_at 732 (by decide +kernel) (by decide +kernel)), (gWS_at 38 (by decide +kernel) (by decide +kernel))⟩
theorem msl_Hall_edges : Cond.selects R_Hall y_Hall_edges y_Hall_edges ∈ gWS := (gWS_at 733 (by decide +kernel) (by decide +kernel))
theorem mw_Law_50 : gwV gWS R_Law 50 y_Hall_edges b_Hall_edges 4 (some .int) 1 := gwV_of (gWS_at 731 (by decide +kernel) (by decide +kernel)) mi_Hall_edges.1 msl_Hall_edges mi_Hall_edges.2 mc_Hall_edges (by decide +kernel)
theorem mc_Hall_freeze : Cond.code y_Hall_freeze b_Hall_freeze 2 (some .int) ∈ gWS := (gWS_at 770 (by decide +kernel) (by decide +kernel))
theorem mi_Hall_freeze : Cond.instanceMethod y_Hall_freeze ∈ gWS ∧ Cond.initialized R_Hall ∈ gWS := ⟨(gWS_at 768 (by decide +kernel) (by decide +kernel)), (gWS_at 38 (by decide +kernel) (by decide +kernel))⟩
theorem msl_Hall_freeze : Cond.selects R_Hall y_Hall_freeze y_Hall_freeze ∈ gWS := (gWS_at 769 (by decide +kernel) (by decide +kernel))
theorem mw_Law_53 : gwV gWS R_Law 53 y_Hall_freeze b_Hall_freeze 2 (some .int) 1 := gwV_of (gWS_at 767 (by decide +kernel) (by decide +kernel)) mi_Hall_freeze.1 msl_Hall_freeze mi_Hall_freeze.2 mc_Hall_freeze (by decide +kernel)
theorem mc_Hall_insert : Cond.code y_Hall_insert b_Hall_insert 2 (some .int) ∈ gWS := (gWS_at 815 (by decide +kernel) (by decide +kernel))
theorem mi_Hall_insert : Cond.instanceMethod y_Hall_insert ∈ gWS ∧ Cond.initialized R_Hall ∈ gWS := ⟨(gWS_at 813 (by decide +kernel) (by decide +kernel)), (gWS_at 38 (by decide +kernel) (by decide +kernel))⟩
theorem msl_Hall_insert : Cond.selects R_Hall y_Hall_insert y_Hall_insert ∈ gWS := (gWS_at 814 (by decide +kernel) (by decide +kernel))
theorem mw_Law_56 : gwV gWS R_Law 56 y_Hall_insert b_Hall_insert 2 (some .int) 1 := gwV_of (gWS_at 812 (by decide +kernel) (by decide +kernel)) mi_Hall_insert.1 msl_Hall_insert mi_Hall_insert.2 mc_Hall_insert (by decide +kernel)
theorem mc_Hall_delete : Cond.code y_Hall_delete b_Hall_delete 3 (some .int) ∈ gWS := (gWS_at 834 (by decide +kernel) (by decide +kernel))
theorem mi_Hall_delete : Cond.instanceMethod y_Hall_delete ∈ gWS ∧ Cond.initialized R_Hall ∈ gWS := ⟨(gWS_at 832 (by decide +kernel) (by decide +kernel)), (gWS_at 38 (by decide +kernel) (by decide +kernel))⟩
theorem msl_Hall_delete : Cond.selects R_Hall y_Hall_delete y_Hall_delete ∈ gWS := (gWS_at 833 (by decide +kernel) (by decide +kernel))
theorem mw_Law_59 : gwV gWS R_Law 59 y_Hall_delete b_Hall_delete 3 (some .int) 2 := gwV_of (gWS_at 831 (by decide +kernel) (by decide +kernel)) mi_Hall_delete.1 msl_Hall_delete mi_Hall_delete.2 mc_Hall_delete (by decide +kernel)
end
section
/-! printed by wip/tools/names.py: decode rows -/
theorem d_Key_init_0 : decode b_Key_init 0 = .ok (.aload_n 0, 1) := by decide +kernel
theorem d_Key_init_1 : decode b_Key_init 1 = .ok (.invokespecial 3, 3) := by decide +kernel
theorem d_Key_init_4 : decode b_Key_init 4 = .ok (.aload_n 0, 1) := by decide +kernel
theorem d_Key_init_5 : decode b_Key_init 5 = .ok (.bipush 8, 2) := by decide +kernel
theorem d_Key_init_7 : decode b_Key_init 7 = .ok (.newarray .int, 2) := by decide +kernel
theorem d_Key_init_9 : decode b_Key_init 9 = .ok (.putfield 9, 3) := by decide +kernel
theorem d_Key_init_12 : decode b_Key_init 12 = .ok (.return_, 1) := by decide +kernel
theorem d_Key_clear_0 : decode b_Key_clear 0 = .ok (.aload_n 0, 1) := by decide +kernel
theorem d_Key_clear_1 : decode b_Key_clear 1 = .ok (.iconst 0, 1) := by decide +kernel
theorem d_Key_clear_2 : decode b_Key_clear 2 = .ok (.putfield 15, 3) := by decide +kernel
theorem d_Key_clear_5 : decode b_Key_clear 5 = .ok (.return_, 1) := by decide +kernel
theorem d_Key_append_0 : decode b_Key_append 0 = .ok (.aload_n 0, 1) := by decide +kernel
theorem d_Key_append_1 : decode b_Key_append 1 = .ok (.getfield 15, 3) := by decide +kernel
theorem d_Key_append_4 : decode b_Key_append 4 = .ok (.bipush 8, 2) := by decide +kernel
theorem d_Key_append_6 : decode b_Key_append 6 = .ok (.if_icmp .ge 23, 3) := by decide +kernel
theorem d_Key_append_9 : decode b_Key_append 9 = .ok (.aload_n 0, 1) := by decide +kernel
theorem d_Key_append_10 : decode b_Key_append 10 = .ok (.getfield 9, 3) := by decide +kernel
theorem d_Key_append_13 : decode b_Key_append 13 = .ok (.aload_n 0, 1) := by decide +kernel
theorem d_Key_append_14 : decode b_Key_append 14 = .ok (.getfield 15, 3) := by decide +kernel
theorem d_Key_append_17 : decode b_Key_append 17 = .ok (.iload_n 1, 1) := by decide +kernel
theorem d_Key_append_18 : decode b_Key_append 18 = .ok (.iastore, 1) := by decide +kernel
theorem d_Key_append_19 : decode b_Key_append 19 = .ok (.aload_n 0, 1) := by decide +kernel
theorem d_Key_append_20 : decode b_Key_append 20 = .ok (.dup, 1) := by decide +kernel
theorem d_Key_append_21 : decode b_Key_append 21 = .ok (.getfield 15, 3) := by decide +kernel
theorem d_Key_append_24 : decode b_Key_append 24 = .ok (.iconst 1, 1) := by decide +kernel
theorem d_Key_append_25 : decode b_Key_append 25 = .ok (.iadd, 1) := by decide +kernel
theorem d_Key_append_26 : decode b_Key_append 26 = .ok (.putfield 15, 3) := by decide +kernel
theorem d_Key_append_29 : decode b_Key_append 29 = .ok (.return_, 1) := by decide +kernel
theorem d_Key_become_0 : decode b_Key_become 0 = .ok (.aload_n 1, 1) := by decide +kernel
theorem d_Key_become_1 : decode b_Key_become 1 = .ok (.getfield 9, 3) := by decide +kernel
theorem d_Key_become_4 : decode b_Key_become 4 = .ok (.iconst 0, 1) := by decide +kernel
theorem d_Key_become_5 : decode b_Key_become 5 = .ok (.aload_n 0, 1) := by decide +kernel
theorem d_Key_become_6 : decode b_Key_become 6 = .ok (.getfield 9, 3) := by decide +kernel
theorem d_Key_become_9 : decode b_Key_become 9 = .ok (.iconst 0, 1) := by decide +kernel
theorem d_Key_become_10 : decode b_Key_become 10 = .ok (.aload_n 1, 1) := by decide +kernel
theorem d_Key_become_11 : decode b_Key_become 11 = .ok (.getfield 15, 3) := by decide +kernel
theorem d_Key_become_14 : decode b_Key_become 14 = .ok (.invokestatic 19, 3) := by decide +kernel
theorem d_Key_become_17 : decode b_Key_become 17 = .ok (.aload_n 0, 1) := by decide +kernel
theorem d_Key_become_18 : decode b_Key_become 18 = .ok (.aload_n 1, 1) := by decide +kernel
theorem d_Key_become_19 : decode b_Key_become 19 = .ok (.getfield 15, 3) := by decide +kernel
theorem d_Key_become_22 : decode b_Key_become 22 = .ok (.putfield 15, 3) := by decide +kernel
theorem d_Key_become_25 : decode b_Key_become 25 = .ok (.return_, 1) := by decide +kernel
theorem d_Key_shared_0 : decode b_Key_shared 0 = .ok (.iconst 0, 1) := by decide +kernel
theorem d_Key_shared_1 : decode b_Key_shared 1 = .ok (.istore_n 2, 1) := by decide +kernel
theorem d_Key_shared_2 : decode b_Key_shared 2 = .ok (.iload_n 2, 1) := by decide +kernel
theorem d_Key_shared_3 : decode b_Key_shared 3 = .ok (.aload_n 0, 1) := by decide +kernel
theorem d_Key_shared_4 : decode b_Key_shared 4 = .ok (.getfield 15, 3) := by decide +kernel
theorem d_Key_shared_7 : decode b_Key_shared 7 = .ok (.if_icmp .ge 32, 3) := by decide +kernel
theorem d_Key_shared_10 : decode b_Key_shared 10 = .ok (.iload_n 2, 1) := by decide +kernel
theorem d_Key_shared_11 : decode b_Key_shared 11 = .ok (.aload_n 1, 1) := by decide +kernel
theorem d_Key_shared_12 : decode b_Key_shared 12 = .ok (.getfield 15, 3) := by decide +kernel
theorem d_Key_shared_15 : decode b_Key_shared 15 = .ok (.if_icmp .ge 24, 3) := by decide +kernel
theorem d_Key_shared_18 : decode b_Key_shared 18 = .ok (.aload_n 0, 1) := by decide +kernel
theorem d_Key_shared_19 : decode b_Key_shared 19 = .ok (.getfield 9, 3) := by decide +kernel
theorem d_Key_shared_22 : decode b_Key_shared 22 = .ok (.iload_n 2, 1) := by decide +kernel
theorem d_Key_shared_23 : decode b_Key_shared 23 = .ok (.iaload, 1) := by decide +kernel
theorem d_Key_shared_24 : decode b_Key_shared 24 = .ok (.aload_n 1, 1) := by decide +kernel
theorem d_Key_shared_25 : decode b_Key_shared 25 = .ok (.getfield 9, 3) := by decide +kernel
theorem d_Key_shared_28 : decode b_Key_shared 28 = .ok (.iload_n 2, 1) := by decide +kernel
theorem d_Key_shared_29 : decode b_Key_shared 29 = .ok (.iaload, 1) := by decide +kernel
theorem d_Key_shared_30 : decode b_Key_shared 30 = .ok (.if_icmp .ne 9, 3) := by decide +kernel
theorem d_Key_shared_33 : decode b_Key_shared 33 = .ok (.iinc 2 1, 3) := by decide +kernel
theorem d_Key_shared_36 : decode b_Key_shared 36 = .ok (.goto (-34), 3) := by decide +kernel
theorem d_Key_shared_39 : decode b_Key_shared 39 = .ok (.iload_n 2, 1) := by decide +kernel
theorem d_Key_shared_40 : decode b_Key_shared 40 = .ok (.ireturn, 1) := by decide +kernel
theorem d_Key_order_0 : decode b_Key_order 0 = .ok (.aload_n 0, 1) := by decide +kernel
theorem d_Key_order_1 : decode b_Key_order 1 = .ok (.aload_n 1, 1) := by decide +kernel
theorem d_Key_order_2 : decode b_Key_order 2 = .ok (.invokevirtual 25, 3) := by decide +kernel
theorem d_Key_order_5 : decode b_Key_order 5 = .ok (.istore_n 2, 1) := by decide +kernel
theorem d_Key_order_6 : decode b_Key_order 6 = .ok (.iload_n 2, 1) := by decide +kernel
theorem d_Key_order_7 : decode b_Key_order 7 = .ok (.aload_n 0, 1) := by decide +kernel
theorem d_Key_order_8 : decode b_Key_order 8 = .ok (.getfield 15, 3) := by decide +kernel
theorem d_Key_order_11 : decode b_Key_order 11 = .ok (.if_icmp .eq 11, 3) := by decide +kernel
theorem d_Key_order_14 : decode b_Key_order 14 = .ok (.iload_n 2, 1) := by decide +kernel
theorem d_Key_order_15 : decode b_Key_order 15 = .ok (.aload_n 1, 1) := by decide +kernel
theorem d_Key_order_16 : decode b_Key_order 16 = .ok (.getfield 15, 3) := by decide +kernel
theorem d_Key_order_19 : decode b_Key_order 19 = .ok (.if_icmp .ne 13, 3) := by decide +kernel
theorem d_Key_order_22 : decode b_Key_order 22 = .ok (.aload_n 0, 1) := by decide +kernel
theorem d_Key_order_23 : decode b_Key_order 23 = .ok (.getfield 15, 3) := by decide +kernel
theorem d_Key_order_26 : decode b_Key_order 26 = .ok (.aload_n 1, 1) := by decide +kernel
theorem d_Key_order_27 : decode b_Key_order 27 = .ok (.getfield 15, 3) := by decide +kernel
theorem d_Key_order_30 : decode b_Key_order 30 = .ok (.isub, 1) := by decide +kernel
theorem d_Key_order_31 : decode b_Key_order 31 = .ok (.ireturn, 1) := by decide +kernel
theorem d_Key_order_32 : decode b_Key_order 32 = .ok (.aload_n 0, 1) := by decide +kernel
theorem d_Key_order_33 : decode b_Key_order 33 = .ok (.getfield 9, 3) := by decide +kernel
theorem d_Key_order_36 : decode b_Key_order 36 = .ok (.iload_n 2, 1) := by decide +kernel
theorem d_Key_order_37 : decode b_Key_order 37 = .ok (.iaload, 1) := by decide +kernel
theorem d_Key_order_38 : decode b_Key_order 38 = .ok (.aload_n 1, 1) := by decide +kernel
theorem d_Key_order_39 : decode b_Key_order 39 = .ok (.getfield 9, 3) := by decide +kernel
theorem d_Key_order_42 : decode b_Key_order 42 = .ok (.iload_n 2, 1) := by decide +kernel
theorem d_Key_order_43 : decode b_Key_order 43 = .ok (.iaload, 1) := by decide +kernel
theorem d_Key_order_44 : decode b_Key_order 44 = .ok (.isub, 1) := by decide +kernel
theorem d_Key_order_45 : decode b_Key_order 45 = .ok (.ireturn, 1) := by decide +kernel
theorem d_Key_beginsWith_0 : decode b_Key_beginsWith 0 = .ok (.aload_n 0, 1) := by decide +kernel
theorem d_Key_beginsWith_1 : decode b_Key_beginsWith 1 = .ok (.aload_n 1, 1) := by decide +kernel
theorem d_Key_beginsWith_2 : decode b_Key_beginsWith 2 = .ok (.invokevirtual 25, 3) := by decide +kernel
theorem d_Key_beginsWith_5 : decode b_Key_beginsWith 5 = .ok (.aload_n 1, 1) := by decide +kernel
theorem d_Key_beginsWith_6 : decode b_Key_beginsWith 6 = .ok (.getfield 15, 3) := by decide +kernel
theorem d_Key_beginsWith_9 : decode b_Key_beginsWith 9 = .ok (.if_icmp .ne 7, 3) := by decide +kernel
theorem d_Key_beginsWith_12 : decode b_Key_beginsWith 12 = .ok (.iconst 1, 1) := by decide +kernel
theorem d_Key_beginsWith_13 : decode b_Key_beginsWith 13 = .ok (.goto 4, 3) := by decide +kernel
theorem d_Key_beginsWith_16 : decode b_Key_beginsWith 16 = .ok (.iconst 0, 1) := by decide +kernel
theorem d_Key_beginsWith_17 : decode b_Key_beginsWith 17 = .ok (.ireturn, 1) := by decide +kernel
theorem d_Key_hasTail_0 : decode b_Key_hasTail 0 = .ok (.aload_n 0, 1) := by decide +kernel
theorem d_Key_hasTail_1 : decode b_Key_hasTail 1 = .ok (.getfield 15, 3) := by decide +kernel
theorem d_Key_hasTail_4 : decode b_Key_hasTail 4 = .ok (.iload_n 1, 1) := by decide +kernel
theorem d_Key_hasTail_5 : decode b_Key_hasTail 5 = .ok (.isub, 1) := by decide +kernel
theorem d_Key_hasTail_6 : decode b_Key_hasTail 6 = .ok (.aload_n 2, 1) := by decide +kernel
theorem d_Key_hasTail_7 : decode b_Key_hasTail 7 = .ok (.getfield 15, 3) := by decide +kernel
theorem d_Key_hasTail_10 : decode b_Key_hasTail 10 = .ok (.iload_n 3, 1) := by decide +kernel
theorem d_Key_hasTail_11 : decode b_Key_hasTail 11 = .ok (.isub, 1) := by decide +kernel
theorem d_Key_hasTail_12 : decode b_Key_hasTail 12 = .ok (.if_icmp .eq 5, 3) := by decide +kernel
theorem d_Key_hasTail_15 : decode b_Key_hasTail 15 = .ok (.iconst 0, 1) := by decide +kernel
theorem d_Key_hasTail_16 : decode b_Key_hasTail 16 = .ok (.ireturn, 1) := by decide +kernel
theorem d_Key_hasTail_17 : decode b_Key_hasTail 17 = .ok (.iload_n 1, 1) := by decide +kernel
theorem d_Key_hasTail_18 : decode b_Key_hasTail 18 = .ok (.istore 4, 2) := by decide +kernel
theorem d_Key_hasTail_20 : decode b_Key_hasTail 20 = .ok (.iload 4, 2) := by decide +kernel
theorem d_Key_hasTail_22 : decode b_Key_hasTail 22 = .ok (.aload_n 0, 1) := by decide +kernel
theorem d_Key_hasTail_23 : decode b_Key_hasTail 23 = .ok (.getfield 15, 3) := by decide +kernel
theorem d_Key_hasTail_26 : decode b_Key_hasTail 26 = .ok (.if_icmp .ge 32, 3) := by decide +kernel
theorem d_Key_hasTail_29 : decode b_Key_hasTail 29 = .ok (.aload_n 0, 1) := by decide +kernel
theorem d_Key_hasTail_30 : decode b_Key_hasTail 30 = .ok (.getfield 9, 3) := by decide +kernel
theorem d_Key_hasTail_33 : decode b_Key_hasTail 33 = .ok (.iload 4, 2) := by decide +kernel
theorem d_Key_hasTail_35 : decode b_Key_hasTail 35 = .ok (.iaload, 1) := by decide +kernel
theorem d_Key_hasTail_36 : decode b_Key_hasTail 36 = .ok (.aload_n 2, 1) := by decide +kernel
theorem d_Key_hasTail_37 : decode b_Key_hasTail 37 = .ok (.getfield 9, 3) := by decide +kernel
theorem d_Key_hasTail_40 : decode b_Key_hasTail 40 = .ok (.iload 4, 2) := by decide +kernel
theorem d_Key_hasTail_42 : decode b_Key_hasTail 42 = .ok (.iload_n 1, 1) := by decide +kernel
theorem d_Key_hasTail_43 : decode b_Key_hasTail 43 = .ok (.isub, 1) := by decide +kernel
theorem d_Key_hasTail_44 : decode b_Key_hasTail 44 = .ok (.iload_n 3, 1) := by decide +kernel
theorem d_Key_hasTail_45 : decode b_Key_hasTail 45 = .ok (.iadd, 1) := by decide +kernel
theorem d_Key_hasTail_46 : decode b_Key_hasTail 46 = .ok (.iaload, 1) := by decide +kernel
theorem d_Key_hasTail_47 : decode b_Key_hasTail 47 = .ok (.if_icmp .eq 5, 3) := by decide +kernel
theorem d_Key_hasTail_50 : decode b_Key_hasTail 50 = .ok (.iconst 0, 1) := by decide +kernel
theorem d_Key_hasTail_51 : decode b_Key_hasTail 51 = .ok (.ireturn, 1) := by decide +kernel
theorem d_Key_hasTail_52 : decode b_Key_hasTail 52 = .ok (.iinc 4 1, 3) := by decide +kernel
theorem d_Key_hasTail_55 : decode b_Key_hasTail 55 = .ok (.goto (-35), 3) := by decide +kernel
theorem d_Key_hasTail_58 : decode b_Key_hasTail 58 = .ok (.iconst 1, 1) := by decide +kernel
theorem d_Key_hasTail_59 : decode b_Key_hasTail 59 = .ok (.ireturn, 1) := by decide +kernel
theorem d_Key_matches_0 : decode b_Key_matches 0 = .ok (.aload_n 1, 1) := by decide +kernel
theorem d_Key_matches_1 : decode b_Key_matches 1 = .ok (.getfield 15, 3) := by decide +kernel
theorem d_Key_matches_4 : decode b_Key_matches 4 = .ok (.aload_n 0, 1) := by decide +kernel
theorem d_Key_matches_5 : decode b_Key_matches 5 = .ok (.getfield 15, 3) := by decide +kernel
theorem d_Key_matches_8 : decode b_Key_matches 8 = .ok (.if_icmp .eq 5, 3) := by decide +kernel
theorem d_Key_matches_11 : decode b_Key_matches 11 = .ok (.iconst 0, 1) := by decide +kernel
theorem d_Key_matches_12 : decode b_Key_matches 12 = .ok (.ireturn, 1) := by decide +kernel
theorem d_Key_matches_13 : decode b_Key_matches 13 = .ok (.iconst 0, 1) := by decide +kernel
theorem d_Key_matches_14 : decode b_Key_matches 14 = .ok (.istore_n 3, 1) := by decide +kernel
theorem d_Key_matches_15 : decode b_Key_matches 15 = .ok (.iconst 0, 1) := by decide +kernel
theorem d_Key_matches_16 : decode b_Key_matches 16 = .ok (.istore 4, 2) := by decide +kernel
theorem d_Key_matches_18 : decode b_Key_matches 18 = .ok (.iload 4, 2) := by decide +kernel
theorem d_Key_matches_20 : decode b_Key_matches 20 = .ok (.aload_n 0, 1) := by decide +kernel
theorem d_Key_matches_21 : decode b_Key_matches 21 = .ok (.getfield 15, 3) := by decide +kernel
theorem d_Key_matches_24 : decode b_Key_matches 24 = .ok (.if_icmp .ge 41, 3) := by decide +kernel
theorem d_Key_matches_27 : decode b_Key_matches 27 = .ok (.aload_n 0, 1) := by decide +kernel
theorem d_Key_matches_28 : decode b_Key_matches 28 = .ok (.getfield 9, 3) := by decide +kernel
theorem d_Key_matches_31 : decode b_Key_matches 31 = .ok (.iload 4, 2) := by decide +kernel
theorem d_Key_matches_33 : decode b_Key_matches 33 = .ok (.iaload, 1) := by decide +kernel
theorem d_Key_matches_34 : decode b_Key_matches 34 = .ok (.bipush 63, 2) := by decide +kernel
theorem d_Key_matches_36 : decode b_Key_matches 36 = .ok (.if_icmp .eq 23, 3) := by decide +kernel
theorem d_Key_matches_39 : decode b_Key_matches 39 = .ok (.aload_n 0, 1) := by decide +kernel
theorem d_Key_matches_40 : decode b_Key_matches 40 = .ok (.getfield 9, 3) := by decide +kernel
theorem d_Key_matches_43 : decode b_Key_matches 43 = .ok (.iload 4, 2) := by decide +kernel
theorem d_Key_matches_45 : decode b_Key_matches 45 = .ok (.iaload, 1) := by decide +kernel
theorem d_Key_matches_46 : decode b_Key_matches 46 = .ok (.aload_n 1, 1) := by decide +kernel
theorem d_Key_matches_47 : decode b_Key_matches 47 = .ok (.getfield 9, 3) := by decide +kernel
theorem d_Key_matches_50 : decode b_Key_matches 50 = .ok (.iload 4, 2) := by decide +kernel
theorem d_Key_matches_52 : decode b_Key_matches 52 = .ok (.iaload, 1) := by decide +kernel
theorem d_Key_matches_53 : decode b_Key_matches 53 = .ok (.if_icmp .eq 6, 3) := by decide +kernel
theorem d_Key_matches_56 : decode b_Key_matches 56 = .ok (.iinc 3 1, 3) := by decide +kernel
theorem d_Key_matches_59 : decode b_Key_matches 59 = .ok (.iinc 4 1, 3) := by decide +kernel
theorem d_Key_matches_62 : decode b_Key_matches 62 = .ok (.goto (-44), 3) := by decide +kernel
theorem d_Key_matches_65 : decode b_Key_matches 65 = .ok (.iload_n 3, 1) := by decide +kernel
theorem d_Key_matches_66 : decode b_Key_matches 66 = .ok (.iload_n 2, 1) := by decide +kernel
theorem d_Key_matches_67 : decode b_Key_matches 67 = .ok (.if_icmp .gt 7, 3) := by decide +kernel
theorem d_Key_matches_70 : decode b_Key_matches 70 = .ok (.iconst 1, 1) := by decide +kernel
theorem d_Key_matches_71 : decode b_Key_matches 71 = .ok (.goto 4, 3) := by decide +kernel
theorem d_Key_matches_74 : decode b_Key_matches 74 = .ok (.iconst 0, 1) := by decide +kernel
theorem d_Key_matches_75 : decode b_Key_matches 75 = .ok (.ireturn, 1) := by decide +kernel
theorem d_KeyMap_init_0 : decode b_KeyMap_init 0 = .ok (.aload_n 0, 1) := by decide +kernel
theorem d_KeyMap_init_1 : decode b_KeyMap_init 1 = .ok (.invokespecial 3, 3) := by decide +kernel
theorem d_KeyMap_init_4 : decode b_KeyMap_init 4 = .ok (.aload_n 0, 1) := by decide +kernel
theorem d_KeyMap_init_5 : decode b_KeyMap_init 5 = .ok (.bipush 64, 2) := by decide +kernel
theorem d_KeyMap_init_7 : decode b_KeyMap_init 7 = .ok (.anewarray 9, 3) := by decide +kernel
theorem d_KeyMap_init_10 : decode b_KeyMap_init 10 = .ok (.putfield 11, 3) := by decide +kernel
theorem d_KeyMap_init_13 : decode b_KeyMap_init 13 = .ok (.iconst 0, 1) := by decide +kernel
theorem d_KeyMap_init_14 : decode b_KeyMap_init 14 = .ok (.istore_n 1, 1) := by decide +kernel
theorem d_KeyMap_init_15 : decode b_KeyMap_init 15 = .ok (.iload_n 1, 1) := by decide +kernel
theorem d_KeyMap_init_16 : decode b_KeyMap_init 16 = .ok (.bipush 64, 2) := by decide +kernel
theorem d_KeyMap_init_18 : decode b_KeyMap_init 18 = .ok (.if_icmp .ge 22, 3) := by decide +kernel
theorem d_KeyMap_init_21 : decode b_KeyMap_init 21 = .ok (.aload_n 0, 1) := by decide +kernel
theorem d_KeyMap_init_22 : decode b_KeyMap_init 22 = .ok (.getfield 11, 3) := by decide +kernel
theorem d_KeyMap_init_25 : decode b_KeyMap_init 25 = .ok (.iload_n 1, 1) := by decide +kernel
theorem d_KeyMap_init_26 : decode b_KeyMap_init 26 = .ok (.new 9, 3) := by decide +kernel
theorem d_KeyMap_init_29 : decode b_KeyMap_init 29 = .ok (.dup, 1) := by decide +kernel
theorem d_KeyMap_init_30 : decode b_KeyMap_init 30 = .ok (.invokespecial 17, 3) := by decide +kernel
theorem d_KeyMap_init_33 : decode b_KeyMap_init 33 = .ok (.aastore, 1) := by decide +kernel
theorem d_KeyMap_init_34 : decode b_KeyMap_init 34 = .ok (.iinc 1 1, 3) := by decide +kernel
theorem d_KeyMap_init_37 : decode b_KeyMap_init 37 = .ok (.goto (-22), 3) := by decide +kernel
theorem d_KeyMap_init_40 : decode b_KeyMap_init 40 = .ok (.aload_n 0, 1) := by decide +kernel
theorem d_KeyMap_init_41 : decode b_KeyMap_init 41 = .ok (.bipush 64, 2) := by decide +kernel
theorem d_KeyMap_init_43 : decode b_KeyMap_init 43 = .ok (.newarray .int, 2) := by decide +kernel
theorem d_KeyMap_init_45 : decode b_KeyMap_init 45 = .ok (.putfield 18, 3) := by decide +kernel
theorem d_KeyMap_init_48 : decode b_KeyMap_init 48 = .ok (.return_, 1) := by decide +kernel
theorem d_KeyMap_countLess_0 : decode b_KeyMap_countLess 0 = .ok (.iconst 0, 1) := by decide +kernel
theorem d_KeyMap_countLess_1 : decode b_KeyMap_countLess 1 = .ok (.istore_n 2, 1) := by decide +kernel
theorem d_KeyMap_countLess_2 : decode b_KeyMap_countLess 2 = .ok (.iload_n 2, 1) := by decide +kernel
theorem d_KeyMap_countLess_3 : decode b_KeyMap_countLess 3 = .ok (.aload_n 0, 1) := by decide +kernel
theorem d_KeyMap_countLess_4 : decode b_KeyMap_countLess 4 = .ok (.getfield 22, 3) := by decide +kernel
theorem d_KeyMap_countLess_7 : decode b_KeyMap_countLess 7 = .ok (.if_icmp .ge 22, 3) := by decide +kernel
theorem d_KeyMap_countLess_10 : decode b_KeyMap_countLess 10 = .ok (.aload_n 0, 1) := by decide +kernel
theorem d_KeyMap_countLess_11 : decode b_KeyMap_countLess 11 = .ok (.getfield 11, 3) := by decide +kernel
theorem d_KeyMap_countLess_14 : decode b_KeyMap_countLess 14 = .ok (.iload_n 2, 1) := by decide +kernel
theorem d_KeyMap_countLess_15 : decode b_KeyMap_countLess 15 = .ok (.aaload, 1) := by decide +kernel
theorem d_KeyMap_countLess_16 : decode b_KeyMap_countLess 16 = .ok (.aload_n 1, 1) := by decide +kernel
theorem d_KeyMap_countLess_17 : decode b_KeyMap_countLess 17 = .ok (.invokevirtual 26, 3) := by decide +kernel
theorem d_KeyMap_countLess_20 : decode b_KeyMap_countLess 20 = .ok (.ifCond .ge 9, 3) := by decide +kernel
theorem d_KeyMap_countLess_23 : decode b_KeyMap_countLess 23 = .ok (.iinc 2 1, 3) := by decide +kernel
theorem d_KeyMap_countLess_26 : decode b_KeyMap_countLess 26 = .ok (.goto (-24), 3) := by decide +kernel
theorem d_KeyMap_countLess_29 : decode b_KeyMap_countLess 29 = .ok (.iload_n 2, 1) := by decide +kernel
theorem d_KeyMap_countLess_30 : decode b_KeyMap_countLess 30 = .ok (.ireturn, 1) := by decide +kernel
theorem d_KeyMap_placeOf_0 : decode b_KeyMap_placeOf 0 = .ok (.aload_n 0, 1) := by decide +kernel
theorem d_KeyMap_placeOf_1 : decode b_KeyMap_placeOf 1 = .ok (.aload_n 1, 1) := by decide +kernel
theorem d_KeyMap_placeOf_2 : decode b_KeyMap_placeOf 2 = .ok (.invokevirtual 30, 3) := by decide +kernel
theorem d_KeyMap_placeOf_5 : decode b_KeyMap_placeOf 5 = .ok (.istore_n 2, 1) := by decide +kernel
theorem d_KeyMap_placeOf_6 : decode b_KeyMap_placeOf 6 = .ok (.iload_n 2, 1) := by decide +kernel
theorem d_KeyMap_placeOf_7 : decode b_KeyMap_placeOf 7 = .ok (.aload_n 0, 1) := by decide +kernel
theorem d_KeyMap_placeOf_8 : decode b_KeyMap_placeOf 8 = .ok (.getfield 22, 3) := by decide +kernel
theorem d_KeyMap_placeOf_11 : decode b_KeyMap_placeOf 11 = .ok (.if_icmp .ge 20, 3) := by decide +kernel
theorem d_KeyMap_placeOf_14 : decode b_KeyMap_placeOf 14 = .ok (.aload_n 0, 1) := by decide +kernel
theorem d_KeyMap_placeOf_15 : decode b_KeyMap_placeOf 15 = .ok (.getfield 11, 3) := by decide +kernel
theorem d_KeyMap_placeOf_18 : decode b_KeyMap_placeOf 18 = .ok (.iload_n 2, 1) := by decide +kernel
theorem d_KeyMap_placeOf_19 : decode b_KeyMap_placeOf 19 = .ok (.aaload, 1) := by decide +kernel
theorem d_KeyMap_placeOf_20 : decode b_KeyMap_placeOf 20 = .ok (.aload_n 1, 1) := by decide +kernel
theorem d_KeyMap_placeOf_21 : decode b_KeyMap_placeOf 21 = .ok (.invokevirtual 26, 3) := by decide +kernel
theorem d_KeyMap_placeOf_24 : decode b_KeyMap_placeOf 24 = .ok (.ifCond .ne 7, 3) := by decide +kernel
theorem d_KeyMap_placeOf_27 : decode b_KeyMap_placeOf 27 = .ok (.iload_n 2, 1) := by decide +kernel
theorem d_KeyMap_placeOf_28 : decode b_KeyMap_placeOf 28 = .ok (.goto 4, 3) := by decide +kernel
theorem d_KeyMap_placeOf_31 : decode b_KeyMap_placeOf 31 = .ok (.iconst (-1), 1) := by decide +kernel
theorem d_KeyMap_placeOf_32 : decode b_KeyMap_placeOf 32 = .ok (.ireturn, 1) := by decide +kernel
theorem d_KeyMap_add_0 : decode b_KeyMap_add 0 = .ok (.aload_n 0, 1) := by decide +kernel
theorem d_KeyMap_add_1 : decode b_KeyMap_add 1 = .ok (.aload_n 1, 1) := by decide +kernel
theorem d_KeyMap_add_2 : decode b_KeyMap_add 2 = .ok (.invokevirtual 30, 3) := by decide +kernel
theorem d_KeyMap_add_5 : decode b_KeyMap_add 5 = .ok (.istore_n 3, 1) := by decide +kernel
theorem d_KeyMap_add_6 : decode b_KeyMap_add 6 = .ok (.aload_n 0, 1) := by decide +kernel
theorem d_KeyMap_add_7 : decode b_KeyMap_add 7 = .ok (.getfield 11, 3) := by decide +kernel
theorem d_KeyMap_add_10 : decode b_KeyMap_add 10 = .ok (.aload_n 0, 1) := by decide +kernel
theorem d_KeyMap_add_11 : decode b_KeyMap_add 11 = .ok (.getfield 22, 3) := by decide +kernel
theorem d_KeyMap_add_14 : decode b_KeyMap_add 14 = .ok (.aaload, 1) := by decide +kernel
theorem d_KeyMap_add_15 : decode b_KeyMap_add 15 = .ok (.astore 4, 2) := by decide +kernel
theorem d_KeyMap_add_17 : decode b_KeyMap_add 17 = .ok (.aload_n 0, 1) := by decide +kernel
theorem d_KeyMap_add_18 : decode b_KeyMap_add 18 = .ok (.getfield 22, 3) := by decide +kernel
theorem d_KeyMap_add_21 : decode b_KeyMap_add 21 = .ok (.istore 5, 2) := by decide +kernel
theorem d_KeyMap_add_23 : decode b_KeyMap_add 23 = .ok (.iload 5, 2) := by decide +kernel
theorem d_KeyMap_add_25 : decode b_KeyMap_add 25 = .ok (.iload_n 3, 1) := by decide +kernel
theorem d_KeyMap_add_26 : decode b_KeyMap_add 26 = .ok (.if_icmp .le 41, 3) := by decide +kernel
theorem d_KeyMap_add_29 : decode b_KeyMap_add 29 = .ok (.aload_n 0, 1) := by decide +kernel
theorem d_KeyMap_add_30 : decode b_KeyMap_add 30 = .ok (.getfield 11, 3) := by decide +kernel
theorem d_KeyMap_add_33 : decode b_KeyMap_add 33 = .ok (.iload 5, 2) := by decide +kernel
theorem d_KeyMap_add_35 : decode b_KeyMap_add 35 = .ok (.aload_n 0, 1) := by decide +kernel
theorem d_KeyMap_add_36 : decode b_KeyMap_add 36 = .ok (.getfield 11, 3) := by decide +kernel
theorem d_KeyMap_add_39 : decode b_KeyMap_add 39 = .ok (.iload 5, 2) := by decide +kernel
theorem d_KeyMap_add_41 : decode b_KeyMap_add 41 = .ok (.iconst 1, 1) := by decide +kernel
theorem d_KeyMap_add_42 : decode b_KeyMap_add 42 = .ok (.isub, 1) := by decide +kernel
theorem d_KeyMap_add_43 : decode b_KeyMap_add 43 = .ok (.aaload, 1) := by decide +kernel
theorem d_KeyMap_add_44 : decode b_KeyMap_add 44 = .ok (.aastore, 1) := by decide +kernel
theorem d_KeyMap_add_45 : decode b_KeyMap_add 45 = .ok (.aload_n 0, 1) := by decide +kernel
theorem d_KeyMap_add_46 : decode b_KeyMap_add 46 = .ok (.getfield 18, 3) := by decide +kernel
theorem d_KeyMap_add_49 : decode b_KeyMap_add 49 = .ok (.iload 5, 2) := by decide +kernel
theorem d_KeyMap_add_51 : decode b_KeyMap_add 51 = .ok (.aload_n 0, 1) := by decide +kernel
theorem d_KeyMap_add_52 : decode b_KeyMap_add 52 = .ok (.getfield 18, 3) := by decide +kernel
theorem d_KeyMap_add_55 : decode b_KeyMap_add 55 = .ok (.iload 5, 2) := by decide +kernel
theorem d_KeyMap_add_57 : decode b_KeyMap_add 57 = .ok (.iconst 1, 1) := by decide +kernel
theorem d_KeyMap_add_58 : decode b_KeyMap_add 58 = .ok (.isub, 1) := by decide +kernel
theorem d_KeyMap_add_59 : decode b_KeyMap_add 59 = .ok (.iaload, 1) := by decide +kernel
theorem d_KeyMap_add_60 : decode b_KeyMap_add 60 = .ok (.iastore, 1) := by decide +kernel
theorem d_KeyMap_add_61 : decode b_KeyMap_add 61 = .ok (.iinc 5 (-1), 3) := by decide +kernel
theorem d_KeyMap_add_64 : decode b_KeyMap_add 64 = .ok (.goto (-41), 3) := by decide +kernel
theorem d_KeyMap_add_67 : decode b_KeyMap_add 67 = .ok (.aload 4, 2) := by decide +kernel
theorem d_KeyMap_add_69 : decode b_KeyMap_add 69 = .ok (.aload_n 1, 1) := by decide +kernel
theorem d_KeyMap_add_70 : decode b_KeyMap_add 70 = .ok (.invokevirtual 33, 3) := by decide +kernel
theorem d_KeyMap_add_73 : decode b_KeyMap_add 73 = .ok (.aload_n 0, 1) := by decide +kernel
theorem d_KeyMap_add_74 : decode b_KeyMap_add 74 = .ok (.getfield 11, 3) := by decide +kernel
theorem d_KeyMap_add_77 : decode b_KeyMap_add 77 = .ok (.iload_n 3, 1) := by decide +kernel
theorem d_KeyMap_add_78 : decode b_KeyMap_add 78 = .ok (.aload 4, 2) := by decide +kernel
theorem d_KeyMap_add_80 : decode b_KeyMap_add 80 = .ok (.aastore, 1) := by decide +kernel
theorem d_KeyMap_add_81 : decode b_KeyMap_add 81 = .ok (.aload_n 0, 1) := by decide +kernel
theorem d_KeyMap_add_82 : decode b_KeyMap_add 82 = .ok (.getfield 18, 3) := by decide +kernel
theorem d_KeyMap_add_85 : decode b_KeyMap_add 85 = .ok (.iload_n 3, 1) := by decide +kernel
theorem d_KeyMap_add_86 : decode b_KeyMap_add 86 = .ok (.iload_n 2, 1) := by decide +kernel
theorem d_KeyMap_add_87 : decode b_KeyMap_add 87 = .ok (.iastore, 1) := by decide +kernel
theorem d_KeyMap_add_88 : decode b_KeyMap_add 88 = .ok (.aload_n 0, 1) := by decide +kernel
theorem d_KeyMap_add_89 : decode b_KeyMap_add 89 = .ok (.dup, 1) := by decide +kernel
theorem d_KeyMap_add_90 : decode b_KeyMap_add 90 = .ok (.getfield 22, 3) := by decide +kernel
theorem d_KeyMap_add_93 : decode b_KeyMap_add 93 = .ok (.iconst 1, 1) := by decide +kernel
theorem d_KeyMap_add_94 : decode b_KeyMap_add 94 = .ok (.iadd, 1) := by decide +kernel
theorem d_KeyMap_add_95 : decode b_KeyMap_add 95 = .ok (.putfield 22, 3) := by decide +kernel
theorem d_KeyMap_add_98 : decode b_KeyMap_add 98 = .ok (.aload_n 0, 1) := by decide +kernel
theorem d_KeyMap_add_99 : decode b_KeyMap_add 99 = .ok (.dup, 1) := by decide +kernel
theorem d_KeyMap_add_100 : decode b_KeyMap_add 100 = .ok (.getfield 37, 3) := by decide +kernel
theorem d_KeyMap_add_103 : decode b_KeyMap_add 103 = .ok (.iconst 1, 1) := by decide +kernel
theorem d_KeyMap_add_104 : decode b_KeyMap_add 104 = .ok (.iadd, 1) := by decide +kernel
theorem d_KeyMap_add_105 : decode b_KeyMap_add 105 = .ok (.putfield 37, 3) := by decide +kernel
theorem d_KeyMap_add_108 : decode b_KeyMap_add 108 = .ok (.return_, 1) := by decide +kernel
theorem d_KeyMap_takeOut_0 : decode b_KeyMap_takeOut 0 = .ok (.aload_n 0, 1) := by decide +kernel
theorem d_KeyMap_takeOut_1 : decode b_KeyMap_takeOut 1 = .ok (.getfield 11, 3) := by decide +kernel
theorem d_KeyMap_takeOut_4 : decode b_KeyMap_takeOut 4 = .ok (.iload_n 1, 1) := by decide +kernel
theorem d_KeyMap_takeOut_5 : decode b_KeyMap_takeOut 5 = .ok (.aaload, 1) := by decide +kernel
theorem d_KeyMap_takeOut_6 : decode b_KeyMap_takeOut 6 = .ok (.astore_n 2, 1) := by decide +kernel
theorem d_KeyMap_takeOut_7 : decode b_KeyMap_takeOut 7 = .ok (.aload_n 0, 1) := by decide +kernel
theorem d_KeyMap_takeOut_8 : decode b_KeyMap_takeOut 8 = .ok (.getfield 18, 3) := by decide +kernel
theorem d_KeyMap_takeOut_11 : decode b_KeyMap_takeOut 11 = .ok (.iload_n 1, 1) := by decide +kernel
theorem d_KeyMap_takeOut_12 : decode b_KeyMap_takeOut 12 = .ok (.iaload, 1) := by decide +kernel
theorem d_KeyMap_takeOut_13 : decode b_KeyMap_takeOut 13 = .ok (.istore_n 3, 1) := by decide +kernel
theorem d_KeyMap_takeOut_14 : decode b_KeyMap_takeOut 14 = .ok (.iload_n 1, 1) := by decide +kernel
theorem d_KeyMap_takeOut_15 : decode b_KeyMap_takeOut 15 = .ok (.istore 4, 2) := by decide +kernel
theorem d_KeyMap_takeOut_17 : decode b_KeyMap_takeOut 17 = .ok (.iload 4, 2) := by decide +kernel
theorem d_KeyMap_takeOut_19 : decode b_KeyMap_takeOut 19 = .ok (.aload_n 0, 1) := by decide +kernel
theorem d_KeyMap_takeOut_20 : decode b_KeyMap_takeOut 20 = .ok (.getfield 22, 3) := by decide +kernel
theorem d_KeyMap_takeOut_23 : decode b_KeyMap_takeOut 23 = .ok (.iconst 1, 1) := by decide +kernel
theorem d_KeyMap_takeOut_24 : decode b_KeyMap_takeOut 24 = .ok (.isub, 1) := by decide +kernel
theorem d_KeyMap_takeOut_25 : decode b_KeyMap_takeOut 25 = .ok (.if_icmp .ge 41, 3) := by decide +kernel
theorem d_KeyMap_takeOut_28 : decode b_KeyMap_takeOut 28 = .ok (.aload_n 0, 1) := by decide +kernel
theorem d_KeyMap_takeOut_29 : decode b_KeyMap_takeOut 29 = .ok (.getfield 11, 3) := by decide +kernel
theorem d_KeyMap_takeOut_32 : decode b_KeyMap_takeOut 32 = .ok (.iload 4, 2) := by decide +kernel
theorem d_KeyMap_takeOut_34 : decode b_KeyMap_takeOut 34 = .ok (.aload_n 0, 1) := by decide +kernel
theorem d_KeyMap_takeOut_35 : decode b_KeyMap_takeOut 35 = .ok (.getfield 11, 3) := by decide +kernel
theorem d_KeyMap_takeOut_38 : decode b_KeyMap_takeOut 38 = .ok (.iload 4, 2) := by decide +kernel
theorem d_KeyMap_takeOut_40 : decode b_KeyMap_takeOut 40 = .ok (.iconst 1, 1) := by decide +kernel
theorem d_KeyMap_takeOut_41 : decode b_KeyMap_takeOut 41 = .ok (.iadd, 1) := by decide +kernel
theorem d_KeyMap_takeOut_42 : decode b_KeyMap_takeOut 42 = .ok (.aaload, 1) := by decide +kernel
theorem d_KeyMap_takeOut_43 : decode b_KeyMap_takeOut 43 = .ok (.aastore, 1) := by decide +kernel
theorem d_KeyMap_takeOut_44 : decode b_KeyMap_takeOut 44 = .ok (.aload_n 0, 1) := by decide +kernel
theorem d_KeyMap_takeOut_45 : decode b_KeyMap_takeOut 45 = .ok (.getfield 18, 3) := by decide +kernel
theorem d_KeyMap_takeOut_48 : decode b_KeyMap_takeOut 48 = .ok (.iload 4, 2) := by decide +kernel
theorem d_KeyMap_takeOut_50 : decode b_KeyMap_takeOut 50 = .ok (.aload_n 0, 1) := by decide +kernel
theorem d_KeyMap_takeOut_51 : decode b_KeyMap_takeOut 51 = .ok (.getfield 18, 3) := by decide +kernel
theorem d_KeyMap_takeOut_54 : decode b_KeyMap_takeOut 54 = .ok (.iload 4, 2) := by decide +kernel
theorem d_KeyMap_takeOut_56 : decode b_KeyMap_takeOut 56 = .ok (.iconst 1, 1) := by decide +kernel
theorem d_KeyMap_takeOut_57 : decode b_KeyMap_takeOut 57 = .ok (.iadd, 1) := by decide +kernel
theorem d_KeyMap_takeOut_58 : decode b_KeyMap_takeOut 58 = .ok (.iaload, 1) := by decide +kernel
theorem d_KeyMap_takeOut_59 : decode b_KeyMap_takeOut 59 = .ok (.iastore, 1) := by decide +kernel
theorem d_KeyMap_takeOut_60 : decode b_KeyMap_takeOut 60 = .ok (.iinc 4 1, 3) := by decide +kernel
theorem d_KeyMap_takeOut_63 : decode b_KeyMap_takeOut 63 = .ok (.goto (-46), 3) := by decide +kernel
theorem d_KeyMap_takeOut_66 : decode b_KeyMap_takeOut 66 = .ok (.aload_n 0, 1) := by decide +kernel
theorem d_KeyMap_takeOut_67 : decode b_KeyMap_takeOut 67 = .ok (.getfield 11, 3) := by decide +kernel
theorem d_KeyMap_takeOut_70 : decode b_KeyMap_takeOut 70 = .ok (.aload_n 0, 1) := by decide +kernel
theorem d_KeyMap_takeOut_71 : decode b_KeyMap_takeOut 71 = .ok (.getfield 22, 3) := by decide +kernel
theorem d_KeyMap_takeOut_74 : decode b_KeyMap_takeOut 74 = .ok (.iconst 1, 1) := by decide +kernel
theorem d_KeyMap_takeOut_75 : decode b_KeyMap_takeOut 75 = .ok (.isub, 1) := by decide +kernel
theorem d_KeyMap_takeOut_76 : decode b_KeyMap_takeOut 76 = .ok (.aload_n 2, 1) := by decide +kernel
theorem d_KeyMap_takeOut_77 : decode b_KeyMap_takeOut 77 = .ok (.aastore, 1) := by decide +kernel
theorem d_KeyMap_takeOut_78 : decode b_KeyMap_takeOut 78 = .ok (.aload_n 0, 1) := by decide +kernel
theorem d_KeyMap_takeOut_79 : decode b_KeyMap_takeOut 79 = .ok (.dup, 1) := by decide +kernel
theorem d_KeyMap_takeOut_80 : decode b_KeyMap_takeOut 80 = .ok (.getfield 22, 3) := by decide +kernel
theorem d_KeyMap_takeOut_83 : decode b_KeyMap_takeOut 83 = .ok (.iconst 1, 1) := by decide +kernel
theorem d_KeyMap_takeOut_84 : decode b_KeyMap_takeOut 84 = .ok (.isub, 1) := by decide +kernel
theorem d_KeyMap_takeOut_85 : decode b_KeyMap_takeOut 85 = .ok (.putfield 22, 3) := by decide +kernel
theorem d_KeyMap_takeOut_88 : decode b_KeyMap_takeOut 88 = .ok (.aload_n 0, 1) := by decide +kernel
theorem d_KeyMap_takeOut_89 : decode b_KeyMap_takeOut 89 = .ok (.dup, 1) := by decide +kernel
theorem d_KeyMap_takeOut_90 : decode b_KeyMap_takeOut 90 = .ok (.getfield 37, 3) := by decide +kernel
theorem d_KeyMap_takeOut_93 : decode b_KeyMap_takeOut 93 = .ok (.iconst 1, 1) := by decide +kernel
theorem d_KeyMap_takeOut_94 : decode b_KeyMap_takeOut 94 = .ok (.iadd, 1) := by decide +kernel
theorem d_KeyMap_takeOut_95 : decode b_KeyMap_takeOut 95 = .ok (.putfield 37, 3) := by decide +kernel
theorem d_KeyMap_takeOut_98 : decode b_KeyMap_takeOut 98 = .ok (.iload_n 3, 1) := by decide +kernel
theorem d_KeyMap_takeOut_99 : decode b_KeyMap_takeOut 99 = .ok (.ireturn, 1) := by decide +kernel
theorem d_View_init_0 : decode b_View_init 0 = .ok (.aload_n 0, 1) := by decide +kernel
theorem d_View_init_1 : decode b_View_init 1 = .ok (.invokespecial 3, 3) := by decide +kernel
theorem d_View_init_4 : decode b_View_init 4 = .ok (.aload_n 0, 1) := by decide +kernel
theorem d_View_init_5 : decode b_View_init 5 = .ok (.aload_n 1, 1) := by decide +kernel
theorem d_View_init_6 : decode b_View_init 6 = .ok (.putfield 9, 3) := by decide +kernel
theorem d_View_init_9 : decode b_View_init 9 = .ok (.aload_n 0, 1) := by decide +kernel
theorem d_View_init_10 : decode b_View_init 10 = .ok (.aconst_null, 1) := by decide +kernel
theorem d_View_init_11 : decode b_View_init 11 = .ok (.putfield 15, 3) := by decide +kernel
theorem d_View_init_14 : decode b_View_init 14 = .ok (.aload_n 0, 1) := by decide +kernel
theorem d_View_init_15 : decode b_View_init 15 = .ok (.iconst 4, 1) := by decide +kernel
theorem d_View_init_16 : decode b_View_init 16 = .ok (.putfield 19, 3) := by decide +kernel
theorem d_View_init_19 : decode b_View_init 19 = .ok (.aload_n 0, 1) := by decide +kernel
theorem d_View_init_20 : decode b_View_init 20 = .ok (.new 23, 3) := by decide +kernel
theorem d_View_init_23 : decode b_View_init 23 = .ok (.dup, 1) := by decide +kernel
theorem d_View_init_24 : decode b_View_init 24 = .ok (.invokespecial 25, 3) := by decide +kernel
theorem d_View_init_27 : decode b_View_init 27 = .ok (.putfield 26, 3) := by decide +kernel
theorem d_View_init_30 : decode b_View_init 30 = .ok (.aload_n 0, 1) := by decide +kernel
theorem d_View_init_31 : decode b_View_init 31 = .ok (.iconst 0, 1) := by decide +kernel
theorem d_View_init_32 : decode b_View_init 32 = .ok (.putfield 30, 3) := by decide +kernel
theorem d_View_init_35 : decode b_View_init 35 = .ok (.aload_n 0, 1) := by decide +kernel
theorem d_View_init_36 : decode b_View_init 36 = .ok (.new 34, 3) := by decide +kernel
theorem d_View_init_39 : decode b_View_init 39 = .ok (.dup, 1) := by decide +kernel
theorem d_View_init_40 : decode b_View_init 40 = .ok (.invokespecial 36, 3) := by decide +kernel
theorem d_View_init_43 : decode b_View_init 43 = .ok (.putfield 37, 3) := by decide +kernel
theorem d_View_init_46 : decode b_View_init 46 = .ok (.return_, 1) := by decide +kernel
theorem d_View_init2_0 : decode b_View_init2 0 = .ok (.aload_n 0, 1) := by decide +kernel
theorem d_View_init2_1 : decode b_View_init2 1 = .ok (.invokespecial 3, 3) := by decide +kernel
theorem d_View_init2_4 : decode b_View_init2 4 = .ok (.aload_n 0, 1) := by decide +kernel
theorem d_View_init2_5 : decode b_View_init2 5 = .ok (.aload_n 1, 1) := by decide +kernel
theorem d_View_init2_6 : decode b_View_init2 6 = .ok (.getfield 9, 3) := by decide +kernel
theorem d_View_init2_9 : decode b_View_init2 9 = .ok (.putfield 9, 3) := by decide +kernel
theorem d_View_init2_12 : decode b_View_init2 12 = .ok (.aload_n 0, 1) := by decide +kernel
theorem d_View_init2_13 : decode b_View_init2 13 = .ok (.aload_n 1, 1) := by decide +kernel
theorem d_View_init2_14 : decode b_View_init2 14 = .ok (.putfield 15, 3) := by decide +kernel
theorem d_View_init2_17 : decode b_View_init2 17 = .ok (.aload_n 0, 1) := by decide +kernel
theorem d_View_init2_18 : decode b_View_init2 18 = .ok (.iload_n 2, 1) := by decide +kernel
theorem d_View_init2_19 : decode b_View_init2 19 = .ok (.putfield 19, 3) := by decide +kernel
theorem d_View_init2_22 : decode b_View_init2 22 = .ok (.aload_n 0, 1) := by decide +kernel
theorem d_View_init2_23 : decode b_View_init2 23 = .ok (.new 23, 3) := by decide +kernel
theorem d_View_init2_26 : decode b_View_init2 26 = .ok (.dup, 1) := by decide +kernel
theorem d_View_init2_27 : decode b_View_init2 27 = .ok (.invokespecial 25, 3) := by decide +kernel
theorem d_View_init2_30 : decode b_View_init2 30 = .ok (.putfield 26, 3) := by decide +kernel
theorem d_View_init2_33 : decode b_View_init2 33 = .ok (.aload_n 0, 1) := by decide +kernel
theorem d_View_init2_34 : decode b_View_init2 34 = .ok (.getfield 26, 3) := by decide +kernel
theorem d_View_init2_37 : decode b_View_init2 37 = .ok (.aload_n 3, 1) := by decide +kernel
theorem d_View_init2_38 : decode b_View_init2 38 = .ok (.invokevirtual 41, 3) := by decide +kernel
theorem d_View_init2_41 : decode b_View_init2 41 = .ok (.aload_n 0, 1) := by decide +kernel
theorem d_View_init2_42 : decode b_View_init2 42 = .ok (.iload_n 2, 1) := by decide +kernel
theorem d_View_init2_43 : decode b_View_init2 43 = .ok (.iconst 3, 1) := by decide +kernel
theorem d_View_init2_44 : decode b_View_init2 44 = .ok (.if_icmp .ne 7, 3) := by decide +kernel
theorem d_View_init2_47 : decode b_View_init2 47 = .ok (.iconst 1, 1) := by decide +kernel
theorem d_View_init2_48 : decode b_View_init2 48 = .ok (.goto 4, 3) := by decide +kernel
theorem d_View_init2_51 : decode b_View_init2 51 = .ok (.iconst 0, 1) := by decide +kernel
theorem d_View_init2_52 : decode b_View_init2 52 = .ok (.aload_n 1, 1) := by decide +kernel
theorem d_View_init2_53 : decode b_View_init2 53 = .ok (.getfield 30, 3) := by decide +kernel
theorem d_View_init2_56 : decode b_View_init2 56 = .ok (.if_icmp .eq 7, 3) := by decide +kernel
theorem d_View_init2_59 : decode b_View_init2 59 = .ok (.iconst 1, 1) := by decide +kernel
theorem d_View_init2_60 : decode b_View_init2 60 = .ok (.goto 4, 3) := by decide +kernel
theorem d_View_init2_63 : decode b_View_init2 63 = .ok (.iconst 0, 1) := by decide +kernel
theorem d_View_init2_64 : decode b_View_init2 64 = .ok (.putfield 30, 3) := by decide +kernel
theorem d_View_init2_67 : decode b_View_init2 67 = .ok (.aload_n 0, 1) := by decide +kernel
theorem d_View_init2_68 : decode b_View_init2 68 = .ok (.new 34, 3) := by decide +kernel
theorem d_View_init2_71 : decode b_View_init2 71 = .ok (.dup, 1) := by decide +kernel
theorem d_View_init2_72 : decode b_View_init2 72 = .ok (.invokespecial 36, 3) := by decide +kernel
theorem d_View_init2_75 : decode b_View_init2 75 = .ok (.putfield 37, 3) := by decide +kernel
theorem d_View_init2_78 : decode b_View_init2 78 = .ok (.return_, 1) := by decide +kernel
theorem d_View_admits_0 : decode b_View_admits 0 = .ok (.aload_n 0, 1) := by decide +kernel
theorem d_View_admits_1 : decode b_View_admits 1 = .ok (.astore_n 2, 1) := by decide +kernel
theorem d_View_admits_2 : decode b_View_admits 2 = .ok (.aload_n 2, 1) := by decide +kernel
theorem d_View_admits_3 : decode b_View_admits 3 = .ok (.ifnull 21, 3) := by decide +kernel
theorem d_View_admits_6 : decode b_View_admits 6 = .ok (.aload_n 2, 1) := by decide +kernel
theorem d_View_admits_7 : decode b_View_admits 7 = .ok (.aload_n 1, 1) := by decide +kernel
theorem d_View_admits_8 : decode b_View_admits 8 = .ok (.invokevirtual 45, 3) := by decide +kernel
theorem d_View_admits_11 : decode b_View_admits 11 = .ok (.ifCond .ne 5, 3) := by decide +kernel
theorem d_View_admits_14 : decode b_View_admits 14 = .ok (.iconst 0, 1) := by decide +kernel
theorem d_View_admits_15 : decode b_View_admits 15 = .ok (.ireturn, 1) := by decide +kernel
theorem d_View_admits_16 : decode b_View_admits 16 = .ok (.aload_n 2, 1) := by decide +kernel
theorem d_View_admits_17 : decode b_View_admits 17 = .ok (.getfield 15, 3) := by decide +kernel
theorem d_View_admits_20 : decode b_View_admits 20 = .ok (.astore_n 2, 1) := by decide +kernel
theorem d_View_admits_21 : decode b_View_admits 21 = .ok (.goto (-19), 3) := by decide +kernel
theorem d_View_admits_24 : decode b_View_admits 24 = .ok (.iconst 1, 1) := by decide +kernel
theorem d_View_admits_25 : decode b_View_admits 25 = .ok (.ireturn, 1) := by decide +kernel
theorem d_View_bounds_0 : decode b_View_bounds 0 = .ok (.aload_n 0, 1) := by decide +kernel
theorem d_View_bounds_1 : decode b_View_bounds 1 = .ok (.getfield 19, 3) := by decide +kernel
theorem d_View_bounds_4 : decode b_View_bounds 4 = .ok (.tableswitch 71 0 2 #[28, 37, 54], 28) := by decide +kernel
theorem d_View_bounds_32 : decode b_View_bounds 32 = .ok (.aload_n 1, 1) := by decide +kernel
theorem d_View_bounds_33 : decode b_View_bounds 33 = .ok (.aload_n 0, 1) := by decide +kernel
theorem d_View_bounds_34 : decode b_View_bounds 34 = .ok (.getfield 26, 3) := by decide +kernel
theorem d_View_bounds_37 : decode b_View_bounds 37 = .ok (.invokevirtual 49, 3) := by decide +kernel
theorem d_View_bounds_40 : decode b_View_bounds 40 = .ok (.ireturn, 1) := by decide +kernel
theorem d_View_bounds_41 : decode b_View_bounds 41 = .ok (.aload_n 1, 1) := by decide +kernel
theorem d_View_bounds_42 : decode b_View_bounds 42 = .ok (.aload_n 0, 1) := by decide +kernel
theorem d_View_bounds_43 : decode b_View_bounds 43 = .ok (.getfield 26, 3) := by decide +kernel
theorem d_View_bounds_46 : decode b_View_bounds 46 = .ok (.invokevirtual 52, 3) := by decide +kernel
theorem d_View_bounds_49 : decode b_View_bounds 49 = .ok (.ifCond .ge 7, 3) := by decide +kernel
theorem d_View_bounds_52 : decode b_View_bounds 52 = .ok (.iconst 1, 1) := by decide +kernel
theorem d_View_bounds_53 : decode b_View_bounds 53 = .ok (.goto 4, 3) := by decide +kernel
theorem d_View_bounds_56 : decode b_View_bounds 56 = .ok (.iconst 0, 1) := by decide +kernel
theorem d_View_bounds_57 : decode b_View_bounds 57 = .ok (.ireturn, 1) := by decide +kernel
theorem d_View_bounds_58 : decode b_View_bounds 58 = .ok (.aload_n 1, 1) := by decide +kernel
theorem d_View_bounds_59 : decode b_View_bounds 59 = .ok (.aload_n 0, 1) := by decide +kernel
theorem d_View_bounds_60 : decode b_View_bounds 60 = .ok (.getfield 26, 3) := by decide +kernel
theorem d_View_bounds_63 : decode b_View_bounds 63 = .ok (.invokevirtual 52, 3) := by decide +kernel
theorem d_View_bounds_66 : decode b_View_bounds 66 = .ok (.ifCond .lt 7, 3) := by decide +kernel
theorem d_View_bounds_69 : decode b_View_bounds 69 = .ok (.iconst 1, 1) := by decide +kernel
theorem d_View_bounds_70 : decode b_View_bounds 70 = .ok (.goto 4, 3) := by decide +kernel
theorem d_View_bounds_73 : decode b_View_bounds 73 = .ok (.iconst 0, 1) := by decide +kernel
theorem d_View_bounds_74 : decode b_View_bounds 74 = .ok (.ireturn, 1) := by decide +kernel
theorem d_View_bounds_75 : decode b_View_bounds 75 = .ok (.iconst 1, 1) := by decide +kernel
theorem d_View_bounds_76 : decode b_View_bounds 76 = .ok (.ireturn, 1) := by decide +kernel
theorem d_View_measure_0 : decode b_View_measure 0 = .ok (.aload_n 0, 1) := by decide +kernel
theorem d_View_measure_1 : decode b_View_measure 1 = .ok (.iconst 0, 1) := by decide +kernel
theorem d_View_measure_2 : decode b_View_measure 2 = .ok (.putfield 56, 3) := by decide +kernel
theorem d_View_measure_5 : decode b_View_measure 5 = .ok (.aload_n 0, 1) := by decide +kernel
theorem d_View_measure_6 : decode b_View_measure 6 = .ok (.getfield 56, 3) := by decide +kernel
theorem d_View_measure_9 : decode b_View_measure 9 = .ok (.aload_n 0, 1) := by decide +kernel
theorem d_View_measure_10 : decode b_View_measure 10 = .ok (.getfield 9, 3) := by decide +kernel
theorem d_View_measure_13 : decode b_View_measure 13 = .ok (.getfield 59, 3) := by decide +kernel
theorem d_View_measure_16 : decode b_View_measure 16 = .ok (.if_icmp .ge 35, 3) := by decide +kernel
theorem d_View_measure_19 : decode b_View_measure 19 = .ok (.aload_n 0, 1) := by decide +kernel
theorem d_View_measure_20 : decode b_View_measure 20 = .ok (.aload_n 0, 1) := by decide +kernel
theorem d_View_measure_21 : decode b_View_measure 21 = .ok (.getfield 9, 3) := by decide +kernel
theorem d_View_measure_24 : decode b_View_measure 24 = .ok (.getfield 64, 3) := by decide +kernel
theorem d_View_measure_27 : decode b_View_measure 27 = .ok (.aload_n 0, 1) := by decide +kernel
theorem d_View_measure_28 : decode b_View_measure 28 = .ok (.getfield 56, 3) := by decide +kernel
theorem d_View_measure_31 : decode b_View_measure 31 = .ok (.aaload, 1) := by decide +kernel
theorem d_View_measure_32 : decode b_View_measure 32 = .ok (.invokevirtual 68, 3) := by decide +kernel
theorem d_View_measure_35 : decode b_View_measure 35 = .ok (.ifCond .ne 16, 3) := by decide +kernel
theorem d_View_measure_38 : decode b_View_measure 38 = .ok (.aload_n 0, 1) := by decide +kernel
theorem d_View_measure_39 : decode b_View_measure 39 = .ok (.dup, 1) := by decide +kernel
theorem d_View_measure_40 : decode b_View_measure 40 = .ok (.getfield 56, 3) := by decide +kernel
theorem d_View_measure_43 : decode b_View_measure 43 = .ok (.iconst 1, 1) := by decide +kernel
theorem d_View_measure_44 : decode b_View_measure 44 = .ok (.iadd, 1) := by decide +kernel
theorem d_View_measure_45 : decode b_View_measure 45 = .ok (.putfield 56, 3) := by decide +kernel
theorem d_View_measure_48 : decode b_View_measure 48 = .ok (.goto (-43), 3) := by decide +kernel
theorem d_View_measure_51 : decode b_View_measure 51 = .ok (.aload_n 0, 1) := by decide +kernel
theorem d_View_measure_52 : decode b_View_measure 52 = .ok (.aload_n 0, 1) := by decide +kernel
theorem d_View_measure_53 : decode b_View_measure 53 = .ok (.getfield 9, 3) := by decide +kernel
theorem d_View_measure_56 : decode b_View_measure 56 = .ok (.getfield 59, 3) := by decide +kernel
theorem d_View_measure_59 : decode b_View_measure 59 = .ok (.putfield 71, 3) := by decide +kernel
theorem d_View_measure_62 : decode b_View_measure 62 = .ok (.aload_n 0, 1) := by decide +kernel
theorem d_View_measure_63 : decode b_View_measure 63 = .ok (.getfield 71, 3) := by decide +kernel
theorem d_View_measure_66 : decode b_View_measure 66 = .ok (.aload_n 0, 1) := by decide +kernel
theorem d_View_measure_67 : decode b_View_measure 67 = .ok (.getfield 56, 3) := by decide +kernel
theorem d_View_measure_70 : decode b_View_measure 70 = .ok (.if_icmp .le 37, 3) := by decide +kernel
theorem d_View_measure_73 : decode b_View_measure 73 = .ok (.aload_n 0, 1) := by decide +kernel
theorem d_View_measure_74 : decode b_View_measure 74 = .ok (.aload_n 0, 1) := by decide +kernel
theorem d_View_measure_75 : decode b_View_measure 75 = .ok (.getfield 9, 3) := by decide +kernel
theorem d_View_measure_78 : decode b_View_measure 78 = .ok (.getfield 64, 3) := by decide +kernel
theorem d_View_measure_81 : decode b_View_measure 81 = .ok (.aload_n 0, 1) := by decide +kernel
theorem d_View_measure_82 : decode b_View_measure 82 = .ok (.getfield 71, 3) := by decide +kernel
theorem d_View_measure_85 : decode b_View_measure 85 = .ok (.iconst 1, 1) := by decide +kernel
theorem d_View_measure_86 : decode b_View_measure 86 = .ok (.isub, 1) := by decide +kernel
theorem d_View_measure_87 : decode b_View_measure 87 = .ok (.aaload, 1) := by decide +kernel
theorem d_View_measure_88 : decode b_View_measure 88 = .ok (.invokevirtual 68, 3) := by decide +kernel
theorem d_View_measure_91 : decode b_View_measure 91 = .ok (.ifCond .ne 16, 3) := by decide +kernel
theorem d_View_measure_94 : decode b_View_measure 94 = .ok (.aload_n 0, 1) := by decide +kernel
theorem d_View_measure_95 : decode b_View_measure 95 = .ok (.dup, 1) := by decide +kernel
theorem d_View_measure_96 : decode b_View_measure 96 = .ok (.getfield 71, 3) := by decide +kernel
theorem d_View_measure_99 : decode b_View_measure 99 = .ok (.iconst 1, 1) := by decide +kernel
theorem d_View_measure_100 : decode b_View_measure 100 = .ok (.isub, 1) := by decide +kernel
theorem d_View_measure_101 : decode b_View_measure 101 = .ok (.putfield 71, 3) := by decide +kernel
theorem d_View_measure_104 : decode b_View_measure 104 = .ok (.goto (-42), 3) := by decide +kernel
theorem d_View_measure_107 : decode b_View_measure 107 = .ok (.return_, 1) := by decide +kernel
theorem d_View_count_0 : decode b_View_count 0 = .ok (.aload_n 0, 1) := by decide +kernel
theorem d_View_count_1 : decode b_View_count 1 = .ok (.getfield 71, 3) := by decide +kernel
theorem d_View_count_4 : decode b_View_count 4 = .ok (.aload_n 0, 1) := by decide +kernel
theorem d_View_count_5 : decode b_View_count 5 = .ok (.getfield 56, 3) := by decide +kernel
theorem d_View_count_8 : decode b_View_count 8 = .ok (.isub, 1) := by decide +kernel
theorem d_View_count_9 : decode b_View_count 9 = .ok (.ireturn, 1) := by decide +kernel
theorem d_View_placeRanked_0 : decode b_View_placeRanked 0 = .ok (.aload_n 0, 1) := by decide +kernel
theorem d_View_placeRanked_1 : decode b_View_placeRanked 1 = .ok (.getfield 30, 3) := by decide +kernel
theorem d_View_placeRanked_4 : decode b_View_placeRanked 4 = .ok (.ifCond .eq 14, 3) := by decide +kernel
theorem d_View_placeRanked_7 : decode b_View_placeRanked 7 = .ok (.aload_n 0, 1) := by decide +kernel
theorem d_View_placeRanked_8 : decode b_View_placeRanked 8 = .ok (.getfield 71, 3) := by decide +kernel
theorem d_View_placeRanked_11 : decode b_View_placeRanked 11 = .ok (.iconst 1, 1) := by decide +kernel
theorem d_View_placeRanked_12 : decode b_View_placeRanked 12 = .ok (.isub, 1) := by decide +kernel
theorem d_View_placeRanked_13 : decode b_View_placeRanked 13 = .ok (.iload_n 1, 1) := by decide +kernel
theorem d_View_placeRanked_14 : decode b_View_placeRanked 14 = .ok (.isub, 1) := by decide +kernel
theorem d_View_placeRanked_15 : decode b_View_placeRanked 15 = .ok (.goto 9, 3) := by decide +kernel
theorem d_View_placeRanked_18 : decode b_View_placeRanked 18 = .ok (.aload_n 0, 1) := by decide +kernel
theorem d_View_placeRanked_19 : decode b_View_placeRanked 19 = .ok (.getfield 56, 3) := by decide +kernel
theorem d_View_placeRanked_22 : decode b_View_placeRanked 22 = .ok (.iload_n 1, 1) := by decide +kernel
theorem d_View_placeRanked_23 : decode b_View_placeRanked 23 = .ok (.iadd, 1) := by decide +kernel
theorem d_View_placeRanked_24 : decode b_View_placeRanked 24 = .ok (.ireturn, 1) := by decide +kernel
theorem d_View_placeOf_0 : decode b_View_placeOf 0 = .ok (.aload_n 0, 1) := by decide +kernel
theorem d_View_placeOf_1 : decode b_View_placeOf 1 = .ok (.aload_n 1, 1) := by decide +kernel
theorem d_View_placeOf_2 : decode b_View_placeOf 2 = .ok (.invokevirtual 68, 3) := by decide +kernel
theorem d_View_placeOf_5 : decode b_View_placeOf 5 = .ok (.ifCond .eq 14, 3) := by decide +kernel
theorem d_View_placeOf_8 : decode b_View_placeOf 8 = .ok (.aload_n 0, 1) := by decide +kernel
theorem d_View_placeOf_9 : decode b_View_placeOf 9 = .ok (.getfield 9, 3) := by decide +kernel
theorem d_View_placeOf_12 : decode b_View_placeOf 12 = .ok (.aload_n 1, 1) := by decide +kernel
theorem d_View_placeOf_13 : decode b_View_placeOf 13 = .ok (.invokevirtual 74, 3) := by decide +kernel
theorem d_View_placeOf_16 : decode b_View_placeOf 16 = .ok (.goto 4, 3) := by decide +kernel
theorem d_View_placeOf_19 : decode b_View_placeOf 19 = .ok (.iconst (-1), 1) := by decide +kernel
theorem d_View_placeOf_20 : decode b_View_placeOf 20 = .ok (.ireturn, 1) := by decide +kernel
theorem d_View_rankBy_0 : decode b_View_rankBy 0 = .ok (.iload_n 1, 1) := by decide +kernel
theorem d_View_rankBy_1 : decode b_View_rankBy 1 = .ok (.tableswitch 80 0 5 #[39, 48, 57, 64, 71, 73], 39) := by decide +kernel
theorem d_View_rankBy_40 : decode b_View_rankBy 40 = .ok (.aload_n 0, 1) := by decide +kernel
theorem d_View_rankBy_41 : decode b_View_rankBy 41 = .ok (.aload_n 2, 1) := by decide +kernel
theorem d_View_rankBy_42 : decode b_View_rankBy 42 = .ok (.iconst 1, 1) := by decide +kernel
theorem d_View_rankBy_43 : decode b_View_rankBy 43 = .ok (.invokevirtual 77, 3) := by decide +kernel
theorem d_View_rankBy_46 : decode b_View_rankBy 46 = .ok (.iconst 1, 1) := by decide +kernel
theorem d_View_rankBy_47 : decode b_View_rankBy 47 = .ok (.isub, 1) := by decide +kernel
theorem d_View_rankBy_48 : decode b_View_rankBy 48 = .ok (.ireturn, 1) := by decide +kernel
theorem d_View_rankBy_49 : decode b_View_rankBy 49 = .ok (.aload_n 0, 1) := by decide +kernel
theorem d_View_rankBy_50 : decode b_View_rankBy 50 = .ok (.aload_n 2, 1) := by decide +kernel
theorem d_View_rankBy_51 : decode b_View_rankBy 51 = .ok (.iconst 0, 1) := by decide +kernel
theorem d_View_rankBy_52 : decode b_View_rankBy 52 = .ok (.invokevirtual 77, 3) := by decide +kernel
theorem d_View_rankBy_55 : decode b_View_rankBy 55 = .ok (.iconst 1, 1) := by decide +kernel
theorem d_View_rankBy_56 : decode b_View_rankBy 56 = .ok (.isub, 1) := by decide +kernel
theorem d_View_rankBy_57 : decode b_View_rankBy 57 = .ok (.ireturn, 1) := by decide +kernel
theorem d_View_rankBy_58 : decode b_View_rankBy 58 = .ok (.aload_n 0, 1) := by decide +kernel
theorem d_View_rankBy_59 : decode b_View_rankBy 59 = .ok (.aload_n 2, 1) := by decide +kernel
theorem d_View_rankBy_60 : decode b_View_rankBy 60 = .ok (.iconst 0, 1) := by decide +kernel
theorem d_View_rankBy_61 : decode b_View_rankBy 61 = .ok (.invokevirtual 77, 3) := by decide +kernel
theorem d_View_rankBy_64 : decode b_View_rankBy 64 = .ok (.ireturn, 1) := by decide +kernel
theorem d_View_rankBy_65 : decode b_View_rankBy 65 = .ok (.aload_n 0, 1) := by decide +kernel
theorem d_View_rankBy_66 : decode b_View_rankBy 66 = .ok (.aload_n 2, 1) := by decide +kernel
theorem d_View_rankBy_67 : decode b_View_rankBy 67 = .ok (.iconst 1, 1) := by decide +kernel
theorem d_View_rankBy_68 : decode b_View_rankBy 68 = .ok (.invokevirtual 77, 3) := by decide +kernel
theorem d_View_rankBy_71 : decode b_View_rankBy 71 = .ok (.ireturn, 1) := by decide +kernel
theorem d_View_rankBy_72 : decode b_View_rankBy 72 = .ok (.iconst 0, 1) := by decide +kernel
theorem d_View_rankBy_73 : decode b_View_rankBy 73 = .ok (.ireturn, 1) := by decide +kernel
theorem d_View_rankBy_74 : decode b_View_rankBy 74 = .ok (.aload_n 0, 1) := by decide +kernel
theorem d_View_rankBy_75 : decode b_View_rankBy 75 = .ok (.invokevirtual 81, 3) := by decide +kernel
theorem d_View_rankBy_78 : decode b_View_rankBy 78 = .ok (.iconst 1, 1) := by decide +kernel
theorem d_View_rankBy_79 : decode b_View_rankBy 79 = .ok (.isub, 1) := by decide +kernel
theorem d_View_rankBy_80 : decode b_View_rankBy 80 = .ok (.ireturn, 1) := by decide +kernel
theorem d_View_rankBy_81 : decode b_View_rankBy 81 = .ok (.aload_n 0, 1) := by decide +kernel
theorem d_View_rankBy_82 : decode b_View_rankBy 82 = .ok (.aload_n 2, 1) := by decide +kernel
theorem d_View_rankBy_83 : decode b_View_rankBy 83 = .ok (.invokevirtual 84, 3) := by decide +kernel
theorem d_View_rankBy_86 : decode b_View_rankBy 86 = .ok (.ireturn, 1) := by decide +kernel
theorem d_View_countBefore_0 : decode b_View_countBefore 0 = .ok (.iconst 0, 1) := by decide +kernel
theorem d_View_countBefore_1 : decode b_View_countBefore 1 = .ok (.istore_n 3, 1) := by decide +kernel
theorem d_View_countBefore_2 : decode b_View_countBefore 2 = .ok (.aload_n 0, 1) := by decide +kernel
theorem d_View_countBefore_3 : decode b_View_countBefore 3 = .ok (.getfield 56, 3) := by decide +kernel
theorem d_View_countBefore_6 : decode b_View_countBefore 6 = .ok (.istore 4, 2) := by decide +kernel
theorem d_View_countBefore_8 : decode b_View_countBefore 8 = .ok (.iload 4, 2) := by decide +kernel
theorem d_View_countBefore_10 : decode b_View_countBefore 10 = .ok (.aload_n 0, 1) := by decide +kernel
theorem d_View_countBefore_11 : decode b_View_countBefore 11 = .ok (.getfield 71, 3) := by decide +kernel
theorem d_View_countBefore_14 : decode b_View_countBefore 14 = .ok (.if_icmp .ge 62, 3) := by decide +kernel
theorem d_View_countBefore_17 : decode b_View_countBefore 17 = .ok (.aload_n 0, 1) := by decide +kernel
theorem d_View_countBefore_18 : decode b_View_countBefore 18 = .ok (.getfield 9, 3) := by decide +kernel
theorem d_View_countBefore_21 : decode b_View_countBefore 21 = .ok (.getfield 64, 3) := by decide +kernel
theorem d_View_countBefore_24 : decode b_View_countBefore 24 = .ok (.iload 4, 2) := by decide +kernel
theorem d_View_countBefore_26 : decode b_View_countBefore 26 = .ok (.aaload, 1) := by decide +kernel
theorem d_View_countBefore_27 : decode b_View_countBefore 27 = .ok (.astore 5, 2) := by decide +kernel
theorem d_View_countBefore_29 : decode b_View_countBefore 29 = .ok (.aload_n 0, 1) := by decide +kernel
theorem d_View_countBefore_30 : decode b_View_countBefore 30 = .ok (.getfield 30, 3) := by decide +kernel
theorem d_View_countBefore_33 : decode b_View_countBefore 33 = .ok (.ifCond .eq 12, 3) := by decide +kernel
theorem d_View_countBefore_36 : decode b_View_countBefore 36 = .ok (.aload_n 1, 1) := by decide +kernel
theorem d_View_countBefore_37 : decode b_View_countBefore 37 = .ok (.aload 5, 2) := by decide +kernel
theorem d_View_countBefore_39 : decode b_View_countBefore 39 = .ok (.invokevirtual 52, 3) := by decide +kernel
theorem d_View_countBefore_42 : decode b_View_countBefore 42 = .ok (.goto 9, 3) := by decide +kernel
theorem d_View_countBefore_45 : decode b_View_countBefore 45 = .ok (.aload 5, 2) := by decide +kernel
theorem d_View_countBefore_47 : decode b_View_countBefore 47 = .ok (.aload_n 1, 1) := by decide +kernel
theorem d_View_countBefore_48 : decode b_View_countBefore 48 = .ok (.invokevirtual 52, 3) := by decide +kernel
theorem d_View_countBefore_51 : decode b_View_countBefore 51 = .ok (.istore 6, 2) := by decide +kernel
theorem d_View_countBefore_53 : decode b_View_countBefore 53 = .ok (.iload 6, 2) := by decide +kernel
theorem d_View_countBefore_55 : decode b_View_countBefore 55 = .ok (.ifCond .lt 12, 3) := by decide +kernel
theorem d_View_countBefore_58 : decode b_View_countBefore 58 = .ok (.iload_n 2, 1) := by decide +kernel
theorem d_View_countBefore_59 : decode b_View_countBefore 59 = .ok (.ifCond .eq 11, 3) := by decide +kernel
theorem d_View_countBefore_62 : decode b_View_countBefore 62 = .ok (.iload 6, 2) := by decide +kernel
theorem d_View_countBefore_64 : decode b_View_countBefore 64 = .ok (.ifCond .ne 6, 3) := by decide +kernel
theorem d_View_countBefore_67 : decode b_View_countBefore 67 = .ok (.iinc 3 1, 3) := by decide +kernel
theorem d_View_countBefore_70 : decode b_View_countBefore 70 = .ok (.iinc 4 1, 3) := by decide +kernel
theorem d_View_countBefore_73 : decode b_View_countBefore 73 = .ok (.goto (-65), 3) := by decide +kernel
theorem d_View_countBefore_76 : decode b_View_countBefore 76 = .ok (.iload_n 3, 1) := by decide +kernel
theorem d_View_countBefore_77 : decode b_View_countBefore 77 = .ok (.ireturn, 1) := by decide +kernel
theorem d_View_rankOfLongestStart_0 : decode b_View_rankOfLongestStart 0 = .ok (.iconst (-1), 1) := by decide +kernel
theorem d_View_rankOfLongestStart_1 : decode b_View_rankOfLongestStart 1 = .ok (.istore_n 2, 1) := by decide +kernel
theorem d_View_rankOfLongestStart_2 : decode b_View_rankOfLongestStart 2 = .ok (.iconst (-1), 1) := by decide +kernel
theorem d_View_rankOfLongestStart_3 : decode b_View_rankOfLongestStart 3 = .ok (.istore_n 3, 1) := by decide +kernel
theorem d_View_rankOfLongestStart_4 : decode b_View_rankOfLongestStart 4 = .ok (.iconst 0, 1) := by decide +kernel
theorem d_View_rankOfLongestStart_5 : decode b_View_rankOfLongestStart 5 = .ok (.istore 4, 2) := by decide +kernel
theorem d_View_rankOfLongestStart_7 : decode b_View_rankOfLongestStart 7 = .ok (.iload 4, 2) := by decide +kernel
theorem d_View_rankOfLongestStart_9 : decode b_View_rankOfLongestStart 9 = .ok (.aload_n 0, 1) := by decide +kernel
theorem d_View_rankOfLongestStart_10 : decode b_View_rankOfLongestStart 10 = .ok (.invokevirtual 81, 3) := by decide +kernel
theorem d_View_rankOfLongestStart_13 : decode b_View_rankOfLongestStart 13 = .ok (.if_icmp .ge 52, 3) := by decide +kernel
theorem d_View_rankOfLongestStart_16 : decode b_View_rankOfLongestStart 16 = .ok (.aload_n 0, 1) := by decide +kernel
theorem d_View_rankOfLongestStart_17 : decode b_View_rankOfLongestStart 17 = .ok (.getfield 9, 3) := by decide +kernel
theorem d_View_rankOfLongestStart_20 : decode b_View_rankOfLongestStart 20 = .ok (.getfield 64, 3) := by decide +kernel
theorem d_View_rankOfLongestStart_23 : decode b_View_rankOfLongestStart 23 = .ok (.aload_n 0, 1) := by decide +kernel
theorem d_View_rankOfLongestStart_24 : decode b_View_rankOfLongestStart 24 = .ok (.iload 4, 2) := by decide +kernel
theorem d_View_rankOfLongestStart_26 : decode b_View_rankOfLongestStart 26 = .ok (.invokevirtual 87, 3) := by decide +kernel
theorem d_View_rankOfLongestStart_29 : decode b_View_rankOfLongestStart 29 = .ok (.aaload, 1) := by decide +kernel
theorem d_View_rankOfLongestStart_30 : decode b_View_rankOfLongestStart 30 = .ok (.astore 5, 2) := by decide +kernel
theorem d_View_rankOfLongestStart_32 : decode b_View_rankOfLongestStart 32 = .ok (.aload 5, 2) := by decide +kernel
theorem d_View_rankOfLongestStart_34 : decode b_View_rankOfLongestStart 34 = .ok (.getfield 91, 3) := by decide +kernel
theorem d_View_rankOfLongestStart_37 : decode b_View_rankOfLongestStart 37 = .ok (.iload_n 3, 1) := by decide +kernel
theorem d_View_rankOfLongestStart_38 : decode b_View_rankOfLongestStart 38 = .ok (.if_icmp .le 21, 3) := by decide +kernel
theorem d_View_rankOfLongestStart_41 : decode b_View_rankOfLongestStart 41 = .ok (.aload_n 1, 1) := by decide +kernel
theorem d_View_rankOfLongestStart_42 : decode b_View_rankOfLongestStart 42 = .ok (.aload 5, 2) := by decide +kernel
theorem d_View_rankOfLongestStart_44 : decode b_View_rankOfLongestStart 44 = .ok (.invokevirtual 49, 3) := by decide +kernel
theorem d_View_rankOfLongestStart_47 : decode b_View_rankOfLongestStart 47 = .ok (.ifCond .eq 12, 3) := by decide +kernel
theorem d_View_rankOfLongestStart_50 : decode b_View_rankOfLongestStart 50 = .ok (.aload 5, 2) := by decide +kernel
theorem d_View_rankOfLongestStart_52 : decode b_View_rankOfLongestStart 52 = .ok (.getfield 91, 3) := by decide +kernel
theorem d_View_rankOfLongestStart_55 : decode b_View_rankOfLongestStart 55 = .ok (.istore_n 3, 1) := by decide +kernel
theorem d_View_rankOfLongestStart_56 : decode b_View_rankOfLongestStart 56 = .ok (.iload 4, 2) := by decide +kernel
theorem d_View_rankOfLongestStart_58 : decode b_View_rankOfLongestStart 58 = .ok (.istore_n 2, 1) := by decide +kernel
theorem d_View_rankOfLongestStart_59 : decode b_View_rankOfLongestStart 59 = .ok (.iinc 4 1, 3) := by decide +kernel
theorem d_View_rankOfLongestStart_62 : decode b_View_rankOfLongestStart 62 = .ok (.goto (-55), 3) := by decide +kernel
theorem d_View_rankOfLongestStart_65 : decode b_View_rankOfLongestStart 65 = .ok (.iload_n 2, 1) := by decide +kernel
theorem d_View_rankOfLongestStart_66 : decode b_View_rankOfLongestStart 66 = .ok (.ireturn, 1) := by decide +kernel
theorem d_Walker_init_0 : decode b_Walker_init 0 = .ok (.aload_n 0, 1) := by decide +kernel
theorem d_Walker_init_1 : decode b_Walker_init 1 = .ok (.invokespecial 1, 3) := by decide +kernel
theorem d_Walker_init_4 : decode b_Walker_init 4 = .ok (.return_, 1) := by decide +kernel
theorem d_Walker_begin_0 : decode b_Walker_begin 0 = .ok (.aload_n 0, 1) := by decide +kernel
theorem d_Walker_begin_1 : decode b_Walker_begin 1 = .ok (.iconst 1, 1) := by decide +kernel
theorem d_Walker_begin_2 : decode b_Walker_begin 2 = .ok (.putfield 7, 3) := by decide +kernel
theorem d_Walker_begin_5 : decode b_Walker_begin 5 = .ok (.aload_n 0, 1) := by decide +kernel
theorem d_Walker_begin_6 : decode b_Walker_begin 6 = .ok (.iconst 0, 1) := by decide +kernel
theorem d_Walker_begin_7 : decode b_Walker_begin 7 = .ok (.putfield 13, 3) := by decide +kernel
theorem d_Walker_begin_10 : decode b_Walker_begin 10 = .ok (.aload_n 0, 1) := by decide +kernel
theorem d_Walker_begin_11 : decode b_Walker_begin 11 = .ok (.iconst 0, 1) := by decide +kernel
theorem d_Walker_begin_12 : decode b_Walker_begin 12 = .ok (.putfield 17, 3) := by decide +kernel
theorem d_Walker_begin_15 : decode b_Walker_begin 15 = .ok (.aload_n 0, 1) := by decide +kernel
theorem d_Walker_begin_16 : decode b_Walker_begin 16 = .ok (.iload_n 1, 1) := by decide +kernel
theorem d_Walker_begin_17 : decode b_Walker_begin 17 = .ok (.putfield 20, 3) := by decide +kernel
theorem d_Walker_begin_20 : decode b_Walker_begin 20 = .ok (.return_, 1) := by decide +kernel
theorem d_Walker_mayGoOn_0 : decode b_Walker_mayGoOn 0 = .ok (.aload_n 0, 1) := by decide +kernel
theorem d_Walker_mayGoOn_1 : decode b_Walker_mayGoOn 1 = .ok (.getfield 7, 3) := by decide +kernel
theorem d_Walker_mayGoOn_4 : decode b_Walker_mayGoOn 4 = .ok (.ifCond .eq 15, 3) := by decide +kernel
theorem d_Walker_mayGoOn_7 : decode b_Walker_mayGoOn 7 = .ok (.iload_n 1, 1) := by decide +kernel
theorem d_Walker_mayGoOn_8 : decode b_Walker_mayGoOn 8 = .ok (.aload_n 0, 1) := by decide +kernel
theorem d_Walker_mayGoOn_9 : decode b_Walker_mayGoOn 9 = .ok (.getfield 20, 3) := by decide +kernel
theorem d_Walker_mayGoOn_12 : decode b_Walker_mayGoOn 12 = .ok (.if_icmp .ne 7, 3) := by decide +kernel
theorem d_Walker_mayGoOn_15 : decode b_Walker_mayGoOn 15 = .ok (.iconst 1, 1) := by decide +kernel
theorem d_Walker_mayGoOn_16 : decode b_Walker_mayGoOn 16 = .ok (.goto 4, 3) := by decide +kernel
theorem d_Walker_mayGoOn_19 : decode b_Walker_mayGoOn 19 = .ok (.iconst 0, 1) := by decide +kernel
theorem d_Walker_mayGoOn_20 : decode b_Walker_mayGoOn 20 = .ok (.ireturn, 1) := by decide +kernel
theorem d_Walker_step_0 : decode b_Walker_step 0 = .ok (.aload_n 0, 1) := by decide +kernel
theorem d_Walker_step_1 : decode b_Walker_step 1 = .ok (.dup, 1) := by decide +kernel
theorem d_Walker_step_2 : decode b_Walker_step 2 = .ok (.getfield 13, 3) := by decide +kernel
theorem d_Walker_step_5 : decode b_Walker_step 5 = .ok (.iconst 1, 1) := by decide +kernel
theorem d_Walker_step_6 : decode b_Walker_step 6 = .ok (.iadd, 1) := by decide +kernel
theorem d_Walker_step_7 : decode b_Walker_step 7 = .ok (.putfield 13, 3) := by decide +kernel
theorem d_Walker_step_10 : decode b_Walker_step 10 = .ok (.aload_n 0, 1) := by decide +kernel
theorem d_Walker_step_11 : decode b_Walker_step 11 = .ok (.iconst 1, 1) := by decide +kernel
theorem d_Walker_step_12 : decode b_Walker_step 12 = .ok (.putfield 17, 3) := by decide +kernel
theorem d_Walker_step_15 : decode b_Walker_step 15 = .ok (.return_, 1) := by decide +kernel
theorem d_Walker_stepBack_0 : decode b_Walker_stepBack 0 = .ok (.aload_n 0, 1) := by decide +kernel
theorem d_Walker_stepBack_1 : decode b_Walker_stepBack 1 = .ok (.dup, 1) := by decide +kernel
theorem d_Walker_stepBack_2 : decode b_Walker_stepBack 2 = .ok (.getfield 13, 3) := by decide +kernel
theorem d_Walker_stepBack_5 : decode b_Walker_stepBack 5 = .ok (.iconst 1, 1) := by decide +kernel
theorem d_Walker_stepBack_6 : decode b_Walker_stepBack 6 = .ok (.isub, 1) := by decide +kernel
theorem d_Walker_stepBack_7 : decode b_Walker_stepBack 7 = .ok (.putfield 13, 3) := by decide +kernel
theorem d_Walker_stepBack_10 : decode b_Walker_stepBack 10 = .ok (.aload_n 0, 1) := by decide +kernel
theorem d_Walker_stepBack_11 : decode b_Walker_stepBack 11 = .ok (.iconst 0, 1) := by decide +kernel
theorem d_Walker_stepBack_12 : decode b_Walker_stepBack 12 = .ok (.putfield 17, 3) := by decide +kernel
theorem d_Walker_stepBack_15 : decode b_Walker_stepBack 15 = .ok (.aload_n 0, 1) := by decide +kernel
theorem d_Walker_stepBack_16 : decode b_Walker_stepBack 16 = .ok (.iload_n 1, 1) := by decide +kernel
theorem d_Walker_stepBack_17 : decode b_Walker_stepBack 17 = .ok (.putfield 20, 3) := by decide +kernel
theorem d_Walker_stepBack_20 : decode b_Walker_stepBack 20 = .ok (.return_, 1) := by decide +kernel
end
section
/-! printed by wip/tools/names.py: decode rows -/
theorem d_Edges_init_0 : decode b_Edges_init 0 = .ok (.aload_n 0, 1) := by decide +kernel
theorem d_Edges_init_1 : decode b_Edges_init 1 = .ok (.invokespecial 3, 3) := by decide +kernel
theorem d_Edges_init_4 : decode b_Edges_init 4 = .ok (.aload_n 0, 1) := by decide +kernel
theorem d_Edges_init_5 : decode b_Edges_init 5 = .ok (.bipush 64, 2) := by decide +kernel
theorem d_Edges_init_7 : decode b_Edges_init 7 = .ok (.newarray .int, 2) := by decide +kernel
theorem d_Edges_init_9 : decode b_Edges_init 9 = .ok (.putfield 9, 3) := by decide +kernel
theorem d_Edges_init_12 : decode b_Edges_init 12 = .ok (.aload_n 0, 1) := by decide +kernel
theorem d_Edges_init_13 : decode b_Edges_init 13 = .ok (.sipush 136, 3) := by decide +kernel
theorem d_Edges_init_16 : decode b_Edges_init 16 = .ok (.newarray .boolean, 2) := by decide +kernel
theorem d_Edges_init_18 : decode b_Edges_init 18 = .ok (.putfield 15, 3) := by decide +kernel
theorem d_Edges_init_21 : decode b_Edges_init 21 = .ok (.return_, 1) := by decide +kernel
theorem d_Edges_countInner_0 : decode b_Edges_countInner 0 = .ok (.aload_n 1, 1) := by decide +kernel
theorem d_Edges_countInner_1 : decode b_Edges_countInner 1 = .ok (.getfield 19, 3) := by decide +kernel
theorem d_Edges_countInner_4 : decode b_Edges_countInner 4 = .ok (.iconst 1, 1) := by decide +kernel
theorem d_Edges_countInner_5 : decode b_Edges_countInner 5 = .ok (.isub, 1) := by decide +kernel
theorem d_Edges_countInner_6 : decode b_Edges_countInner 6 = .ok (.istore 4, 2) := by decide +kernel
theorem d_Edges_countInner_8 : decode b_Edges_countInner 8 = .ok (.iconst 0, 1) := by decide +kernel
theorem d_Edges_countInner_9 : decode b_Edges_countInner 9 = .ok (.istore 5, 2) := by decide +kernel
theorem d_Edges_countInner_11 : decode b_Edges_countInner 11 = .ok (.iload 5, 2) := by decide +kernel
theorem d_Edges_countInner_13 : decode b_Edges_countInner 13 = .ok (.iload 4, 2) := by decide +kernel
theorem d_Edges_countInner_15 : decode b_Edges_countInner 15 = .ok (.if_icmp .ge 36, 3) := by decide +kernel
theorem d_Edges_countInner_18 : decode b_Edges_countInner 18 = .ok (.aload_n 0, 1) := by decide +kernel
theorem d_Edges_countInner_19 : decode b_Edges_countInner 19 = .ok (.getfield 9, 3) := by decide +kernel
theorem d_Edges_countInner_22 : decode b_Edges_countInner 22 = .ok (.iload 5, 2) := by decide +kernel
theorem d_Edges_countInner_24 : decode b_Edges_countInner 24 = .ok (.aload_n 0, 1) := by decide +kernel
theorem d_Edges_countInner_25 : decode b_Edges_countInner 25 = .ok (.aload_n 1, 1) := by decide +kernel
theorem d_Edges_countInner_26 : decode b_Edges_countInner 26 = .ok (.getfield 25, 3) := by decide +kernel
theorem d_Edges_countInner_29 : decode b_Edges_countInner 29 = .ok (.iload 5, 2) := by decide +kernel
theorem d_Edges_countInner_31 : decode b_Edges_countInner 31 = .ok (.aaload, 1) := by decide +kernel
theorem d_Edges_countInner_32 : decode b_Edges_countInner 32 = .ok (.aload_n 1, 1) := by decide +kernel
theorem d_Edges_countInner_33 : decode b_Edges_countInner 33 = .ok (.getfield 25, 3) := by decide +kernel
theorem d_Edges_countInner_36 : decode b_Edges_countInner 36 = .ok (.iload 5, 2) := by decide +kernel
theorem d_Edges_countInner_38 : decode b_Edges_countInner 38 = .ok (.iconst 1, 1) := by decide +kernel
theorem d_Edges_countInner_39 : decode b_Edges_countInner 39 = .ok (.iadd, 1) := by decide +kernel
theorem d_Edges_countInner_40 : decode b_Edges_countInner 40 = .ok (.aaload, 1) := by decide +kernel
theorem d_Edges_countInner_41 : decode b_Edges_countInner 41 = .ok (.invokevirtual 29, 3) := by decide +kernel
theorem d_Edges_countInner_44 : decode b_Edges_countInner 44 = .ok (.iastore, 1) := by decide +kernel
theorem d_Edges_countInner_45 : decode b_Edges_countInner 45 = .ok (.iinc 5 1, 3) := by decide +kernel
theorem d_Edges_countInner_48 : decode b_Edges_countInner 48 = .ok (.goto (-37), 3) := by decide +kernel
theorem d_Edges_countInner_51 : decode b_Edges_countInner 51 = .ok (.iconst 0, 1) := by decide +kernel
theorem d_Edges_countInner_52 : decode b_Edges_countInner 52 = .ok (.istore 5, 2) := by decide +kernel
theorem d_Edges_countInner_54 : decode b_Edges_countInner 54 = .ok (.iconst 0, 1) := by decide +kernel
theorem d_Edges_countInner_55 : decode b_Edges_countInner 55 = .ok (.istore 6, 2) := by decide +kernel
theorem d_Edges_countInner_57 : decode b_Edges_countInner 57 = .ok (.iload 6, 2) := by decide +kernel
theorem d_Edges_countInner_59 : decode b_Edges_countInner 59 = .ok (.iload 4, 2) := by decide +kernel
theorem d_Edges_countInner_61 : decode b_Edges_countInner 61 = .ok (.if_icmp .ge 50, 3) := by decide +kernel
theorem d_Edges_countInner_64 : decode b_Edges_countInner 64 = .ok (.aload_n 0, 1) := by decide +kernel
theorem d_Edges_countInner_65 : decode b_Edges_countInner 65 = .ok (.iload 6, 2) := by decide +kernel
theorem d_Edges_countInner_67 : decode b_Edges_countInner 67 = .ok (.invokevirtual 33, 3) := by decide +kernel
theorem d_Edges_countInner_70 : decode b_Edges_countInner 70 = .ok (.ifCond .eq 35, 3) := by decide +kernel
theorem d_Edges_countInner_73 : decode b_Edges_countInner 73 = .ok (.aload_n 0, 1) := by decide +kernel
theorem d_Edges_countInner_74 : decode b_Edges_countInner 74 = .ok (.iload 6, 2) := by decide +kernel
theorem d_Edges_countInner_76 : decode b_Edges_countInner 76 = .ok (.iload 4, 2) := by decide +kernel
theorem d_Edges_countInner_78 : decode b_Edges_countInner 78 = .ok (.aload_n 1, 1) := by decide +kernel
theorem d_Edges_countInner_79 : decode b_Edges_countInner 79 = .ok (.getfield 25, 3) := by decide +kernel
theorem d_Edges_countInner_82 : decode b_Edges_countInner 82 = .ok (.iload 6, 2) := by decide +kernel
theorem d_Edges_countInner_84 : decode b_Edges_countInner 84 = .ok (.aaload, 1) := by decide +kernel
theorem d_Edges_countInner_85 : decode b_Edges_countInner 85 = .ok (.invokevirtual 37, 3) := by decide +kernel
theorem d_Edges_countInner_88 : decode b_Edges_countInner 88 = .ok (.istore 7, 2) := by decide +kernel
theorem d_Edges_countInner_90 : decode b_Edges_countInner 90 = .ok (.iload 7, 2) := by decide +kernel
theorem d_Edges_countInner_92 : decode b_Edges_countInner 92 = .ok (.iload_n 2, 1) := by decide +kernel
theorem d_Edges_countInner_93 : decode b_Edges_countInner 93 = .ok (.if_icmp .lt 12, 3) := by decide +kernel
theorem d_Edges_countInner_96 : decode b_Edges_countInner 96 = .ok (.iload 7, 2) := by decide +kernel
theorem d_Edges_countInner_98 : decode b_Edges_countInner 98 = .ok (.iload_n 3, 1) := by decide +kernel
theorem d_Edges_countInner_99 : decode b_Edges_countInner 99 = .ok (.if_icmp .gt 6, 3) := by decide +kernel
theorem d_Edges_countInner_102 : decode b_Edges_countInner 102 = .ok (.iinc 5 1, 3) := by decide +kernel
theorem d_Edges_countInner_105 : decode b_Edges_countInner 105 = .ok (.iinc 6 1, 3) := by decide +kernel
theorem d_Edges_countInner_108 : decode b_Edges_countInner 108 = .ok (.goto (-51), 3) := by decide +kernel
theorem d_Edges_countInner_111 : decode b_Edges_countInner 111 = .ok (.iload 5, 2) := by decide +kernel
theorem d_Edges_countInner_113 : decode b_Edges_countInner 113 = .ok (.ireturn, 1) := by decide +kernel
theorem d_Edges_countSharedBytes_0 : decode b_Edges_countSharedBytes 0 = .ok (.aload_n 1, 1) := by decide +kernel
theorem d_Edges_countSharedBytes_1 : decode b_Edges_countSharedBytes 1 = .ok (.aload_n 2, 1) := by decide +kernel
theorem d_Edges_countSharedBytes_2 : decode b_Edges_countSharedBytes 2 = .ok (.invokevirtual 41, 3) := by decide +kernel
theorem d_Edges_countSharedBytes_5 : decode b_Edges_countSharedBytes 5 = .ok (.istore_n 3, 1) := by decide +kernel
theorem d_Edges_countSharedBytes_6 : decode b_Edges_countSharedBytes 6 = .ok (.iload_n 3, 1) := by decide +kernel
theorem d_Edges_countSharedBytes_7 : decode b_Edges_countSharedBytes 7 = .ok (.aload_n 1, 1) := by decide +kernel
theorem d_Edges_countSharedBytes_8 : decode b_Edges_countSharedBytes 8 = .ok (.getfield 47, 3) := by decide +kernel
theorem d_Edges_countSharedBytes_11 : decode b_Edges_countSharedBytes 11 = .ok (.if_icmp .eq 11, 3) := by decide +kernel
theorem d_Edges_countSharedBytes_14 : decode b_Edges_countSharedBytes 14 = .ok (.iload_n 3, 1) := by decide +kernel
theorem d_Edges_countSharedBytes_15 : decode b_Edges_countSharedBytes 15 = .ok (.aload_n 2, 1) := by decide +kernel
theorem d_Edges_countSharedBytes_16 : decode b_Edges_countSharedBytes 16 = .ok (.getfield 47, 3) := by decide +kernel
theorem d_Edges_countSharedBytes_19 : decode b_Edges_countSharedBytes 19 = .ok (.if_icmp .ne 7, 3) := by decide +kernel
theorem d_Edges_countSharedBytes_22 : decode b_Edges_countSharedBytes 22 = .ok (.iconst 2, 1) := by decide +kernel
theorem d_Edges_countSharedBytes_23 : decode b_Edges_countSharedBytes 23 = .ok (.iload_n 3, 1) := by decide +kernel
theorem d_Edges_countSharedBytes_24 : decode b_Edges_countSharedBytes 24 = .ok (.imul, 1) := by decide +kernel
theorem d_Edges_countSharedBytes_25 : decode b_Edges_countSharedBytes 25 = .ok (.ireturn, 1) := by decide +kernel
theorem d_Edges_countSharedBytes_26 : decode b_Edges_countSharedBytes 26 = .ok (.aload_n 1, 1) := by decide +kernel
theorem d_Edges_countSharedBytes_27 : decode b_Edges_countSharedBytes 27 = .ok (.getfield 50, 3) := by decide +kernel
theorem d_Edges_countSharedBytes_30 : decode b_Edges_countSharedBytes 30 = .ok (.iload_n 3, 1) := by decide +kernel
theorem d_Edges_countSharedBytes_31 : decode b_Edges_countSharedBytes 31 = .ok (.iaload, 1) := by decide +kernel
theorem d_Edges_countSharedBytes_32 : decode b_Edges_countSharedBytes 32 = .ok (.bipush 8, 2) := by decide +kernel
theorem d_Edges_countSharedBytes_34 : decode b_Edges_countSharedBytes 34 = .ok (.ishr, 1) := by decide +kernel
theorem d_Edges_countSharedBytes_35 : decode b_Edges_countSharedBytes 35 = .ok (.aload_n 2, 1) := by decide +kernel
theorem d_Edges_countSharedBytes_36 : decode b_Edges_countSharedBytes 36 = .ok (.getfield 50, 3) := by decide +kernel
theorem d_Edges_countSharedBytes_39 : decode b_Edges_countSharedBytes 39 = .ok (.iload_n 3, 1) := by decide +kernel
theorem d_Edges_countSharedBytes_40 : decode b_Edges_countSharedBytes 40 = .ok (.iaload, 1) := by decide +kernel
theorem d_Edges_countSharedBytes_41 : decode b_Edges_countSharedBytes 41 = .ok (.bipush 8, 2) := by decide +kernel
theorem d_Edges_countSharedBytes_43 : decode b_Edges_countSharedBytes 43 = .ok (.ishr, 1) := by decide +kernel
theorem d_Edges_countSharedBytes_44 : decode b_Edges_countSharedBytes 44 = .ok (.if_icmp .ne 7, 3) := by decide +kernel
theorem d_Edges_countSharedBytes_47 : decode b_Edges_countSharedBytes 47 = .ok (.iconst 1, 1) := by decide +kernel
theorem d_Edges_countSharedBytes_48 : decode b_Edges_countSharedBytes 48 = .ok (.goto 4, 3) := by decide +kernel
theorem d_Edges_countSharedBytes_51 : decode b_Edges_countSharedBytes 51 = .ok (.iconst 0, 1) := by decide +kernel
theorem d_Edges_countSharedBytes_52 : decode b_Edges_countSharedBytes 52 = .ok (.istore 4, 2) := by decide +kernel
theorem d_Edges_countSharedBytes_54 : decode b_Edges_countSharedBytes 54 = .ok (.iconst 2, 1) := by decide +kernel
theorem d_Edges_countSharedBytes_55 : decode b_Edges_countSharedBytes 55 = .ok (.iload_n 3, 1) := by decide +kernel
theorem d_Edges_countSharedBytes_56 : decode b_Edges_countSharedBytes 56 = .ok (.imul, 1) := by decide +kernel
theorem d_Edges_countSharedBytes_57 : decode b_Edges_countSharedBytes 57 = .ok (.iload 4, 2) := by decide +kernel
theorem d_Edges_countSharedBytes_59 : decode b_Edges_countSharedBytes 59 = .ok (.ifCond .eq 7, 3) := by decide +kernel
theorem d_Edges_countSharedBytes_62 : decode b_Edges_countSharedBytes 62 = .ok (.iconst 1, 1) := by decide +kernel
theorem d_Edges_countSharedBytes_63 : decode b_Edges_countSharedBytes 63 = .ok (.goto 4, 3) := by decide +kernel
theorem d_Edges_countSharedBytes_66 : decode b_Edges_countSharedBytes 66 = .ok (.iconst 0, 1) := by decide +kernel
theorem d_Edges_countSharedBytes_67 : decode b_Edges_countSharedBytes 67 = .ok (.iadd, 1) := by decide +kernel
theorem d_Edges_countSharedBytes_68 : decode b_Edges_countSharedBytes 68 = .ok (.ireturn, 1) := by decide +kernel
theorem d_Edges_isNewText_0 : decode b_Edges_isNewText 0 = .ok (.iload_n 1, 1) := by decide +kernel
theorem d_Edges_isNewText_1 : decode b_Edges_isNewText 1 = .ok (.iconst 1, 1) := by decide +kernel
theorem d_Edges_isNewText_2 : decode b_Edges_isNewText 2 = .ok (.isub, 1) := by decide +kernel
theorem d_Edges_isNewText_3 : decode b_Edges_isNewText 3 = .ok (.istore_n 2, 1) := by decide +kernel
theorem d_Edges_isNewText_4 : decode b_Edges_isNewText 4 = .ok (.iload_n 2, 1) := by decide +kernel
theorem d_Edges_isNewText_5 : decode b_Edges_isNewText 5 = .ok (.ifCond .lt 41, 3) := by decide +kernel
theorem d_Edges_isNewText_8 : decode b_Edges_isNewText 8 = .ok (.aload_n 0, 1) := by decide +kernel
theorem d_Edges_isNewText_9 : decode b_Edges_isNewText 9 = .ok (.getfield 9, 3) := by decide +kernel
theorem d_Edges_isNewText_12 : decode b_Edges_isNewText 12 = .ok (.iload_n 2, 1) := by decide +kernel
theorem d_Edges_isNewText_13 : decode b_Edges_isNewText 13 = .ok (.iaload, 1) := by decide +kernel
theorem d_Edges_isNewText_14 : decode b_Edges_isNewText 14 = .ok (.aload_n 0, 1) := by decide +kernel
theorem d_Edges_isNewText_15 : decode b_Edges_isNewText 15 = .ok (.getfield 9, 3) := by decide +kernel
theorem d_Edges_isNewText_18 : decode b_Edges_isNewText 18 = .ok (.iload_n 1, 1) := by decide +kernel
theorem d_Edges_isNewText_19 : decode b_Edges_isNewText 19 = .ok (.iaload, 1) := by decide +kernel
theorem d_Edges_isNewText_20 : decode b_Edges_isNewText 20 = .ok (.if_icmp .lt 26, 3) := by decide +kernel
theorem d_Edges_isNewText_23 : decode b_Edges_isNewText 23 = .ok (.aload_n 0, 1) := by decide +kernel
theorem d_Edges_isNewText_24 : decode b_Edges_isNewText 24 = .ok (.getfield 9, 3) := by decide +kernel
theorem d_Edges_isNewText_27 : decode b_Edges_isNewText 27 = .ok (.iload_n 2, 1) := by decide +kernel
theorem d_Edges_isNewText_28 : decode b_Edges_isNewText 28 = .ok (.iaload, 1) := by decide +kernel
theorem d_Edges_isNewText_29 : decode b_Edges_isNewText 29 = .ok (.aload_n 0, 1) := by decide +kernel
theorem d_Edges_isNewText_30 : decode b_Edges_isNewText 30 = .ok (.getfield 9, 3) := by decide +kernel
theorem d_Edges_isNewText_33 : decode b_Edges_isNewText 33 = .ok (.iload_n 1, 1) := by decide +kernel
theorem d_Edges_isNewText_34 : decode b_Edges_isNewText 34 = .ok (.iaload, 1) := by decide +kernel
theorem d_Edges_isNewText_35 : decode b_Edges_isNewText 35 = .ok (.if_icmp .ne 5, 3) := by decide +kernel
theorem d_Edges_isNewText_38 : decode b_Edges_isNewText 38 = .ok (.iconst 0, 1) := by decide +kernel
theorem d_Edges_isNewText_39 : decode b_Edges_isNewText 39 = .ok (.ireturn, 1) := by decide +kernel
theorem d_Edges_isNewText_40 : decode b_Edges_isNewText 40 = .ok (.iinc 2 (-1), 3) := by decide +kernel
theorem d_Edges_isNewText_43 : decode b_Edges_isNewText 43 = .ok (.goto (-39), 3) := by decide +kernel
theorem d_Edges_isNewText_46 : decode b_Edges_isNewText 46 = .ok (.iconst 1, 1) := by decide +kernel
theorem d_Edges_isNewText_47 : decode b_Edges_isNewText 47 = .ok (.ireturn, 1) := by decide +kernel
theorem d_Edges_fan_0 : decode b_Edges_fan 0 = .ok (.aload_n 0, 1) := by decide +kernel
theorem d_Edges_fan_1 : decode b_Edges_fan 1 = .ok (.getfield 9, 3) := by decide +kernel
theorem d_Edges_fan_4 : decode b_Edges_fan 4 = .ok (.iload_n 1, 1) := by decide +kernel
theorem d_Edges_fan_5 : decode b_Edges_fan 5 = .ok (.iaload, 1) := by decide +kernel
theorem d_Edges_fan_6 : decode b_Edges_fan 6 = .ok (.istore 4, 2) := by decide +kernel
theorem d_Edges_fan_8 : decode b_Edges_fan 8 = .ok (.iconst 2, 1) := by decide +kernel
theorem d_Edges_fan_9 : decode b_Edges_fan 9 = .ok (.aload_n 3, 1) := by decide +kernel
theorem d_Edges_fan_10 : decode b_Edges_fan 10 = .ok (.getfield 47, 3) := by decide +kernel
theorem d_Edges_fan_13 : decode b_Edges_fan 13 = .ok (.imul, 1) := by decide +kernel
theorem d_Edges_fan_14 : decode b_Edges_fan 14 = .ok (.iload 4, 2) := by decide +kernel
theorem d_Edges_fan_16 : decode b_Edges_fan 16 = .ok (.if_icmp .ne 7, 3) := by decide +kernel
theorem d_Edges_fan_19 : decode b_Edges_fan 19 = .ok (.iconst 0, 1) := by decide +kernel
theorem d_Edges_fan_20 : decode b_Edges_fan 20 = .ok (.goto 4, 3) := by decide +kernel
theorem d_Edges_fan_23 : decode b_Edges_fan 23 = .ok (.iconst 1, 1) := by decide +kernel
theorem d_Edges_fan_24 : decode b_Edges_fan 24 = .ok (.istore 5, 2) := by decide +kernel
theorem d_Edges_fan_26 : decode b_Edges_fan 26 = .ok (.iload_n 1, 1) := by decide +kernel
theorem d_Edges_fan_27 : decode b_Edges_fan 27 = .ok (.istore 6, 2) := by decide +kernel
theorem d_Edges_fan_29 : decode b_Edges_fan 29 = .ok (.iload 6, 2) := by decide +kernel
theorem d_Edges_fan_31 : decode b_Edges_fan 31 = .ok (.iload_n 2, 1) := by decide +kernel
theorem d_Edges_fan_32 : decode b_Edges_fan 32 = .ok (.if_icmp .ge 36, 3) := by decide +kernel
theorem d_Edges_fan_35 : decode b_Edges_fan 35 = .ok (.aload_n 0, 1) := by decide +kernel
theorem d_Edges_fan_36 : decode b_Edges_fan 36 = .ok (.getfield 9, 3) := by decide +kernel
theorem d_Edges_fan_39 : decode b_Edges_fan 39 = .ok (.iload 6, 2) := by decide +kernel
theorem d_Edges_fan_41 : decode b_Edges_fan 41 = .ok (.iaload, 1) := by decide +kernel
theorem d_Edges_fan_42 : decode b_Edges_fan 42 = .ok (.iload 4, 2) := by decide +kernel
theorem d_Edges_fan_44 : decode b_Edges_fan 44 = .ok (.if_icmp .lt 24, 3) := by decide +kernel
theorem d_Edges_fan_47 : decode b_Edges_fan 47 = .ok (.aload_n 0, 1) := by decide +kernel
theorem d_Edges_fan_48 : decode b_Edges_fan 48 = .ok (.getfield 9, 3) := by decide +kernel
theorem d_Edges_fan_51 : decode b_Edges_fan 51 = .ok (.iload 6, 2) := by decide +kernel
theorem d_Edges_fan_53 : decode b_Edges_fan 53 = .ok (.iaload, 1) := by decide +kernel
theorem d_Edges_fan_54 : decode b_Edges_fan 54 = .ok (.iload 4, 2) := by decide +kernel
theorem d_Edges_fan_56 : decode b_Edges_fan 56 = .ok (.if_icmp .ne 6, 3) := by decide +kernel
theorem d_Edges_fan_59 : decode b_Edges_fan 59 = .ok (.iinc 5 1, 3) := by decide +kernel
theorem d_Edges_fan_62 : decode b_Edges_fan 62 = .ok (.iinc 6 1, 3) := by decide +kernel
theorem d_Edges_fan_65 : decode b_Edges_fan 65 = .ok (.goto (-36), 3) := by decide +kernel
theorem d_Edges_fan_68 : decode b_Edges_fan 68 = .ok (.iload 5, 2) := by decide +kernel
theorem d_Edges_fan_70 : decode b_Edges_fan 70 = .ok (.ireturn, 1) := by decide +kernel
theorem d_Edges_depth_0 : decode b_Edges_depth 0 = .ok (.iconst 0, 1) := by decide +kernel
theorem d_Edges_depth_1 : decode b_Edges_depth 1 = .ok (.istore_n 3, 1) := by decide +kernel
theorem d_Edges_depth_2 : decode b_Edges_depth 2 = .ok (.iload_n 3, 1) := by decide +kernel
theorem d_Edges_depth_3 : decode b_Edges_depth 3 = .ok (.aload_n 0, 1) := by decide +kernel
theorem d_Edges_depth_4 : decode b_Edges_depth 4 = .ok (.getfield 15, 3) := by decide +kernel
theorem d_Edges_depth_7 : decode b_Edges_depth 7 = .ok (.arraylength, 1) := by decide +kernel
theorem d_Edges_depth_8 : decode b_Edges_depth 8 = .ok (.if_icmp .ge 16, 3) := by decide +kernel
theorem d_Edges_depth_11 : decode b_Edges_depth 11 = .ok (.aload_n 0, 1) := by decide +kernel
theorem d_Edges_depth_12 : decode b_Edges_depth 12 = .ok (.getfield 15, 3) := by decide +kernel
theorem d_Edges_depth_15 : decode b_Edges_depth 15 = .ok (.iload_n 3, 1) := by decide +kernel
theorem d_Edges_depth_16 : decode b_Edges_depth 16 = .ok (.iconst 0, 1) := by decide +kernel
theorem d_Edges_depth_17 : decode b_Edges_depth 17 = .ok (.bastore, 1) := by decide +kernel
theorem d_Edges_depth_18 : decode b_Edges_depth 18 = .ok (.iinc 3 1, 3) := by decide +kernel
theorem d_Edges_depth_21 : decode b_Edges_depth 21 = .ok (.goto (-19), 3) := by decide +kernel
theorem d_Edges_depth_24 : decode b_Edges_depth 24 = .ok (.iconst 0, 1) := by decide +kernel
theorem d_Edges_depth_25 : decode b_Edges_depth 25 = .ok (.istore_n 3, 1) := by decide +kernel
theorem d_Edges_depth_26 : decode b_Edges_depth 26 = .ok (.iconst 0, 1) := by decide +kernel
theorem d_Edges_depth_27 : decode b_Edges_depth 27 = .ok (.istore 4, 2) := by decide +kernel
theorem d_Edges_depth_29 : decode b_Edges_depth 29 = .ok (.iload 4, 2) := by decide +kernel
theorem d_Edges_depth_31 : decode b_Edges_depth 31 = .ok (.aload_n 1, 1) := by decide +kernel
theorem d_Edges_depth_32 : decode b_Edges_depth 32 = .ok (.getfield 19, 3) := by decide +kernel
theorem d_Edges_depth_35 : decode b_Edges_depth 35 = .ok (.if_icmp .ge 60, 3) := by decide +kernel
theorem d_Edges_depth_38 : decode b_Edges_depth 38 = .ok (.iload 4, 2) := by decide +kernel
theorem d_Edges_depth_40 : decode b_Edges_depth 40 = .ok (.iload_n 2, 1) := by decide +kernel
theorem d_Edges_depth_41 : decode b_Edges_depth 41 = .ok (.if_icmp .eq 48, 3) := by decide +kernel
theorem d_Edges_depth_44 : decode b_Edges_depth 44 = .ok (.aload_n 0, 1) := by decide +kernel
theorem d_Edges_depth_45 : decode b_Edges_depth 45 = .ok (.aload_n 1, 1) := by decide +kernel
theorem d_Edges_depth_46 : decode b_Edges_depth 46 = .ok (.getfield 25, 3) := by decide +kernel
theorem d_Edges_depth_49 : decode b_Edges_depth 49 = .ok (.iload_n 2, 1) := by decide +kernel
theorem d_Edges_depth_50 : decode b_Edges_depth 50 = .ok (.aaload, 1) := by decide +kernel
theorem d_Edges_depth_51 : decode b_Edges_depth 51 = .ok (.aload_n 1, 1) := by decide +kernel
theorem d_Edges_depth_52 : decode b_Edges_depth 52 = .ok (.getfield 25, 3) := by decide +kernel
theorem d_Edges_depth_55 : decode b_Edges_depth 55 = .ok (.iload 4, 2) := by decide +kernel
theorem d_Edges_depth_57 : decode b_Edges_depth 57 = .ok (.aaload, 1) := by decide +kernel
theorem d_Edges_depth_58 : decode b_Edges_depth 58 = .ok (.invokevirtual 53, 3) := by decide +kernel
theorem d_Edges_depth_61 : decode b_Edges_depth 61 = .ok (.istore 5, 2) := by decide +kernel
theorem d_Edges_depth_63 : decode b_Edges_depth 63 = .ok (.iload_n 3, 1) := by decide +kernel
theorem d_Edges_depth_64 : decode b_Edges_depth 64 = .ok (.aload_n 0, 1) := by decide +kernel
theorem d_Edges_depth_65 : decode b_Edges_depth 65 = .ok (.getfield 15, 3) := by decide +kernel
theorem d_Edges_depth_68 : decode b_Edges_depth 68 = .ok (.iload 5, 2) := by decide +kernel
theorem d_Edges_depth_70 : decode b_Edges_depth 70 = .ok (.baload, 1) := by decide +kernel
theorem d_Edges_depth_71 : decode b_Edges_depth 71 = .ok (.ifCond .eq 7, 3) := by decide +kernel
theorem d_Edges_depth_74 : decode b_Edges_depth 74 = .ok (.iconst 0, 1) := by decide +kernel
theorem d_Edges_depth_75 : decode b_Edges_depth 75 = .ok (.goto 4, 3) := by decide +kernel
theorem d_Edges_depth_78 : decode b_Edges_depth 78 = .ok (.iconst 1, 1) := by decide +kernel
theorem d_Edges_depth_79 : decode b_Edges_depth 79 = .ok (.iadd, 1) := by decide +kernel
theorem d_Edges_depth_80 : decode b_Edges_depth 80 = .ok (.istore_n 3, 1) := by decide +kernel
theorem d_Edges_depth_81 : decode b_Edges_depth 81 = .ok (.aload_n 0, 1) := by decide +kernel
theorem d_Edges_depth_82 : decode b_Edges_depth 82 = .ok (.getfield 15, 3) := by decide +kernel
theorem d_Edges_depth_85 : decode b_Edges_depth 85 = .ok (.iload 5, 2) := by decide +kernel
theorem d_Edges_depth_87 : decode b_Edges_depth 87 = .ok (.iconst 1, 1) := by decide +kernel
theorem d_Edges_depth_88 : decode b_Edges_depth 88 = .ok (.bastore, 1) := by decide +kernel
theorem d_Edges_depth_89 : decode b_Edges_depth 89 = .ok (.iinc 4 1, 3) := by decide +kernel
theorem d_Edges_depth_92 : decode b_Edges_depth 92 = .ok (.goto (-63), 3) := by decide +kernel
theorem d_Edges_depth_95 : decode b_Edges_depth 95 = .ok (.iload_n 3, 1) := by decide +kernel
theorem d_Edges_depth_96 : decode b_Edges_depth 96 = .ok (.ireturn, 1) := by decide +kernel
theorem d_Edges_firstDifferentBit_0 : decode b_Edges_firstDifferentBit 0 = .ok (.aload_n 1, 1) := by decide +kernel
theorem d_Edges_firstDifferentBit_1 : decode b_Edges_firstDifferentBit 1 = .ok (.aload_n 2, 1) := by decide +kernel
theorem d_Edges_firstDifferentBit_2 : decode b_Edges_firstDifferentBit 2 = .ok (.invokevirtual 41, 3) := by decide +kernel
theorem d_Edges_firstDifferentBit_5 : decode b_Edges_firstDifferentBit 5 = .ok (.istore_n 3, 1) := by decide +kernel
theorem d_Edges_firstDifferentBit_6 : decode b_Edges_firstDifferentBit 6 = .ok (.iload_n 3, 1) := by decide +kernel
theorem d_Edges_firstDifferentBit_7 : decode b_Edges_firstDifferentBit 7 = .ok (.bipush 17, 2) := by decide +kernel
theorem d_Edges_firstDifferentBit_9 : decode b_Edges_firstDifferentBit 9 = .ok (.imul, 1) := by decide +kernel
theorem d_Edges_firstDifferentBit_10 : decode b_Edges_firstDifferentBit 10 = .ok (.istore 4, 2) := by decide +kernel
theorem d_Edges_firstDifferentBit_12 : decode b_Edges_firstDifferentBit 12 = .ok (.iload_n 3, 1) := by decide +kernel
theorem d_Edges_firstDifferentBit_13 : decode b_Edges_firstDifferentBit 13 = .ok (.aload_n 1, 1) := by decide +kernel
theorem d_Edges_firstDifferentBit_14 : decode b_Edges_firstDifferentBit 14 = .ok (.getfield 47, 3) := by decide +kernel
theorem d_Edges_firstDifferentBit_17 : decode b_Edges_firstDifferentBit 17 = .ok (.if_icmp .eq 11, 3) := by decide +kernel
theorem d_Edges_firstDifferentBit_20 : decode b_Edges_firstDifferentBit 20 = .ok (.iload_n 3, 1) := by decide +kernel
theorem d_Edges_firstDifferentBit_21 : decode b_Edges_firstDifferentBit 21 = .ok (.aload_n 2, 1) := by decide +kernel
theorem d_Edges_firstDifferentBit_22 : decode b_Edges_firstDifferentBit 22 = .ok (.getfield 47, 3) := by decide +kernel
theorem d_Edges_firstDifferentBit_25 : decode b_Edges_firstDifferentBit 25 = .ok (.if_icmp .ne 6, 3) := by decide +kernel
theorem d_Edges_firstDifferentBit_28 : decode b_Edges_firstDifferentBit 28 = .ok (.iload 4, 2) := by decide +kernel
theorem d_Edges_firstDifferentBit_30 : decode b_Edges_firstDifferentBit 30 = .ok (.ireturn, 1) := by decide +kernel
theorem d_Edges_firstDifferentBit_31 : decode b_Edges_firstDifferentBit 31 = .ok (.aload_n 1, 1) := by decide +kernel
theorem d_Edges_firstDifferentBit_32 : decode b_Edges_firstDifferentBit 32 = .ok (.getfield 50, 3) := by decide +kernel
theorem d_Edges_firstDifferentBit_35 : decode b_Edges_firstDifferentBit 35 = .ok (.iload_n 3, 1) := by decide +kernel
theorem d_Edges_firstDifferentBit_36 : decode b_Edges_firstDifferentBit 36 = .ok (.iaload, 1) := by decide +kernel
theorem d_Edges_firstDifferentBit_37 : decode b_Edges_firstDifferentBit 37 = .ok (.aload_n 2, 1) := by decide +kernel
theorem d_Edges_firstDifferentBit_38 : decode b_Edges_firstDifferentBit 38 = .ok (.getfield 50, 3) := by decide +kernel
theorem d_Edges_firstDifferentBit_41 : decode b_Edges_firstDifferentBit 41 = .ok (.iload_n 3, 1) := by decide +kernel
theorem d_Edges_firstDifferentBit_42 : decode b_Edges_firstDifferentBit 42 = .ok (.iaload, 1) := by decide +kernel
theorem d_Edges_firstDifferentBit_43 : decode b_Edges_firstDifferentBit 43 = .ok (.ixor, 1) := by decide +kernel
theorem d_Edges_firstDifferentBit_44 : decode b_Edges_firstDifferentBit 44 = .ok (.istore 5, 2) := by decide +kernel
theorem d_Edges_firstDifferentBit_46 : decode b_Edges_firstDifferentBit 46 = .ok (.bipush 15, 2) := by decide +kernel
theorem d_Edges_firstDifferentBit_48 : decode b_Edges_firstDifferentBit 48 = .ok (.istore 6, 2) := by decide +kernel
theorem d_Edges_firstDifferentBit_50 : decode b_Edges_firstDifferentBit 50 = .ok (.iload 6, 2) := by decide +kernel
theorem d_Edges_firstDifferentBit_52 : decode b_Edges_firstDifferentBit 52 = .ok (.ifCond .le 17, 3) := by decide +kernel
theorem d_Edges_firstDifferentBit_55 : decode b_Edges_firstDifferentBit 55 = .ok (.iload 5, 2) := by decide +kernel
theorem d_Edges_firstDifferentBit_57 : decode b_Edges_firstDifferentBit 57 = .ok (.iload 6, 2) := by decide +kernel
theorem d_Edges_firstDifferentBit_59 : decode b_Edges_firstDifferentBit 59 = .ok (.ishr, 1) := by decide +kernel
theorem d_Edges_firstDifferentBit_60 : decode b_Edges_firstDifferentBit 60 = .ok (.ifCond .ne 9, 3) := by decide +kernel
theorem d_Edges_firstDifferentBit_63 : decode b_Edges_firstDifferentBit 63 = .ok (.iinc 6 (-1), 3) := by decide +kernel
theorem d_Edges_firstDifferentBit_66 : decode b_Edges_firstDifferentBit 66 = .ok (.goto (-16), 3) := by decide +kernel
theorem d_Edges_firstDifferentBit_69 : decode b_Edges_firstDifferentBit 69 = .ok (.iload 4, 2) := by decide +kernel
theorem d_Edges_firstDifferentBit_71 : decode b_Edges_firstDifferentBit 71 = .ok (.bipush 16, 2) := by decide +kernel
theorem d_Edges_firstDifferentBit_73 : decode b_Edges_firstDifferentBit 73 = .ok (.iadd, 1) := by decide +kernel
theorem d_Edges_firstDifferentBit_74 : decode b_Edges_firstDifferentBit 74 = .ok (.iload 6, 2) := by decide +kernel
theorem d_Edges_firstDifferentBit_76 : decode b_Edges_firstDifferentBit 76 = .ok (.isub, 1) := by decide +kernel
theorem d_Edges_firstDifferentBit_77 : decode b_Edges_firstDifferentBit 77 = .ok (.ireturn, 1) := by decide +kernel
theorem d_Automaton_init_0 : decode b_Automaton_init 0 = .ok (.aload_n 0, 1) := by decide +kernel
theorem d_Automaton_init_1 : decode b_Automaton_init 1 = .ok (.invokespecial 3, 3) := by decide +kernel
theorem d_Automaton_init_4 : decode b_Automaton_init 4 = .ok (.aload_n 0, 1) := by decide +kernel
theorem d_Automaton_init_5 : decode b_Automaton_init 5 = .ok (.bipush 64, 2) := by decide +kernel
theorem d_Automaton_init_7 : decode b_Automaton_init 7 = .ok (.anewarray 9, 3) := by decide +kernel
theorem d_Automaton_init_10 : decode b_Automaton_init 10 = .ok (.putfield 11, 3) := by decide +kernel
theorem d_Automaton_init_13 : decode b_Automaton_init 13 = .ok (.iconst 0, 1) := by decide +kernel
theorem d_Automaton_init_14 : decode b_Automaton_init 14 = .ok (.istore_n 1, 1) := by decide +kernel
theorem d_Automaton_init_15 : decode b_Automaton_init 15 = .ok (.iload_n 1, 1) := by decide +kernel
theorem d_Automaton_init_16 : decode b_Automaton_init 16 = .ok (.bipush 64, 2) := by decide +kernel
theorem d_Automaton_init_18 : decode b_Automaton_init 18 = .ok (.if_icmp .ge 22, 3) := by decide +kernel
theorem d_Automaton_init_21 : decode b_Automaton_init 21 = .ok (.aload_n 0, 1) := by decide +kernel
theorem d_Automaton_init_22 : decode b_Automaton_init 22 = .ok (.getfield 11, 3) := by decide +kernel
theorem d_Automaton_init_25 : decode b_Automaton_init 25 = .ok (.iload_n 1, 1) := by decide +kernel
theorem d_Automaton_init_26 : decode b_Automaton_init 26 = .ok (.new 9, 3) := by decide +kernel
theorem d_Automaton_init_29 : decode b_Automaton_init 29 = .ok (.dup, 1) := by decide +kernel
theorem d_Automaton_init_30 : decode b_Automaton_init 30 = .ok (.invokespecial 17, 3) := by decide +kernel
theorem d_Automaton_init_33 : decode b_Automaton_init 33 = .ok (.aastore, 1) := by decide +kernel
theorem d_Automaton_init_34 : decode b_Automaton_init 34 = .ok (.iinc 1 1, 3) := by decide +kernel
theorem d_Automaton_init_37 : decode b_Automaton_init 37 = .ok (.goto (-22), 3) := by decide +kernel
theorem d_Automaton_init_40 : decode b_Automaton_init 40 = .ok (.aload_n 0, 1) := by decide +kernel
theorem d_Automaton_init_41 : decode b_Automaton_init 41 = .ok (.sipush 513, 3) := by decide +kernel
theorem d_Automaton_init_44 : decode b_Automaton_init 44 = .ok (.newarray .int, 2) := by decide +kernel
theorem d_Automaton_init_46 : decode b_Automaton_init 46 = .ok (.putfield 18, 3) := by decide +kernel
theorem d_Automaton_init_49 : decode b_Automaton_init 49 = .ok (.aload_n 0, 1) := by decide +kernel
theorem d_Automaton_init_50 : decode b_Automaton_init 50 = .ok (.sipush 513, 3) := by decide +kernel
theorem d_Automaton_init_53 : decode b_Automaton_init 53 = .ok (.newarray .int, 2) := by decide +kernel
theorem d_Automaton_init_55 : decode b_Automaton_init 55 = .ok (.putfield 22, 3) := by decide +kernel
theorem d_Automaton_init_58 : decode b_Automaton_init 58 = .ok (.aload_n 0, 1) := by decide +kernel
theorem d_Automaton_init_59 : decode b_Automaton_init 59 = .ok (.sipush 513, 3) := by decide +kernel
theorem d_Automaton_init_62 : decode b_Automaton_init 62 = .ok (.newarray .int, 2) := by decide +kernel
theorem d_Automaton_init_64 : decode b_Automaton_init 64 = .ok (.putfield 25, 3) := by decide +kernel
theorem d_Automaton_init_67 : decode b_Automaton_init 67 = .ok (.aload_n 0, 1) := by decide +kernel
theorem d_Automaton_init_68 : decode b_Automaton_init 68 = .ok (.sipush 513, 3) := by decide +kernel
theorem d_Automaton_init_71 : decode b_Automaton_init 71 = .ok (.newarray .int, 2) := by decide +kernel
theorem d_Automaton_init_73 : decode b_Automaton_init 73 = .ok (.putfield 28, 3) := by decide +kernel
theorem d_Automaton_init_76 : decode b_Automaton_init 76 = .ok (.aload_n 0, 1) := by decide +kernel
theorem d_Automaton_init_77 : decode b_Automaton_init 77 = .ok (.sipush 513, 3) := by decide +kernel
theorem d_Automaton_init_80 : decode b_Automaton_init 80 = .ok (.newarray .int, 2) := by decide +kernel
theorem d_Automaton_init_82 : decode b_Automaton_init 82 = .ok (.putfield 31, 3) := by decide +kernel
theorem d_Automaton_init_85 : decode b_Automaton_init 85 = .ok (.return_, 1) := by decide +kernel
theorem d_Automaton_become_0 : decode b_Automaton_become 0 = .ok (.aload_n 0, 1) := by decide +kernel
theorem d_Automaton_become_1 : decode b_Automaton_become 1 = .ok (.aload_n 1, 1) := by decide +kernel
theorem d_Automaton_become_2 : decode b_Automaton_become 2 = .ok (.invokevirtual 34, 3) := by decide +kernel
theorem d_Automaton_become_5 : decode b_Automaton_become 5 = .ok (.putfield 40, 3) := by decide +kernel
theorem d_Automaton_become_8 : decode b_Automaton_become 8 = .ok (.iconst 0, 1) := by decide +kernel
theorem d_Automaton_become_9 : decode b_Automaton_become 9 = .ok (.istore_n 2, 1) := by decide +kernel
theorem d_Automaton_become_10 : decode b_Automaton_become 10 = .ok (.iload_n 2, 1) := by decide +kernel
theorem d_Automaton_become_11 : decode b_Automaton_become 11 = .ok (.aload_n 0, 1) := by decide +kernel
theorem d_Automaton_become_12 : decode b_Automaton_become 12 = .ok (.getfield 40, 3) := by decide +kernel
theorem d_Automaton_become_15 : decode b_Automaton_become 15 = .ok (.if_icmp .ge 32, 3) := by decide +kernel
theorem d_Automaton_become_18 : decode b_Automaton_become 18 = .ok (.aload_n 0, 1) := by decide +kernel
theorem d_Automaton_become_19 : decode b_Automaton_become 19 = .ok (.getfield 11, 3) := by decide +kernel
theorem d_Automaton_become_22 : decode b_Automaton_become 22 = .ok (.iload_n 2, 1) := by decide +kernel
theorem d_Automaton_become_23 : decode b_Automaton_become 23 = .ok (.aaload, 1) := by decide +kernel
theorem d_Automaton_become_24 : decode b_Automaton_become 24 = .ok (.aload_n 1, 1) := by decide +kernel
theorem d_Automaton_become_25 : decode b_Automaton_become 25 = .ok (.getfield 43, 3) := by decide +kernel
theorem d_Automaton_become_28 : decode b_Automaton_become 28 = .ok (.getfield 47, 3) := by decide +kernel
theorem d_Automaton_become_31 : decode b_Automaton_become 31 = .ok (.aload_n 1, 1) := by decide +kernel
theorem d_Automaton_become_32 : decode b_Automaton_become 32 = .ok (.getfield 50, 3) := by decide +kernel
theorem d_Automaton_become_35 : decode b_Automaton_become 35 = .ok (.iload_n 2, 1) := by decide +kernel
theorem d_Automaton_become_36 : decode b_Automaton_become 36 = .ok (.iadd, 1) := by decide +kernel
theorem d_Automaton_become_37 : decode b_Automaton_become 37 = .ok (.aaload, 1) := by decide +kernel
theorem d_Automaton_become_38 : decode b_Automaton_become 38 = .ok (.invokevirtual 53, 3) := by decide +kernel
theorem d_Automaton_become_41 : decode b_Automaton_become 41 = .ok (.iinc 2 1, 3) := by decide +kernel
theorem d_Automaton_become_44 : decode b_Automaton_become 44 = .ok (.goto (-34), 3) := by decide +kernel
theorem d_Automaton_become_47 : decode b_Automaton_become 47 = .ok (.aload_n 0, 1) := by decide +kernel
theorem d_Automaton_become_48 : decode b_Automaton_become 48 = .ok (.invokevirtual 57, 3) := by decide +kernel
theorem d_Automaton_become_51 : decode b_Automaton_become 51 = .ok (.aload_n 0, 1) := by decide +kernel
theorem d_Automaton_become_52 : decode b_Automaton_become 52 = .ok (.invokevirtual 60, 3) := by decide +kernel
theorem d_Automaton_become_55 : decode b_Automaton_become 55 = .ok (.return_, 1) := by decide +kernel
theorem d_Automaton_listPrefixes_0 : decode b_Automaton_listPrefixes 0 = .ok (.aload_n 0, 1) := by decide +kernel
theorem d_Automaton_listPrefixes_1 : decode b_Automaton_listPrefixes 1 = .ok (.iconst 0, 1) := by decide +kernel
theorem d_Automaton_listPrefixes_2 : decode b_Automaton_listPrefixes 2 = .ok (.putfield 63, 3) := by decide +kernel
theorem d_Automaton_listPrefixes_5 : decode b_Automaton_listPrefixes 5 = .ok (.iconst 0, 1) := by decide +kernel
theorem d_Automaton_listPrefixes_6 : decode b_Automaton_listPrefixes 6 = .ok (.istore_n 1, 1) := by decide +kernel
theorem d_Automaton_listPrefixes_7 : decode b_Automaton_listPrefixes 7 = .ok (.iload_n 1, 1) := by decide +kernel
theorem d_Automaton_listPrefixes_8 : decode b_Automaton_listPrefixes 8 = .ok (.aload_n 0, 1) := by decide +kernel
theorem d_Automaton_listPrefixes_9 : decode b_Automaton_listPrefixes 9 = .ok (.getfield 40, 3) := by decide +kernel
theorem d_Automaton_listPrefixes_12 : decode b_Automaton_listPrefixes 12 = .ok (.if_icmp .ge 64, 3) := by decide +kernel
theorem d_Automaton_listPrefixes_15 : decode b_Automaton_listPrefixes 15 = .ok (.iload_n 1, 1) := by decide +kernel
theorem d_Automaton_listPrefixes_16 : decode b_Automaton_listPrefixes 16 = .ok (.ifCond .ne 7, 3) := by decide +kernel
theorem d_Automaton_listPrefixes_19 : decode b_Automaton_listPrefixes 19 = .ok (.iconst 0, 1) := by decide +kernel
theorem d_Automaton_listPrefixes_20 : decode b_Automaton_listPrefixes 20 = .ok (.goto 22, 3) := by decide +kernel
theorem d_Automaton_listPrefixes_23 : decode b_Automaton_listPrefixes 23 = .ok (.aload_n 0, 1) := by decide +kernel
theorem d_Automaton_listPrefixes_24 : decode b_Automaton_listPrefixes 24 = .ok (.getfield 11, 3) := by decide +kernel
theorem d_Automaton_listPrefixes_27 : decode b_Automaton_listPrefixes 27 = .ok (.iload_n 1, 1) := by decide +kernel
theorem d_Automaton_listPrefixes_28 : decode b_Automaton_listPrefixes 28 = .ok (.aaload, 1) := by decide +kernel
theorem d_Automaton_listPrefixes_29 : decode b_Automaton_listPrefixes 29 = .ok (.aload_n 0, 1) := by decide +kernel
theorem d_Automaton_listPrefixes_30 : decode b_Automaton_listPrefixes 30 = .ok (.getfield 11, 3) := by decide +kernel
theorem d_Automaton_listPrefixes_33 : decode b_Automaton_listPrefixes 33 = .ok (.iload_n 1, 1) := by decide +kernel
theorem d_Automaton_listPrefixes_34 : decode b_Automaton_listPrefixes 34 = .ok (.iconst 1, 1) := by decide +kernel
theorem d_Automaton_listPrefixes_35 : decode b_Automaton_listPrefixes 35 = .ok (.isub, 1) := by decide +kernel
theorem d_Automaton_listPrefixes_36 : decode b_Automaton_listPrefixes 36 = .ok (.aaload, 1) := by decide +kernel
theorem d_Automaton_listPrefixes_37 : decode b_Automaton_listPrefixes 37 = .ok (.invokevirtual 66, 3) := by decide +kernel
theorem d_Automaton_listPrefixes_40 : decode b_Automaton_listPrefixes 40 = .ok (.iconst 1, 1) := by decide +kernel
theorem d_Automaton_listPrefixes_41 : decode b_Automaton_listPrefixes 41 = .ok (.iadd, 1) := by decide +kernel
theorem d_Automaton_listPrefixes_42 : decode b_Automaton_listPrefixes 42 = .ok (.istore_n 2, 1) := by decide +kernel
theorem d_Automaton_listPrefixes_43 : decode b_Automaton_listPrefixes 43 = .ok (.iload_n 2, 1) := by decide +kernel
theorem d_Automaton_listPrefixes_44 : decode b_Automaton_listPrefixes 44 = .ok (.istore_n 3, 1) := by decide +kernel
theorem d_Automaton_listPrefixes_45 : decode b_Automaton_listPrefixes 45 = .ok (.iload_n 3, 1) := by decide +kernel
theorem d_Automaton_listPrefixes_46 : decode b_Automaton_listPrefixes 46 = .ok (.aload_n 0, 1) := by decide +kernel
theorem d_Automaton_listPrefixes_47 : decode b_Automaton_listPrefixes 47 = .ok (.getfield 11, 3) := by decide +kernel
theorem d_Automaton_listPrefixes_50 : decode b_Automaton_listPrefixes 50 = .ok (.iload_n 1, 1) := by decide +kernel
theorem d_Automaton_listPrefixes_51 : decode b_Automaton_listPrefixes 51 = .ok (.aaload, 1) := by decide +kernel
theorem d_Automaton_listPrefixes_52 : decode b_Automaton_listPrefixes 52 = .ok (.getfield 70, 3) := by decide +kernel
theorem d_Automaton_listPrefixes_55 : decode b_Automaton_listPrefixes 55 = .ok (.if_icmp .gt 15, 3) := by decide +kernel
theorem d_Automaton_listPrefixes_58 : decode b_Automaton_listPrefixes 58 = .ok (.aload_n 0, 1) := by decide +kernel
theorem d_Automaton_listPrefixes_59 : decode b_Automaton_listPrefixes 59 = .ok (.iload_n 1, 1) := by decide +kernel
theorem d_Automaton_listPrefixes_60 : decode b_Automaton_listPrefixes 60 = .ok (.iload_n 3, 1) := by decide +kernel
theorem d_Automaton_listPrefixes_61 : decode b_Automaton_listPrefixes 61 = .ok (.invokevirtual 73, 3) := by decide +kernel
theorem d_Automaton_listPrefixes_64 : decode b_Automaton_listPrefixes 64 = .ok (.iinc 3 1, 3) := by decide +kernel
theorem d_Automaton_listPrefixes_67 : decode b_Automaton_listPrefixes 67 = .ok (.goto (-22), 3) := by decide +kernel
theorem d_Automaton_listPrefixes_70 : decode b_Automaton_listPrefixes 70 = .ok (.iinc 1 1, 3) := by decide +kernel
theorem d_Automaton_listPrefixes_73 : decode b_Automaton_listPrefixes 73 = .ok (.goto (-66), 3) := by decide +kernel
theorem d_Automaton_listPrefixes_76 : decode b_Automaton_listPrefixes 76 = .ok (.return_, 1) := by decide +kernel
theorem d_Automaton_addPrefix_0 : decode b_Automaton_addPrefix 0 = .ok (.iload_n 1, 1) := by decide +kernel
theorem d_Automaton_addPrefix_1 : decode b_Automaton_addPrefix 1 = .ok (.istore_n 3, 1) := by decide +kernel
theorem d_Automaton_addPrefix_2 : decode b_Automaton_addPrefix 2 = .ok (.iload_n 2, 1) := by decide +kernel
theorem d_Automaton_addPrefix_3 : decode b_Automaton_addPrefix 3 = .ok (.istore 4, 2) := by decide +kernel
theorem d_Automaton_addPrefix_5 : decode b_Automaton_addPrefix 5 = .ok (.iload_n 3, 1) := by decide +kernel
theorem d_Automaton_addPrefix_6 : decode b_Automaton_addPrefix 6 = .ok (.aload_n 0, 1) := by decide +kernel
theorem d_Automaton_addPrefix_7 : decode b_Automaton_addPrefix 7 = .ok (.getfield 40, 3) := by decide +kernel
theorem d_Automaton_addPrefix_10 : decode b_Automaton_addPrefix 10 = .ok (.if_icmp .ge 44, 3) := by decide +kernel
theorem d_Automaton_addPrefix_13 : decode b_Automaton_addPrefix 13 = .ok (.aload_n 0, 1) := by decide +kernel
theorem d_Automaton_addPrefix_14 : decode b_Automaton_addPrefix 14 = .ok (.getfield 11, 3) := by decide +kernel
theorem d_Automaton_addPrefix_17 : decode b_Automaton_addPrefix 17 = .ok (.iload_n 3, 1) := by decide +kernel
theorem d_Automaton_addPrefix_18 : decode b_Automaton_addPrefix 18 = .ok (.aaload, 1) := by decide +kernel
theorem d_Automaton_addPrefix_19 : decode b_Automaton_addPrefix 19 = .ok (.aload_n 0, 1) := by decide +kernel
theorem d_Automaton_addPrefix_20 : decode b_Automaton_addPrefix 20 = .ok (.getfield 11, 3) := by decide +kernel
theorem d_Automaton_addPrefix_23 : decode b_Automaton_addPrefix 23 = .ok (.iload_n 1, 1) := by decide +kernel
theorem d_Automaton_addPrefix_24 : decode b_Automaton_addPrefix 24 = .ok (.aaload, 1) := by decide +kernel
theorem d_Automaton_addPrefix_25 : decode b_Automaton_addPrefix 25 = .ok (.invokevirtual 66, 3) := by decide +kernel
theorem d_Automaton_addPrefix_28 : decode b_Automaton_addPrefix 28 = .ok (.iload_n 2, 1) := by decide +kernel
theorem d_Automaton_addPrefix_29 : decode b_Automaton_addPrefix 29 = .ok (.if_icmp .lt 25, 3) := by decide +kernel
theorem d_Automaton_addPrefix_32 : decode b_Automaton_addPrefix 32 = .ok (.iload 4, 2) := by decide +kernel
theorem d_Automaton_addPrefix_34 : decode b_Automaton_addPrefix 34 = .ok (.aload_n 0, 1) := by decide +kernel
theorem d_Automaton_addPrefix_35 : decode b_Automaton_addPrefix 35 = .ok (.getfield 11, 3) := by decide +kernel
theorem d_Automaton_addPrefix_38 : decode b_Automaton_addPrefix 38 = .ok (.iload_n 3, 1) := by decide +kernel
theorem d_Automaton_addPrefix_39 : decode b_Automaton_addPrefix 39 = .ok (.aaload, 1) := by decide +kernel
theorem d_Automaton_addPrefix_40 : decode b_Automaton_addPrefix 40 = .ok (.getfield 70, 3) := by decide +kernel
theorem d_Automaton_addPrefix_43 : decode b_Automaton_addPrefix 43 = .ok (.invokestatic 77, 3) := by decide +kernel
theorem d_Automaton_addPrefix_46 : decode b_Automaton_addPrefix 46 = .ok (.istore 4, 2) := by decide +kernel
theorem d_Automaton_addPrefix_48 : decode b_Automaton_addPrefix 48 = .ok (.iinc 3 1, 3) := by decide +kernel
theorem d_Automaton_addPrefix_51 : decode b_Automaton_addPrefix 51 = .ok (.goto (-46), 3) := by decide +kernel
theorem d_Automaton_addPrefix_54 : decode b_Automaton_addPrefix 54 = .ok (.aload_n 0, 1) := by decide +kernel
theorem d_Automaton_addPrefix_55 : decode b_Automaton_addPrefix 55 = .ok (.getfield 18, 3) := by decide +kernel
theorem d_Automaton_addPrefix_58 : decode b_Automaton_addPrefix 58 = .ok (.aload_n 0, 1) := by decide +kernel
theorem d_Automaton_addPrefix_59 : decode b_Automaton_addPrefix 59 = .ok (.getfield 63, 3) := by decide +kernel
theorem d_Automaton_addPrefix_62 : decode b_Automaton_addPrefix 62 = .ok (.iload_n 1, 1) := by decide +kernel
theorem d_Automaton_addPrefix_63 : decode b_Automaton_addPrefix 63 = .ok (.iastore, 1) := by decide +kernel
theorem d_Automaton_addPrefix_64 : decode b_Automaton_addPrefix 64 = .ok (.aload_n 0, 1) := by decide +kernel
theorem d_Automaton_addPrefix_65 : decode b_Automaton_addPrefix 65 = .ok (.getfield 22, 3) := by decide +kernel
theorem d_Automaton_addPrefix_68 : decode b_Automaton_addPrefix 68 = .ok (.aload_n 0, 1) := by decide +kernel
theorem d_Automaton_addPrefix_69 : decode b_Automaton_addPrefix 69 = .ok (.getfield 63, 3) := by decide +kernel
theorem d_Automaton_addPrefix_72 : decode b_Automaton_addPrefix 72 = .ok (.iload_n 3, 1) := by decide +kernel
theorem d_Automaton_addPrefix_73 : decode b_Automaton_addPrefix 73 = .ok (.iastore, 1) := by decide +kernel
theorem d_Automaton_addPrefix_74 : decode b_Automaton_addPrefix 74 = .ok (.aload_n 0, 1) := by decide +kernel
theorem d_Automaton_addPrefix_75 : decode b_Automaton_addPrefix 75 = .ok (.getfield 25, 3) := by decide +kernel
theorem d_Automaton_addPrefix_78 : decode b_Automaton_addPrefix 78 = .ok (.aload_n 0, 1) := by decide +kernel
theorem d_Automaton_addPrefix_79 : decode b_Automaton_addPrefix 79 = .ok (.getfield 63, 3) := by decide +kernel
theorem d_Automaton_addPrefix_82 : decode b_Automaton_addPrefix 82 = .ok (.iload_n 2, 1) := by decide +kernel
theorem d_Automaton_addPrefix_83 : decode b_Automaton_addPrefix 83 = .ok (.iastore, 1) := by decide +kernel
theorem d_Automaton_addPrefix_84 : decode b_Automaton_addPrefix 84 = .ok (.aload_n 0, 1) := by decide +kernel
theorem d_Automaton_addPrefix_85 : decode b_Automaton_addPrefix 85 = .ok (.getfield 28, 3) := by decide +kernel
theorem d_Automaton_addPrefix_88 : decode b_Automaton_addPrefix 88 = .ok (.aload_n 0, 1) := by decide +kernel
theorem d_Automaton_addPrefix_89 : decode b_Automaton_addPrefix 89 = .ok (.getfield 63, 3) := by decide +kernel
theorem d_Automaton_addPrefix_92 : decode b_Automaton_addPrefix 92 = .ok (.iload 4, 2) := by decide +kernel
theorem d_Automaton_addPrefix_94 : decode b_Automaton_addPrefix 94 = .ok (.iload_n 2, 1) := by decide +kernel
theorem d_Automaton_addPrefix_95 : decode b_Automaton_addPrefix 95 = .ok (.isub, 1) := by decide +kernel
theorem d_Automaton_addPrefix_96 : decode b_Automaton_addPrefix 96 = .ok (.iastore, 1) := by decide +kernel
theorem d_Automaton_addPrefix_97 : decode b_Automaton_addPrefix 97 = .ok (.aload_n 0, 1) := by decide +kernel
theorem d_Automaton_addPrefix_98 : decode b_Automaton_addPrefix 98 = .ok (.dup, 1) := by decide +kernel
theorem d_Automaton_addPrefix_99 : decode b_Automaton_addPrefix 99 = .ok (.getfield 63, 3) := by decide +kernel
theorem d_Automaton_addPrefix_102 : decode b_Automaton_addPrefix 102 = .ok (.iconst 1, 1) := by decide +kernel
theorem d_Automaton_addPrefix_103 : decode b_Automaton_addPrefix 103 = .ok (.iadd, 1) := by decide +kernel
theorem d_Automaton_addPrefix_104 : decode b_Automaton_addPrefix 104 = .ok (.putfield 63, 3) := by decide +kernel
theorem d_Automaton_addPrefix_107 : decode b_Automaton_addPrefix 107 = .ok (.return_, 1) := by decide +kernel
theorem d_Automaton_countStates_0 : decode b_Automaton_countStates 0 = .ok (.aload_n 0, 1) := by decide +kernel
theorem d_Automaton_countStates_1 : decode b_Automaton_countStates 1 = .ok (.iconst 0, 1) := by decide +kernel
theorem d_Automaton_countStates_2 : decode b_Automaton_countStates 2 = .ok (.putfield 83, 3) := by decide +kernel
theorem d_Automaton_countStates_5 : decode b_Automaton_countStates 5 = .ok (.aload_n 0, 1) := by decide +kernel
theorem d_Automaton_countStates_6 : decode b_Automaton_countStates 6 = .ok (.iconst 0, 1) := by decide +kernel
theorem d_Automaton_countStates_7 : decode b_Automaton_countStates 7 = .ok (.putfield 86, 3) := by decide +kernel
theorem d_Automaton_countStates_10 : decode b_Automaton_countStates 10 = .ok (.aload_n 0, 1) := by decide +kernel
theorem d_Automaton_countStates_11 : decode b_Automaton_countStates 11 = .ok (.iconst 0, 1) := by decide +kernel
theorem d_Automaton_countStates_12 : decode b_Automaton_countStates 12 = .ok (.putfield 89, 3) := by decide +kernel
theorem d_Automaton_countStates_15 : decode b_Automaton_countStates 15 = .ok (.iconst 0, 1) := by decide +kernel
theorem d_Automaton_countStates_16 : decode b_Automaton_countStates 16 = .ok (.istore_n 1, 1) := by decide +kernel
theorem d_Automaton_countStates_17 : decode b_Automaton_countStates 17 = .ok (.iload_n 1, 1) := by decide +kernel
theorem d_Automaton_countStates_18 : decode b_Automaton_countStates 18 = .ok (.bipush 8, 2) := by decide +kernel
theorem d_Automaton_countStates_20 : decode b_Automaton_countStates 20 = .ok (.if_icmp .gt 54, 3) := by decide +kernel
theorem d_Automaton_countStates_23 : decode b_Automaton_countStates 23 = .ok (.aload_n 0, 1) := by decide +kernel
theorem d_Automaton_countStates_24 : decode b_Automaton_countStates 24 = .ok (.getfield 83, 3) := by decide +kernel
theorem d_Automaton_countStates_27 : decode b_Automaton_countStates 27 = .ok (.istore_n 2, 1) := by decide +kernel
theorem d_Automaton_countStates_28 : decode b_Automaton_countStates 28 = .ok (.iconst 0, 1) := by decide +kernel
theorem d_Automaton_countStates_29 : decode b_Automaton_countStates 29 = .ok (.istore_n 3, 1) := by decide +kernel
theorem d_Automaton_countStates_30 : decode b_Automaton_countStates 30 = .ok (.iload_n 3, 1) := by decide +kernel
theorem d_Automaton_countStates_31 : decode b_Automaton_countStates 31 = .ok (.aload_n 0, 1) := by decide +kernel
theorem d_Automaton_countStates_32 : decode b_Automaton_countStates 32 = .ok (.getfield 63, 3) := by decide +kernel
theorem d_Automaton_countStates_35 : decode b_Automaton_countStates 35 = .ok (.if_icmp .ge 33, 3) := by decide +kernel
theorem d_Automaton_countStates_38 : decode b_Automaton_countStates 38 = .ok (.aload_n 0, 1) := by decide +kernel
theorem d_Automaton_countStates_39 : decode b_Automaton_countStates 39 = .ok (.getfield 28, 3) := by decide +kernel
theorem d_Automaton_countStates_42 : decode b_Automaton_countStates 42 = .ok (.iload_n 3, 1) := by decide +kernel
theorem d_Automaton_countStates_43 : decode b_Automaton_countStates 43 = .ok (.iaload, 1) := by decide +kernel
theorem d_Automaton_countStates_44 : decode b_Automaton_countStates 44 = .ok (.iload_n 1, 1) := by decide +kernel
theorem d_Automaton_countStates_45 : decode b_Automaton_countStates 45 = .ok (.if_icmp .ne 17, 3) := by decide +kernel
theorem d_Automaton_countStates_48 : decode b_Automaton_countStates 48 = .ok (.aload_n 0, 1) := by decide +kernel
theorem d_Automaton_countStates_49 : decode b_Automaton_countStates 49 = .ok (.iload_n 3, 1) := by decide +kernel
theorem d_Automaton_countStates_50 : decode b_Automaton_countStates 50 = .ok (.iload_n 2, 1) := by decide +kernel
theorem d_Automaton_countStates_51 : decode b_Automaton_countStates 51 = .ok (.invokevirtual 92, 3) := by decide +kernel
theorem d_Automaton_countStates_54 : decode b_Automaton_countStates 54 = .ok (.ifCond .ne 8, 3) := by decide +kernel
theorem d_Automaton_countStates_57 : decode b_Automaton_countStates 57 = .ok (.aload_n 0, 1) := by decide +kernel
theorem d_Automaton_countStates_58 : decode b_Automaton_countStates 58 = .ok (.iload_n 3, 1) := by decide +kernel
theorem d_Automaton_countStates_59 : decode b_Automaton_countStates 59 = .ok (.invokevirtual 96, 3) := by decide +kernel
theorem d_Automaton_countStates_62 : decode b_Automaton_countStates 62 = .ok (.iinc 3 1, 3) := by decide +kernel
theorem d_Automaton_countStates_65 : decode b_Automaton_countStates 65 = .ok (.goto (-35), 3) := by decide +kernel
theorem d_Automaton_countStates_68 : decode b_Automaton_countStates 68 = .ok (.iinc 1 1, 3) := by decide +kernel
theorem d_Automaton_countStates_71 : decode b_Automaton_countStates 71 = .ok (.goto (-54), 3) := by decide +kernel
theorem d_Automaton_countStates_74 : decode b_Automaton_countStates 74 = .ok (.return_, 1) := by decide +kernel
theorem d_Automaton_isKnown_0 : decode b_Automaton_isKnown 0 = .ok (.iload_n 2, 1) := by decide +kernel
theorem d_Automaton_isKnown_1 : decode b_Automaton_isKnown 1 = .ok (.istore_n 3, 1) := by decide +kernel
theorem d_Automaton_isKnown_2 : decode b_Automaton_isKnown 2 = .ok (.iload_n 3, 1) := by decide +kernel
theorem d_Automaton_isKnown_3 : decode b_Automaton_isKnown 3 = .ok (.aload_n 0, 1) := by decide +kernel
theorem d_Automaton_isKnown_4 : decode b_Automaton_isKnown 4 = .ok (.getfield 83, 3) := by decide +kernel
theorem d_Automaton_isKnown_7 : decode b_Automaton_isKnown 7 = .ok (.if_icmp .ge 25, 3) := by decide +kernel
theorem d_Automaton_isKnown_10 : decode b_Automaton_isKnown 10 = .ok (.aload_n 0, 1) := by decide +kernel
theorem d_Automaton_isKnown_11 : decode b_Automaton_isKnown 11 = .ok (.iload_n 1, 1) := by decide +kernel
theorem d_Automaton_isKnown_12 : decode b_Automaton_isKnown 12 = .ok (.aload_n 0, 1) := by decide +kernel
theorem d_Automaton_isKnown_13 : decode b_Automaton_isKnown 13 = .ok (.getfield 31, 3) := by decide +kernel
theorem d_Automaton_isKnown_16 : decode b_Automaton_isKnown 16 = .ok (.iload_n 3, 1) := by decide +kernel
theorem d_Automaton_isKnown_17 : decode b_Automaton_isKnown 17 = .ok (.iaload, 1) := by decide +kernel
theorem d_Automaton_isKnown_18 : decode b_Automaton_isKnown 18 = .ok (.invokevirtual 100, 3) := by decide +kernel
theorem d_Automaton_isKnown_21 : decode b_Automaton_isKnown 21 = .ok (.ifCond .eq 5, 3) := by decide +kernel
theorem d_Automaton_isKnown_24 : decode b_Automaton_isKnown 24 = .ok (.iconst 1, 1) := by decide +kernel
theorem d_Automaton_isKnown_25 : decode b_Automaton_isKnown 25 = .ok (.ireturn, 1) := by decide +kernel
theorem d_Automaton_isKnown_26 : decode b_Automaton_isKnown 26 = .ok (.iinc 3 1, 3) := by decide +kernel
theorem d_Automaton_isKnown_29 : decode b_Automaton_isKnown 29 = .ok (.goto (-27), 3) := by decide +kernel
theorem d_Automaton_isKnown_32 : decode b_Automaton_isKnown 32 = .ok (.iconst 0, 1) := by decide +kernel
theorem d_Automaton_isKnown_33 : decode b_Automaton_isKnown 33 = .ok (.ireturn, 1) := by decide +kernel
theorem d_Automaton_leadAlike_0 : decode b_Automaton_leadAlike 0 = .ok (.aload_n 0, 1) := by decide +kernel
theorem d_Automaton_leadAlike_1 : decode b_Automaton_leadAlike 1 = .ok (.getfield 22, 3) := by decide +kernel
theorem d_Automaton_leadAlike_4 : decode b_Automaton_leadAlike 4 = .ok (.iload_n 1, 1) := by decide +kernel
theorem d_Automaton_leadAlike_5 : decode b_Automaton_leadAlike 5 = .ok (.iaload, 1) := by decide +kernel
theorem d_Automaton_leadAlike_6 : decode b_Automaton_leadAlike 6 = .ok (.aload_n 0, 1) := by decide +kernel
theorem d_Automaton_leadAlike_7 : decode b_Automaton_leadAlike 7 = .ok (.getfield 18, 3) := by decide +kernel
theorem d_Automaton_leadAlike_10 : decode b_Automaton_leadAlike 10 = .ok (.iload_n 1, 1) := by decide +kernel
theorem d_Automaton_leadAlike_11 : decode b_Automaton_leadAlike 11 = .ok (.iaload, 1) := by decide +kernel
theorem d_Automaton_leadAlike_12 : decode b_Automaton_leadAlike 12 = .ok (.isub, 1) := by decide +kernel
theorem d_Automaton_leadAlike_13 : decode b_Automaton_leadAlike 13 = .ok (.istore_n 3, 1) := by decide +kernel
theorem d_Automaton_leadAlike_14 : decode b_Automaton_leadAlike 14 = .ok (.iload_n 3, 1) := by decide +kernel
theorem d_Automaton_leadAlike_15 : decode b_Automaton_leadAlike 15 = .ok (.aload_n 0, 1) := by decide +kernel
theorem d_Automaton_leadAlike_16 : decode b_Automaton_leadAlike 16 = .ok (.getfield 22, 3) := by decide +kernel
theorem d_Automaton_leadAlike_19 : decode b_Automaton_leadAlike 19 = .ok (.iload_n 2, 1) := by decide +kernel
theorem d_Automaton_leadAlike_20 : decode b_Automaton_leadAlike 20 = .ok (.iaload, 1) := by decide +kernel
theorem d_Automaton_leadAlike_21 : decode b_Automaton_leadAlike 21 = .ok (.aload_n 0, 1) := by decide +kernel
theorem d_Automaton_leadAlike_22 : decode b_Automaton_leadAlike 22 = .ok (.getfield 18, 3) := by decide +kernel
theorem d_Automaton_leadAlike_25 : decode b_Automaton_leadAlike 25 = .ok (.iload_n 2, 1) := by decide +kernel
theorem d_Automaton_leadAlike_26 : decode b_Automaton_leadAlike 26 = .ok (.iaload, 1) := by decide +kernel
theorem d_Automaton_leadAlike_27 : decode b_Automaton_leadAlike 27 = .ok (.isub, 1) := by decide +kernel
theorem d_Automaton_leadAlike_28 : decode b_Automaton_leadAlike 28 = .ok (.if_icmp .eq 5, 3) := by decide +kernel
theorem d_Automaton_leadAlike_31 : decode b_Automaton_leadAlike 31 = .ok (.iconst 0, 1) := by decide +kernel
theorem d_Automaton_leadAlike_32 : decode b_Automaton_leadAlike 32 = .ok (.ireturn, 1) := by decide +kernel
theorem d_Automaton_leadAlike_33 : decode b_Automaton_leadAlike 33 = .ok (.iconst 0, 1) := by decide +kernel
theorem d_Automaton_leadAlike_34 : decode b_Automaton_leadAlike 34 = .ok (.istore 4, 2) := by decide +kernel
theorem d_Automaton_leadAlike_36 : decode b_Automaton_leadAlike 36 = .ok (.iload 4, 2) := by decide +kernel
theorem d_Automaton_leadAlike_38 : decode b_Automaton_leadAlike 38 = .ok (.iload_n 3, 1) := by decide +kernel
theorem d_Automaton_leadAlike_39 : decode b_Automaton_leadAlike 39 = .ok (.if_icmp .ge 65, 3) := by decide +kernel
theorem d_Automaton_leadAlike_42 : decode b_Automaton_leadAlike 42 = .ok (.aload_n 0, 1) := by decide +kernel
theorem d_Automaton_leadAlike_43 : decode b_Automaton_leadAlike 43 = .ok (.getfield 11, 3) := by decide +kernel
theorem d_Automaton_leadAlike_46 : decode b_Automaton_leadAlike 46 = .ok (.aload_n 0, 1) := by decide +kernel
theorem d_Automaton_leadAlike_47 : decode b_Automaton_leadAlike 47 = .ok (.getfield 18, 3) := by decide +kernel
theorem d_Automaton_leadAlike_50 : decode b_Automaton_leadAlike 50 = .ok (.iload_n 1, 1) := by decide +kernel
theorem d_Automaton_leadAlike_51 : decode b_Automaton_leadAlike 51 = .ok (.iaload, 1) := by decide +kernel
theorem d_Automaton_leadAlike_52 : decode b_Automaton_leadAlike 52 = .ok (.iload 4, 2) := by decide +kernel
theorem d_Automaton_leadAlike_54 : decode b_Automaton_leadAlike 54 = .ok (.iadd, 1) := by decide +kernel
theorem d_Automaton_leadAlike_55 : decode b_Automaton_leadAlike 55 = .ok (.aaload, 1) := by decide +kernel
theorem d_Automaton_leadAlike_56 : decode b_Automaton_leadAlike 56 = .ok (.astore 5, 2) := by decide +kernel
theorem d_Automaton_leadAlike_58 : decode b_Automaton_leadAlike 58 = .ok (.aload_n 0, 1) := by decide +kernel
theorem d_Automaton_leadAlike_59 : decode b_Automaton_leadAlike 59 = .ok (.getfield 11, 3) := by decide +kernel
theorem d_Automaton_leadAlike_62 : decode b_Automaton_leadAlike 62 = .ok (.aload_n 0, 1) := by decide +kernel
theorem d_Automaton_leadAlike_63 : decode b_Automaton_leadAlike 63 = .ok (.getfield 18, 3) := by decide +kernel
theorem d_Automaton_leadAlike_66 : decode b_Automaton_leadAlike 66 = .ok (.iload_n 2, 1) := by decide +kernel
theorem d_Automaton_leadAlike_67 : decode b_Automaton_leadAlike 67 = .ok (.iaload, 1) := by decide +kernel
theorem d_Automaton_leadAlike_68 : decode b_Automaton_leadAlike 68 = .ok (.iload 4, 2) := by decide +kernel
theorem d_Automaton_leadAlike_70 : decode b_Automaton_leadAlike 70 = .ok (.iadd, 1) := by decide +kernel
theorem d_Automaton_leadAlike_71 : decode b_Automaton_leadAlike 71 = .ok (.aaload, 1) := by decide +kernel
theorem d_Automaton_leadAlike_72 : decode b_Automaton_leadAlike 72 = .ok (.astore 6, 2) := by decide +kernel
theorem d_Automaton_leadAlike_74 : decode b_Automaton_leadAlike 74 = .ok (.aload 5, 2) := by decide +kernel
theorem d_Automaton_leadAlike_76 : decode b_Automaton_leadAlike 76 = .ok (.aload_n 0, 1) := by decide +kernel
theorem d_Automaton_leadAlike_77 : decode b_Automaton_leadAlike 77 = .ok (.getfield 25, 3) := by decide +kernel
theorem d_Automaton_leadAlike_80 : decode b_Automaton_leadAlike 80 = .ok (.iload_n 1, 1) := by decide +kernel
theorem d_Automaton_leadAlike_81 : decode b_Automaton_leadAlike 81 = .ok (.iaload, 1) := by decide +kernel
theorem d_Automaton_leadAlike_82 : decode b_Automaton_leadAlike 82 = .ok (.aload 6, 2) := by decide +kernel
theorem d_Automaton_leadAlike_84 : decode b_Automaton_leadAlike 84 = .ok (.aload_n 0, 1) := by decide +kernel
theorem d_Automaton_leadAlike_85 : decode b_Automaton_leadAlike 85 = .ok (.getfield 25, 3) := by decide +kernel
theorem d_Automaton_leadAlike_88 : decode b_Automaton_leadAlike 88 = .ok (.iload_n 2, 1) := by decide +kernel
theorem d_Automaton_leadAlike_89 : decode b_Automaton_leadAlike 89 = .ok (.iaload, 1) := by decide +kernel
theorem d_Automaton_leadAlike_90 : decode b_Automaton_leadAlike 90 = .ok (.invokevirtual 103, 3) := by decide +kernel
theorem d_Automaton_leadAlike_93 : decode b_Automaton_leadAlike 93 = .ok (.ifCond .ne 5, 3) := by decide +kernel
theorem d_Automaton_leadAlike_96 : decode b_Automaton_leadAlike 96 = .ok (.iconst 0, 1) := by decide +kernel
theorem d_Automaton_leadAlike_97 : decode b_Automaton_leadAlike 97 = .ok (.ireturn, 1) := by decide +kernel
theorem d_Automaton_leadAlike_98 : decode b_Automaton_leadAlike 98 = .ok (.iinc 4 1, 3) := by decide +kernel
theorem d_Automaton_leadAlike_101 : decode b_Automaton_leadAlike 101 = .ok (.goto (-65), 3) := by decide +kernel
theorem d_Automaton_leadAlike_104 : decode b_Automaton_leadAlike 104 = .ok (.iconst 1, 1) := by decide +kernel
theorem d_Automaton_leadAlike_105 : decode b_Automaton_leadAlike 105 = .ok (.ireturn, 1) := by decide +kernel
theorem d_Automaton_addState_0 : decode b_Automaton_addState 0 = .ok (.aload_n 0, 1) := by decide +kernel
theorem d_Automaton_addState_1 : decode b_Automaton_addState 1 = .ok (.getfield 31, 3) := by decide +kernel
theorem d_Automaton_addState_4 : decode b_Automaton_addState 4 = .ok (.aload_n 0, 1) := by decide +kernel
theorem d_Automaton_addState_5 : decode b_Automaton_addState 5 = .ok (.getfield 83, 3) := by decide +kernel
theorem d_Automaton_addState_8 : decode b_Automaton_addState 8 = .ok (.iload_n 1, 1) := by decide +kernel
theorem d_Automaton_addState_9 : decode b_Automaton_addState 9 = .ok (.iastore, 1) := by decide +kernel
theorem d_Automaton_addState_10 : decode b_Automaton_addState 10 = .ok (.aload_n 0, 1) := by decide +kernel
theorem d_Automaton_addState_11 : decode b_Automaton_addState 11 = .ok (.dup, 1) := by decide +kernel
theorem d_Automaton_addState_12 : decode b_Automaton_addState 12 = .ok (.getfield 83, 3) := by decide +kernel
theorem d_Automaton_addState_15 : decode b_Automaton_addState 15 = .ok (.iconst 1, 1) := by decide +kernel
theorem d_Automaton_addState_16 : decode b_Automaton_addState 16 = .ok (.iadd, 1) := by decide +kernel
theorem d_Automaton_addState_17 : decode b_Automaton_addState 17 = .ok (.putfield 83, 3) := by decide +kernel
theorem d_Automaton_addState_20 : decode b_Automaton_addState 20 = .ok (.aload_n 0, 1) := by decide +kernel
theorem d_Automaton_addState_21 : decode b_Automaton_addState 21 = .ok (.dup, 1) := by decide +kernel
theorem d_Automaton_addState_22 : decode b_Automaton_addState 22 = .ok (.getfield 86, 3) := by decide +kernel
theorem d_Automaton_addState_25 : decode b_Automaton_addState 25 = .ok (.aload_n 0, 1) := by decide +kernel
theorem d_Automaton_addState_26 : decode b_Automaton_addState 26 = .ok (.iload_n 1, 1) := by decide +kernel
theorem d_Automaton_addState_27 : decode b_Automaton_addState 27 = .ok (.invokevirtual 107, 3) := by decide +kernel
theorem d_Automaton_addState_30 : decode b_Automaton_addState 30 = .ok (.iadd, 1) := by decide +kernel
theorem d_Automaton_addState_31 : decode b_Automaton_addState 31 = .ok (.putfield 86, 3) := by decide +kernel
theorem d_Automaton_addState_34 : decode b_Automaton_addState 34 = .ok (.aload_n 0, 1) := by decide +kernel
theorem d_Automaton_addState_35 : decode b_Automaton_addState 35 = .ok (.getfield 11, 3) := by decide +kernel
theorem d_Automaton_addState_38 : decode b_Automaton_addState 38 = .ok (.aload_n 0, 1) := by decide +kernel
theorem d_Automaton_addState_39 : decode b_Automaton_addState 39 = .ok (.getfield 18, 3) := by decide +kernel
theorem d_Automaton_addState_42 : decode b_Automaton_addState 42 = .ok (.iload_n 1, 1) := by decide +kernel
theorem d_Automaton_addState_43 : decode b_Automaton_addState 43 = .ok (.iaload, 1) := by decide +kernel
theorem d_Automaton_addState_44 : decode b_Automaton_addState 44 = .ok (.aaload, 1) := by decide +kernel
theorem d_Automaton_addState_45 : decode b_Automaton_addState 45 = .ok (.getfield 70, 3) := by decide +kernel
theorem d_Automaton_addState_48 : decode b_Automaton_addState 48 = .ok (.aload_n 0, 1) := by decide +kernel
theorem d_Automaton_addState_49 : decode b_Automaton_addState 49 = .ok (.getfield 25, 3) := by decide +kernel
theorem d_Automaton_addState_52 : decode b_Automaton_addState 52 = .ok (.iload_n 1, 1) := by decide +kernel
theorem d_Automaton_addState_53 : decode b_Automaton_addState 53 = .ok (.iaload, 1) := by decide +kernel
theorem d_Automaton_addState_54 : decode b_Automaton_addState 54 = .ok (.if_icmp .ne 13, 3) := by decide +kernel
theorem d_Automaton_addState_57 : decode b_Automaton_addState 57 = .ok (.aload_n 0, 1) := by decide +kernel
theorem d_Automaton_addState_58 : decode b_Automaton_addState 58 = .ok (.dup, 1) := by decide +kernel
theorem d_Automaton_addState_59 : decode b_Automaton_addState 59 = .ok (.getfield 89, 3) := by decide +kernel
theorem d_Automaton_addState_62 : decode b_Automaton_addState 62 = .ok (.iconst 1, 1) := by decide +kernel
theorem d_Automaton_addState_63 : decode b_Automaton_addState 63 = .ok (.iadd, 1) := by decide +kernel
theorem d_Automaton_addState_64 : decode b_Automaton_addState 64 = .ok (.putfield 89, 3) := by decide +kernel
theorem d_Automaton_addState_67 : decode b_Automaton_addState 67 = .ok (.return_, 1) := by decide +kernel
theorem d_Automaton_countFollowing_0 : decode b_Automaton_countFollowing 0 = .ok (.aload_n 0, 1) := by decide +kernel
theorem d_Automaton_countFollowing_1 : decode b_Automaton_countFollowing 1 = .ok (.getfield 25, 3) := by decide +kernel
theorem d_Automaton_countFollowing_4 : decode b_Automaton_countFollowing 4 = .ok (.iload_n 1, 1) := by decide +kernel
theorem d_Automaton_countFollowing_5 : decode b_Automaton_countFollowing 5 = .ok (.iaload, 1) := by decide +kernel
theorem d_Automaton_countFollowing_6 : decode b_Automaton_countFollowing 6 = .ok (.istore_n 2, 1) := by decide +kernel
theorem d_Automaton_countFollowing_7 : decode b_Automaton_countFollowing 7 = .ok (.iconst 0, 1) := by decide +kernel
theorem d_Automaton_countFollowing_8 : decode b_Automaton_countFollowing 8 = .ok (.istore_n 3, 1) := by decide +kernel
theorem d_Automaton_countFollowing_9 : decode b_Automaton_countFollowing 9 = .ok (.iconst (-1), 1) := by decide +kernel
theorem d_Automaton_countFollowing_10 : decode b_Automaton_countFollowing 10 = .ok (.istore 4, 2) := by decide +kernel
theorem d_Automaton_countFollowing_12 : decode b_Automaton_countFollowing 12 = .ok (.aload_n 0, 1) := by decide +kernel
theorem d_Automaton_countFollowing_13 : decode b_Automaton_countFollowing 13 = .ok (.getfield 18, 3) := by decide +kernel
theorem d_Automaton_countFollowing_16 : decode b_Automaton_countFollowing 16 = .ok (.iload_n 1, 1) := by decide +kernel
theorem d_Automaton_countFollowing_17 : decode b_Automaton_countFollowing 17 = .ok (.iaload, 1) := by decide +kernel
theorem d_Automaton_countFollowing_18 : decode b_Automaton_countFollowing 18 = .ok (.istore 5, 2) := by decide +kernel
theorem d_Automaton_countFollowing_20 : decode b_Automaton_countFollowing 20 = .ok (.iload 5, 2) := by decide +kernel
theorem d_Automaton_countFollowing_22 : decode b_Automaton_countFollowing 22 = .ok (.aload_n 0, 1) := by decide +kernel
theorem d_Automaton_countFollowing_23 : decode b_Automaton_countFollowing 23 = .ok (.getfield 22, 3) := by decide +kernel
theorem d_Automaton_countFollowing_26 : decode b_Automaton_countFollowing 26 = .ok (.iload_n 1, 1) := by decide +kernel
theorem d_Automaton_countFollowing_27 : decode b_Automaton_countFollowing 27 = .ok (.iaload, 1) := by decide +kernel
theorem d_Automaton_countFollowing_28 : decode b_Automaton_countFollowing 28 = .ok (.if_icmp .ge 57, 3) := by decide +kernel
theorem d_Automaton_countFollowing_31 : decode b_Automaton_countFollowing 31 = .ok (.aload_n 0, 1) := by decide +kernel
theorem d_Automaton_countFollowing_32 : decode b_Automaton_countFollowing 32 = .ok (.getfield 11, 3) := by decide +kernel
theorem d_Automaton_countFollowing_35 : decode b_Automaton_countFollowing 35 = .ok (.iload 5, 2) := by decide +kernel
theorem d_Automaton_countFollowing_37 : decode b_Automaton_countFollowing 37 = .ok (.aaload, 1) := by decide +kernel
theorem d_Automaton_countFollowing_38 : decode b_Automaton_countFollowing 38 = .ok (.getfield 70, 3) := by decide +kernel
theorem d_Automaton_countFollowing_41 : decode b_Automaton_countFollowing 41 = .ok (.iload_n 2, 1) := by decide +kernel
theorem d_Automaton_countFollowing_42 : decode b_Automaton_countFollowing 42 = .ok (.if_icmp .le 37, 3) := by decide +kernel
theorem d_Automaton_countFollowing_45 : decode b_Automaton_countFollowing 45 = .ok (.aload_n 0, 1) := by decide +kernel
theorem d_Automaton_countFollowing_46 : decode b_Automaton_countFollowing 46 = .ok (.getfield 11, 3) := by decide +kernel
theorem d_Automaton_countFollowing_49 : decode b_Automaton_countFollowing 49 = .ok (.iload 5, 2) := by decide +kernel
theorem d_Automaton_countFollowing_51 : decode b_Automaton_countFollowing 51 = .ok (.aaload, 1) := by decide +kernel
theorem d_Automaton_countFollowing_52 : decode b_Automaton_countFollowing 52 = .ok (.getfield 111, 3) := by decide +kernel
theorem d_Automaton_countFollowing_55 : decode b_Automaton_countFollowing 55 = .ok (.iload_n 2, 1) := by decide +kernel
theorem d_Automaton_countFollowing_56 : decode b_Automaton_countFollowing 56 = .ok (.iaload, 1) := by decide +kernel
theorem d_Automaton_countFollowing_57 : decode b_Automaton_countFollowing 57 = .ok (.iload 4, 2) := by decide +kernel
theorem d_Automaton_countFollowing_59 : decode b_Automaton_countFollowing 59 = .ok (.if_icmp .eq 20, 3) := by decide +kernel
theorem d_Automaton_countFollowing_62 : decode b_Automaton_countFollowing 62 = .ok (.aload_n 0, 1) := by decide +kernel
theorem d_Automaton_countFollowing_63 : decode b_Automaton_countFollowing 63 = .ok (.getfield 11, 3) := by decide +kernel
theorem d_Automaton_countFollowing_66 : decode b_Automaton_countFollowing 66 = .ok (.iload 5, 2) := by decide +kernel
theorem d_Automaton_countFollowing_68 : decode b_Automaton_countFollowing 68 = .ok (.aaload, 1) := by decide +kernel
theorem d_Automaton_countFollowing_69 : decode b_Automaton_countFollowing 69 = .ok (.getfield 111, 3) := by decide +kernel
theorem d_Automaton_countFollowing_72 : decode b_Automaton_countFollowing 72 = .ok (.iload_n 2, 1) := by decide +kernel
theorem d_Automaton_countFollowing_73 : decode b_Automaton_countFollowing 73 = .ok (.iaload, 1) := by decide +kernel
theorem d_Automaton_countFollowing_74 : decode b_Automaton_countFollowing 74 = .ok (.istore 4, 2) := by decide +kernel
theorem d_Automaton_countFollowing_76 : decode b_Automaton_countFollowing 76 = .ok (.iinc 3 1, 3) := by decide +kernel
theorem d_Automaton_countFollowing_79 : decode b_Automaton_countFollowing 79 = .ok (.iinc 5 1, 3) := by decide +kernel
theorem d_Automaton_countFollowing_82 : decode b_Automaton_countFollowing 82 = .ok (.goto (-62), 3) := by decide +kernel
theorem d_Automaton_countFollowing_85 : decode b_Automaton_countFollowing 85 = .ok (.iload_n 3, 1) := by decide +kernel
theorem d_Automaton_countFollowing_86 : decode b_Automaton_countFollowing 86 = .ok (.ireturn, 1) := by decide +kernel
theorem d_Automaton_reach_0 : decode b_Automaton_reach 0 = .ok (.iconst (-1), 1) := by decide +kernel
theorem d_Automaton_reach_1 : decode b_Automaton_reach 1 = .ok (.istore_n 2, 1) := by decide +kernel
theorem d_Automaton_reach_2 : decode b_Automaton_reach 2 = .ok (.iconst 0, 1) := by decide +kernel
theorem d_Automaton_reach_3 : decode b_Automaton_reach 3 = .ok (.istore_n 3, 1) := by decide +kernel
theorem d_Automaton_reach_4 : decode b_Automaton_reach 4 = .ok (.iload_n 3, 1) := by decide +kernel
theorem d_Automaton_reach_5 : decode b_Automaton_reach 5 = .ok (.aload_n 0, 1) := by decide +kernel
theorem d_Automaton_reach_6 : decode b_Automaton_reach 6 = .ok (.getfield 40, 3) := by decide +kernel
theorem d_Automaton_reach_9 : decode b_Automaton_reach 9 = .ok (.if_icmp .ge 24, 3) := by decide +kernel
theorem d_Automaton_reach_12 : decode b_Automaton_reach 12 = .ok (.iload_n 2, 1) := by decide +kernel
theorem d_Automaton_reach_13 : decode b_Automaton_reach 13 = .ok (.aload_n 0, 1) := by decide +kernel
theorem d_Automaton_reach_14 : decode b_Automaton_reach 14 = .ok (.getfield 11, 3) := by decide +kernel
theorem d_Automaton_reach_17 : decode b_Automaton_reach 17 = .ok (.iload_n 3, 1) := by decide +kernel
theorem d_Automaton_reach_18 : decode b_Automaton_reach 18 = .ok (.aaload, 1) := by decide +kernel
theorem d_Automaton_reach_19 : decode b_Automaton_reach 19 = .ok (.aload_n 1, 1) := by decide +kernel
theorem d_Automaton_reach_20 : decode b_Automaton_reach 20 = .ok (.invokevirtual 66, 3) := by decide +kernel
theorem d_Automaton_reach_23 : decode b_Automaton_reach 23 = .ok (.invokestatic 77, 3) := by decide +kernel
theorem d_Automaton_reach_26 : decode b_Automaton_reach 26 = .ok (.istore_n 2, 1) := by decide +kernel
theorem d_Automaton_reach_27 : decode b_Automaton_reach 27 = .ok (.iinc 3 1, 3) := by decide +kernel
theorem d_Automaton_reach_30 : decode b_Automaton_reach 30 = .ok (.goto (-26), 3) := by decide +kernel
theorem d_Automaton_reach_33 : decode b_Automaton_reach 33 = .ok (.iload_n 2, 1) := by decide +kernel
theorem d_Automaton_reach_34 : decode b_Automaton_reach 34 = .ok (.ireturn, 1) := by decide +kernel
theorem d_Automaton_accepts_0 : decode b_Automaton_accepts 0 = .ok (.iconst 0, 1) := by decide +kernel
theorem d_Automaton_accepts_1 : decode b_Automaton_accepts 1 = .ok (.istore_n 2, 1) := by decide +kernel
theorem d_Automaton_accepts_2 : decode b_Automaton_accepts 2 = .ok (.iload_n 2, 1) := by decide +kernel
theorem d_Automaton_accepts_3 : decode b_Automaton_accepts 3 = .ok (.aload_n 0, 1) := by decide +kernel
theorem d_Automaton_accepts_4 : decode b_Automaton_accepts 4 = .ok (.getfield 40, 3) := by decide +kernel
theorem d_Automaton_accepts_7 : decode b_Automaton_accepts 7 = .ok (.if_icmp .ge 24, 3) := by decide +kernel
theorem d_Automaton_accepts_10 : decode b_Automaton_accepts 10 = .ok (.aload_n 0, 1) := by decide +kernel
theorem d_Automaton_accepts_11 : decode b_Automaton_accepts 11 = .ok (.getfield 11, 3) := by decide +kernel
theorem d_Automaton_accepts_14 : decode b_Automaton_accepts 14 = .ok (.iload_n 2, 1) := by decide +kernel
theorem d_Automaton_accepts_15 : decode b_Automaton_accepts 15 = .ok (.aaload, 1) := by decide +kernel
theorem d_Automaton_accepts_16 : decode b_Automaton_accepts 16 = .ok (.aload_n 1, 1) := by decide +kernel
theorem d_Automaton_accepts_17 : decode b_Automaton_accepts 17 = .ok (.invokevirtual 114, 3) := by decide +kernel
theorem d_Automaton_accepts_20 : decode b_Automaton_accepts 20 = .ok (.ifCond .ne 5, 3) := by decide +kernel
theorem d_Automaton_accepts_23 : decode b_Automaton_accepts 23 = .ok (.iconst 1, 1) := by decide +kernel
theorem d_Automaton_accepts_24 : decode b_Automaton_accepts 24 = .ok (.ireturn, 1) := by decide +kernel
theorem d_Automaton_accepts_25 : decode b_Automaton_accepts 25 = .ok (.iinc 2 1, 3) := by decide +kernel
theorem d_Automaton_accepts_28 : decode b_Automaton_accepts 28 = .ok (.goto (-26), 3) := by decide +kernel
theorem d_Automaton_accepts_31 : decode b_Automaton_accepts 31 = .ok (.iconst 0, 1) := by decide +kernel
theorem d_Automaton_accepts_32 : decode b_Automaton_accepts 32 = .ok (.ireturn, 1) := by decide +kernel
theorem d_EditedText_init_0 : decode b_EditedText_init 0 = .ok (.aload_n 0, 1) := by decide +kernel
theorem d_EditedText_init_1 : decode b_EditedText_init 1 = .ok (.invokespecial 3, 3) := by decide +kernel
theorem d_EditedText_init_4 : decode b_EditedText_init 4 = .ok (.aload_n 0, 1) := by decide +kernel
theorem d_EditedText_init_5 : decode b_EditedText_init 5 = .ok (.bipush 120, 2) := by decide +kernel
theorem d_EditedText_init_7 : decode b_EditedText_init 7 = .ok (.newarray .int, 2) := by decide +kernel
theorem d_EditedText_init_9 : decode b_EditedText_init 9 = .ok (.putfield 9, 3) := by decide +kernel
theorem d_EditedText_init_12 : decode b_EditedText_init 12 = .ok (.aload_n 0, 1) := by decide +kernel
theorem d_EditedText_init_13 : decode b_EditedText_init 13 = .ok (.new 15, 3) := by decide +kernel
theorem d_EditedText_init_16 : decode b_EditedText_init 16 = .ok (.dup, 1) := by decide +kernel
theorem d_EditedText_init_17 : decode b_EditedText_init 17 = .ok (.invokespecial 17, 3) := by decide +kernel
theorem d_EditedText_init_20 : decode b_EditedText_init 20 = .ok (.putfield 18, 3) := by decide +kernel
theorem d_EditedText_init_23 : decode b_EditedText_init 23 = .ok (.aload_n 0, 1) := by decide +kernel
theorem d_EditedText_init_24 : decode b_EditedText_init 24 = .ok (.new 22, 3) := by decide +kernel
theorem d_EditedText_init_27 : decode b_EditedText_init 27 = .ok (.dup, 1) := by decide +kernel
theorem d_EditedText_init_28 : decode b_EditedText_init 28 = .ok (.invokespecial 24, 3) := by decide +kernel
theorem d_EditedText_init_31 : decode b_EditedText_init 31 = .ok (.putfield 25, 3) := by decide +kernel
theorem d_EditedText_init_34 : decode b_EditedText_init 34 = .ok (.return_, 1) := by decide +kernel
theorem d_EditedText_open_0 : decode b_EditedText_open 0 = .ok (.aload_n 0, 1) := by decide +kernel
theorem d_EditedText_open_1 : decode b_EditedText_open 1 = .ok (.getfield 18, 3) := by decide +kernel
theorem d_EditedText_open_4 : decode b_EditedText_open 4 = .ok (.aload_n 0, 1) := by decide +kernel
theorem d_EditedText_open_5 : decode b_EditedText_open 5 = .ok (.getfield 9, 3) := by decide +kernel
theorem d_EditedText_open_8 : decode b_EditedText_open 8 = .ok (.aload_n 0, 1) := by decide +kernel
theorem d_EditedText_open_9 : decode b_EditedText_open 9 = .ok (.getfield 29, 3) := by decide +kernel
theorem d_EditedText_open_12 : decode b_EditedText_open 12 = .ok (.invokevirtual 33, 3) := by decide +kernel
theorem d_EditedText_open_15 : decode b_EditedText_open 15 = .ok (.aload_n 0, 1) := by decide +kernel
theorem d_EditedText_open_16 : decode b_EditedText_open 16 = .ok (.getfield 9, 3) := by decide +kernel
theorem d_EditedText_open_19 : decode b_EditedText_open 19 = .ok (.iload_n 1, 1) := by decide +kernel
theorem d_EditedText_open_20 : decode b_EditedText_open 20 = .ok (.aload_n 0, 1) := by decide +kernel
theorem d_EditedText_open_21 : decode b_EditedText_open 21 = .ok (.getfield 9, 3) := by decide +kernel
theorem d_EditedText_open_24 : decode b_EditedText_open 24 = .ok (.iload_n 1, 1) := by decide +kernel
theorem d_EditedText_open_25 : decode b_EditedText_open 25 = .ok (.aload_n 2, 1) := by decide +kernel
theorem d_EditedText_open_26 : decode b_EditedText_open 26 = .ok (.getfield 37, 3) := by decide +kernel
theorem d_EditedText_open_29 : decode b_EditedText_open 29 = .ok (.iadd, 1) := by decide +kernel
theorem d_EditedText_open_30 : decode b_EditedText_open 30 = .ok (.aload_n 0, 1) := by decide +kernel
theorem d_EditedText_open_31 : decode b_EditedText_open 31 = .ok (.getfield 29, 3) := by decide +kernel
theorem d_EditedText_open_34 : decode b_EditedText_open 34 = .ok (.iload_n 1, 1) := by decide +kernel
theorem d_EditedText_open_35 : decode b_EditedText_open 35 = .ok (.isub, 1) := by decide +kernel
theorem d_EditedText_open_36 : decode b_EditedText_open 36 = .ok (.invokestatic 40, 3) := by decide +kernel
theorem d_EditedText_open_39 : decode b_EditedText_open 39 = .ok (.aload_n 2, 1) := by decide +kernel
theorem d_EditedText_open_40 : decode b_EditedText_open 40 = .ok (.getfield 46, 3) := by decide +kernel
theorem d_EditedText_open_43 : decode b_EditedText_open 43 = .ok (.iconst 0, 1) := by decide +kernel
theorem d_EditedText_open_44 : decode b_EditedText_open 44 = .ok (.aload_n 0, 1) := by decide +kernel
theorem d_EditedText_open_45 : decode b_EditedText_open 45 = .ok (.getfield 9, 3) := by decide +kernel
theorem d_EditedText_open_48 : decode b_EditedText_open 48 = .ok (.iload_n 1, 1) := by decide +kernel
theorem d_EditedText_open_49 : decode b_EditedText_open 49 = .ok (.aload_n 2, 1) := by decide +kernel
theorem d_EditedText_open_50 : decode b_EditedText_open 50 = .ok (.getfield 37, 3) := by decide +kernel
theorem d_EditedText_open_53 : decode b_EditedText_open 53 = .ok (.invokestatic 40, 3) := by decide +kernel
theorem d_EditedText_open_56 : decode b_EditedText_open 56 = .ok (.aload_n 0, 1) := by decide +kernel
theorem d_EditedText_open_57 : decode b_EditedText_open 57 = .ok (.dup, 1) := by decide +kernel
theorem d_EditedText_open_58 : decode b_EditedText_open 58 = .ok (.getfield 29, 3) := by decide +kernel
theorem d_EditedText_open_61 : decode b_EditedText_open 61 = .ok (.aload_n 2, 1) := by decide +kernel
theorem d_EditedText_open_62 : decode b_EditedText_open 62 = .ok (.getfield 37, 3) := by decide +kernel
theorem d_EditedText_open_65 : decode b_EditedText_open 65 = .ok (.iadd, 1) := by decide +kernel
theorem d_EditedText_open_66 : decode b_EditedText_open 66 = .ok (.putfield 29, 3) := by decide +kernel
theorem d_EditedText_open_69 : decode b_EditedText_open 69 = .ok (.aload_n 0, 1) := by decide +kernel
theorem d_EditedText_open_70 : decode b_EditedText_open 70 = .ok (.iconst 0, 1) := by decide +kernel
theorem d_EditedText_open_71 : decode b_EditedText_open 71 = .ok (.putfield 47, 3) := by decide +kernel
theorem d_EditedText_open_74 : decode b_EditedText_open 74 = .ok (.return_, 1) := by decide +kernel
theorem d_EditedText_close_0 : decode b_EditedText_close 0 = .ok (.aload_n 0, 1) := by decide +kernel
theorem d_EditedText_close_1 : decode b_EditedText_close 1 = .ok (.getfield 18, 3) := by decide +kernel
theorem d_EditedText_close_4 : decode b_EditedText_close 4 = .ok (.aload_n 0, 1) := by decide +kernel
theorem d_EditedText_close_5 : decode b_EditedText_close 5 = .ok (.getfield 9, 3) := by decide +kernel
theorem d_EditedText_close_8 : decode b_EditedText_close 8 = .ok (.aload_n 0, 1) := by decide +kernel
theorem d_EditedText_close_9 : decode b_EditedText_close 9 = .ok (.getfield 29, 3) := by decide +kernel
theorem d_EditedText_close_12 : decode b_EditedText_close 12 = .ok (.invokevirtual 33, 3) := by decide +kernel
theorem d_EditedText_close_15 : decode b_EditedText_close 15 = .ok (.aload_n 0, 1) := by decide +kernel
theorem d_EditedText_close_16 : decode b_EditedText_close 16 = .ok (.getfield 9, 3) := by decide +kernel
theorem d_EditedText_close_19 : decode b_EditedText_close 19 = .ok (.iload_n 2, 1) := by decide +kernel
theorem d_EditedText_close_20 : decode b_EditedText_close 20 = .ok (.aload_n 0, 1) := by decide +kernel
theorem d_EditedText_close_21 : decode b_EditedText_close 21 = .ok (.getfield 9, 3) := by decide +kernel
theorem d_EditedText_close_24 : decode b_EditedText_close 24 = .ok (.iload_n 1, 1) := by decide +kernel
theorem d_EditedText_close_25 : decode b_EditedText_close 25 = .ok (.aload_n 0, 1) := by decide +kernel
theorem d_EditedText_close_26 : decode b_EditedText_close 26 = .ok (.getfield 29, 3) := by decide +kernel
theorem d_EditedText_close_29 : decode b_EditedText_close 29 = .ok (.iload_n 2, 1) := by decide +kernel
theorem d_EditedText_close_30 : decode b_EditedText_close 30 = .ok (.isub, 1) := by decide +kernel
theorem d_EditedText_close_31 : decode b_EditedText_close 31 = .ok (.invokestatic 40, 3) := by decide +kernel
theorem d_EditedText_close_34 : decode b_EditedText_close 34 = .ok (.aload_n 0, 1) := by decide +kernel
theorem d_EditedText_close_35 : decode b_EditedText_close 35 = .ok (.dup, 1) := by decide +kernel
theorem d_EditedText_close_36 : decode b_EditedText_close 36 = .ok (.getfield 29, 3) := by decide +kernel
theorem d_EditedText_close_39 : decode b_EditedText_close 39 = .ok (.iload_n 2, 1) := by decide +kernel
theorem d_EditedText_close_40 : decode b_EditedText_close 40 = .ok (.iload_n 1, 1) := by decide +kernel
theorem d_EditedText_close_41 : decode b_EditedText_close 41 = .ok (.isub, 1) := by decide +kernel
theorem d_EditedText_close_42 : decode b_EditedText_close 42 = .ok (.isub, 1) := by decide +kernel
theorem d_EditedText_close_43 : decode b_EditedText_close 43 = .ok (.putfield 29, 3) := by decide +kernel
theorem d_EditedText_close_46 : decode b_EditedText_close 46 = .ok (.aload_n 0, 1) := by decide +kernel
theorem d_EditedText_close_47 : decode b_EditedText_close 47 = .ok (.iconst 0, 1) := by decide +kernel
theorem d_EditedText_close_48 : decode b_EditedText_close 48 = .ok (.putfield 47, 3) := by decide +kernel
theorem d_EditedText_close_51 : decode b_EditedText_close 51 = .ok (.return_, 1) := by decide +kernel
theorem d_EditedText_takeBack_0 : decode b_EditedText_takeBack 0 = .ok (.aload_n 0, 1) := by decide +kernel
theorem d_EditedText_takeBack_1 : decode b_EditedText_takeBack 1 = .ok (.getfield 18, 3) := by decide +kernel
theorem d_EditedText_takeBack_4 : decode b_EditedText_takeBack 4 = .ok (.getfield 51, 3) := by decide +kernel
theorem d_EditedText_takeBack_7 : decode b_EditedText_takeBack 7 = .ok (.ifCond .ne 5, 3) := by decide +kernel
theorem d_EditedText_takeBack_10 : decode b_EditedText_takeBack 10 = .ok (.iconst 0, 1) := by decide +kernel
theorem d_EditedText_takeBack_11 : decode b_EditedText_takeBack 11 = .ok (.ireturn, 1) := by decide +kernel
theorem d_EditedText_takeBack_12 : decode b_EditedText_takeBack 12 = .ok (.aload_n 0, 1) := by decide +kernel
theorem d_EditedText_takeBack_13 : decode b_EditedText_takeBack 13 = .ok (.aload_n 0, 1) := by decide +kernel
theorem d_EditedText_takeBack_14 : decode b_EditedText_takeBack 14 = .ok (.getfield 18, 3) := by decide +kernel
theorem d_EditedText_takeBack_17 : decode b_EditedText_takeBack 17 = .ok (.aload_n 0, 1) := by decide +kernel
theorem d_EditedText_takeBack_18 : decode b_EditedText_takeBack 18 = .ok (.getfield 9, 3) := by decide +kernel
theorem d_EditedText_takeBack_21 : decode b_EditedText_takeBack 21 = .ok (.invokevirtual 54, 3) := by decide +kernel
theorem d_EditedText_takeBack_24 : decode b_EditedText_takeBack 24 = .ok (.putfield 29, 3) := by decide +kernel
theorem d_EditedText_takeBack_27 : decode b_EditedText_takeBack 27 = .ok (.aload_n 0, 1) := by decide +kernel
theorem d_EditedText_takeBack_28 : decode b_EditedText_takeBack 28 = .ok (.iconst 0, 1) := by decide +kernel
theorem d_EditedText_takeBack_29 : decode b_EditedText_takeBack 29 = .ok (.putfield 47, 3) := by decide +kernel
theorem d_EditedText_takeBack_32 : decode b_EditedText_takeBack 32 = .ok (.iconst 1, 1) := by decide +kernel
theorem d_EditedText_takeBack_33 : decode b_EditedText_takeBack 33 = .ok (.ireturn, 1) := by decide +kernel
theorem d_EditedText_hash_0 : decode b_EditedText_hash 0 = .ok (.iconst 0, 1) := by decide +kernel
theorem d_EditedText_hash_1 : decode b_EditedText_hash 1 = .ok (.istore_n 1, 1) := by decide +kernel
theorem d_EditedText_hash_2 : decode b_EditedText_hash 2 = .ok (.iconst 0, 1) := by decide +kernel
theorem d_EditedText_hash_3 : decode b_EditedText_hash 3 = .ok (.istore_n 2, 1) := by decide +kernel
theorem d_EditedText_hash_4 : decode b_EditedText_hash 4 = .ok (.iload_n 2, 1) := by decide +kernel
theorem d_EditedText_hash_5 : decode b_EditedText_hash 5 = .ok (.aload_n 0, 1) := by decide +kernel
theorem d_EditedText_hash_6 : decode b_EditedText_hash 6 = .ok (.getfield 29, 3) := by decide +kernel
theorem d_EditedText_hash_9 : decode b_EditedText_hash 9 = .ok (.if_icmp .ge 21, 3) := by decide +kernel
theorem d_EditedText_hash_12 : decode b_EditedText_hash 12 = .ok (.bipush 31, 2) := by decide +kernel
theorem d_EditedText_hash_14 : decode b_EditedText_hash 14 = .ok (.iload_n 1, 1) := by decide +kernel
theorem d_EditedText_hash_15 : decode b_EditedText_hash 15 = .ok (.imul, 1) := by decide +kernel
theorem d_EditedText_hash_16 : decode b_EditedText_hash 16 = .ok (.aload_n 0, 1) := by decide +kernel
theorem d_EditedText_hash_17 : decode b_EditedText_hash 17 = .ok (.getfield 9, 3) := by decide +kernel
theorem d_EditedText_hash_20 : decode b_EditedText_hash 20 = .ok (.iload_n 2, 1) := by decide +kernel
theorem d_EditedText_hash_21 : decode b_EditedText_hash 21 = .ok (.iaload, 1) := by decide +kernel
theorem d_EditedText_hash_22 : decode b_EditedText_hash 22 = .ok (.iadd, 1) := by decide +kernel
theorem d_EditedText_hash_23 : decode b_EditedText_hash 23 = .ok (.istore_n 1, 1) := by decide +kernel
theorem d_EditedText_hash_24 : decode b_EditedText_hash 24 = .ok (.iinc 2 1, 3) := by decide +kernel
theorem d_EditedText_hash_27 : decode b_EditedText_hash 27 = .ok (.goto (-23), 3) := by decide +kernel
theorem d_EditedText_hash_30 : decode b_EditedText_hash 30 = .ok (.iload_n 1, 1) := by decide +kernel
theorem d_EditedText_hash_31 : decode b_EditedText_hash 31 = .ok (.ireturn, 1) := by decide +kernel
theorem d_EditedText_sortedSuffixes_0 : decode b_EditedText_sortedSuffixes 0 = .ok (.aload_n 0, 1) := by decide +kernel
theorem d_EditedText_sortedSuffixes_1 : decode b_EditedText_sortedSuffixes 1 = .ok (.getfield 47, 3) := by decide +kernel
theorem d_EditedText_sortedSuffixes_4 : decode b_EditedText_sortedSuffixes 4 = .ok (.ifCond .ne 23, 3) := by decide +kernel
theorem d_EditedText_sortedSuffixes_7 : decode b_EditedText_sortedSuffixes 7 = .ok (.aload_n 0, 1) := by decide +kernel
theorem d_EditedText_sortedSuffixes_8 : decode b_EditedText_sortedSuffixes 8 = .ok (.getfield 25, 3) := by decide +kernel
theorem d_EditedText_sortedSuffixes_11 : decode b_EditedText_sortedSuffixes 11 = .ok (.aload_n 0, 1) := by decide +kernel
theorem d_EditedText_sortedSuffixes_12 : decode b_EditedText_sortedSuffixes 12 = .ok (.getfield 9, 3) := by decide +kernel
theorem d_EditedText_sortedSuffixes_15 : decode b_EditedText_sortedSuffixes 15 = .ok (.aload_n 0, 1) := by decide +kernel
theorem d_EditedText_sortedSuffixes_16 : decode b_EditedText_sortedSuffixes 16 = .ok (.getfield 29, 3) := by decide +kernel
theorem d_EditedText_sortedSuffixes_19 : decode b_EditedText_sortedSuffixes 19 = .ok (.invokevirtual 58, 3) := by decide +kernel
theorem d_EditedText_sortedSuffixes_22 : decode b_EditedText_sortedSuffixes 22 = .ok (.aload_n 0, 1) := by decide +kernel
theorem d_EditedText_sortedSuffixes_23 : decode b_EditedText_sortedSuffixes 23 = .ok (.iconst 1, 1) := by decide +kernel
theorem d_EditedText_sortedSuffixes_24 : decode b_EditedText_sortedSuffixes 24 = .ok (.putfield 47, 3) := by decide +kernel
theorem d_EditedText_sortedSuffixes_27 : decode b_EditedText_sortedSuffixes 27 = .ok (.aload_n 0, 1) := by decide +kernel
theorem d_EditedText_sortedSuffixes_28 : decode b_EditedText_sortedSuffixes 28 = .ok (.getfield 25, 3) := by decide +kernel
theorem d_EditedText_sortedSuffixes_31 : decode b_EditedText_sortedSuffixes 31 = .ok (.areturn, 1) := by decide +kernel
theorem d_EditedText_sharedWithSuffixBefore_0 : decode b_EditedText_sharedWithSuffixBefore 0 = .ok (.iload_n 1, 1) := by decide +kernel
theorem d_EditedText_sharedWithSuffixBefore_1 : decode b_EditedText_sharedWithSuffixBefore 1 = .ok (.ifCond .ne 5, 3) := by decide +kernel
theorem d_EditedText_sharedWithSuffixBefore_4 : decode b_EditedText_sharedWithSuffixBefore 4 = .ok (.iconst 0, 1) := by decide +kernel
theorem d_EditedText_sharedWithSuffixBefore_5 : decode b_EditedText_sharedWithSuffixBefore 5 = .ok (.ireturn, 1) := by decide +kernel
theorem d_EditedText_sharedWithSuffixBefore_6 : decode b_EditedText_sharedWithSuffixBefore 6 = .ok (.aload_n 0, 1) := by decide +kernel
theorem d_EditedText_sharedWithSuffixBefore_7 : decode b_EditedText_sharedWithSuffixBefore 7 = .ok (.invokevirtual 61, 3) := by decide +kernel
theorem d_EditedText_sharedWithSuffixBefore_10 : decode b_EditedText_sharedWithSuffixBefore 10 = .ok (.getfield 65, 3) := by decide +kernel
theorem d_EditedText_sharedWithSuffixBefore_13 : decode b_EditedText_sharedWithSuffixBefore 13 = .ok (.astore_n 2, 1) := by decide +kernel
theorem d_EditedText_sharedWithSuffixBefore_14 : decode b_EditedText_sharedWithSuffixBefore 14 = .ok (.aload_n 2, 1) := by decide +kernel
theorem d_EditedText_sharedWithSuffixBefore_15 : decode b_EditedText_sharedWithSuffixBefore 15 = .ok (.iload_n 1, 1) := by decide +kernel
theorem d_EditedText_sharedWithSuffixBefore_16 : decode b_EditedText_sharedWithSuffixBefore 16 = .ok (.iaload, 1) := by decide +kernel
theorem d_EditedText_sharedWithSuffixBefore_17 : decode b_EditedText_sharedWithSuffixBefore 17 = .ok (.istore_n 3, 1) := by decide +kernel
theorem d_EditedText_sharedWithSuffixBefore_18 : decode b_EditedText_sharedWithSuffixBefore 18 = .ok (.aload_n 2, 1) := by decide +kernel
theorem d_EditedText_sharedWithSuffixBefore_19 : decode b_EditedText_sharedWithSuffixBefore 19 = .ok (.iload_n 1, 1) := by decide +kernel
theorem d_EditedText_sharedWithSuffixBefore_20 : decode b_EditedText_sharedWithSuffixBefore 20 = .ok (.iconst 1, 1) := by decide +kernel
theorem d_EditedText_sharedWithSuffixBefore_21 : decode b_EditedText_sharedWithSuffixBefore 21 = .ok (.isub, 1) := by decide +kernel
theorem d_EditedText_sharedWithSuffixBefore_22 : decode b_EditedText_sharedWithSuffixBefore 22 = .ok (.iaload, 1) := by decide +kernel
theorem d_EditedText_sharedWithSuffixBefore_23 : decode b_EditedText_sharedWithSuffixBefore 23 = .ok (.istore 4, 2) := by decide +kernel
theorem d_EditedText_sharedWithSuffixBefore_25 : decode b_EditedText_sharedWithSuffixBefore 25 = .ok (.iconst 0, 1) := by decide +kernel
theorem d_EditedText_sharedWithSuffixBefore_26 : decode b_EditedText_sharedWithSuffixBefore 26 = .ok (.istore 5, 2) := by decide +kernel
theorem d_EditedText_sharedWithSuffixBefore_28 : decode b_EditedText_sharedWithSuffixBefore 28 = .ok (.iload_n 3, 1) := by decide +kernel
theorem d_EditedText_sharedWithSuffixBefore_29 : decode b_EditedText_sharedWithSuffixBefore 29 = .ok (.iload 5, 2) := by decide +kernel
theorem d_EditedText_sharedWithSuffixBefore_31 : decode b_EditedText_sharedWithSuffixBefore 31 = .ok (.iadd, 1) := by decide +kernel
theorem d_EditedText_sharedWithSuffixBefore_32 : decode b_EditedText_sharedWithSuffixBefore 32 = .ok (.aload_n 0, 1) := by decide +kernel
theorem d_EditedText_sharedWithSuffixBefore_33 : decode b_EditedText_sharedWithSuffixBefore 33 = .ok (.getfield 29, 3) := by decide +kernel
theorem d_EditedText_sharedWithSuffixBefore_36 : decode b_EditedText_sharedWithSuffixBefore 36 = .ok (.if_icmp .ge 43, 3) := by decide +kernel
theorem d_EditedText_sharedWithSuffixBefore_39 : decode b_EditedText_sharedWithSuffixBefore 39 = .ok (.iload 4, 2) := by decide +kernel
theorem d_EditedText_sharedWithSuffixBefore_41 : decode b_EditedText_sharedWithSuffixBefore 41 = .ok (.iload 5, 2) := by decide +kernel
theorem d_EditedText_sharedWithSuffixBefore_43 : decode b_EditedText_sharedWithSuffixBefore 43 = .ok (.iadd, 1) := by decide +kernel
theorem d_EditedText_sharedWithSuffixBefore_44 : decode b_EditedText_sharedWithSuffixBefore 44 = .ok (.aload_n 0, 1) := by decide +kernel
theorem d_EditedText_sharedWithSuffixBefore_45 : decode b_EditedText_sharedWithSuffixBefore 45 = .ok (.getfield 29, 3) := by decide +kernel
theorem d_EditedText_sharedWithSuffixBefore_48 : decode b_EditedText_sharedWithSuffixBefore 48 = .ok (.if_icmp .ge 31, 3) := by decide +kernel
theorem d_EditedText_sharedWithSuffixBefore_51 : decode b_EditedText_sharedWithSuffixBefore 51 = .ok (.aload_n 0, 1) := by decide +kernel
theorem d_EditedText_sharedWithSuffixBefore_52 : decode b_EditedText_sharedWithSuffixBefore 52 = .ok (.getfield 9, 3) := by decide +kernel
theorem d_EditedText_sharedWithSuffixBefore_55 : decode b_EditedText_sharedWithSuffixBefore 55 = .ok (.iload_n 3, 1) := by decide +kernel
theorem d_EditedText_sharedWithSuffixBefore_56 : decode b_EditedText_sharedWithSuffixBefore 56 = .ok (.iload 5, 2) := by decide +kernel
theorem d_EditedText_sharedWithSuffixBefore_58 : decode b_EditedText_sharedWithSuffixBefore 58 = .ok (.iadd, 1) := by decide +kernel
theorem d_EditedText_sharedWithSuffixBefore_59 : decode b_EditedText_sharedWithSuffixBefore 59 = .ok (.iaload, 1) := by decide +kernel
theorem d_EditedText_sharedWithSuffixBefore_60 : decode b_EditedText_sharedWithSuffixBefore 60 = .ok (.aload_n 0, 1) := by decide +kernel
theorem d_EditedText_sharedWithSuffixBefore_61 : decode b_EditedText_sharedWithSuffixBefore 61 = .ok (.getfield 9, 3) := by decide +kernel
theorem d_EditedText_sharedWithSuffixBefore_64 : decode b_EditedText_sharedWithSuffixBefore 64 = .ok (.iload 4, 2) := by decide +kernel
theorem d_EditedText_sharedWithSuffixBefore_66 : decode b_EditedText_sharedWithSuffixBefore 66 = .ok (.iload 5, 2) := by decide +kernel
theorem d_EditedText_sharedWithSuffixBefore_68 : decode b_EditedText_sharedWithSuffixBefore 68 = .ok (.iadd, 1) := by decide +kernel
theorem d_EditedText_sharedWithSuffixBefore_69 : decode b_EditedText_sharedWithSuffixBefore 69 = .ok (.iaload, 1) := by decide +kernel
theorem d_EditedText_sharedWithSuffixBefore_70 : decode b_EditedText_sharedWithSuffixBefore 70 = .ok (.if_icmp .ne 9, 3) := by decide +kernel
theorem d_EditedText_sharedWithSuffixBefore_73 : decode b_EditedText_sharedWithSuffixBefore 73 = .ok (.iinc 5 1, 3) := by decide +kernel
theorem d_EditedText_sharedWithSuffixBefore_76 : decode b_EditedText_sharedWithSuffixBefore 76 = .ok (.goto (-48), 3) := by decide +kernel
theorem d_EditedText_sharedWithSuffixBefore_79 : decode b_EditedText_sharedWithSuffixBefore 79 = .ok (.iload 5, 2) := by decide +kernel
theorem d_EditedText_sharedWithSuffixBefore_81 : decode b_EditedText_sharedWithSuffixBefore 81 = .ok (.ireturn, 1) := by decide +kernel
theorem d_EditedText_standsAt_0 : decode b_EditedText_standsAt 0 = .ok (.aload_n 2, 1) := by decide +kernel
theorem d_EditedText_standsAt_1 : decode b_EditedText_standsAt 1 = .ok (.getfield 37, 3) := by decide +kernel
theorem d_EditedText_standsAt_4 : decode b_EditedText_standsAt 4 = .ok (.aload_n 0, 1) := by decide +kernel
theorem d_EditedText_standsAt_5 : decode b_EditedText_standsAt 5 = .ok (.getfield 29, 3) := by decide +kernel
theorem d_EditedText_standsAt_8 : decode b_EditedText_standsAt 8 = .ok (.iload_n 1, 1) := by decide +kernel
theorem d_EditedText_standsAt_9 : decode b_EditedText_standsAt 9 = .ok (.isub, 1) := by decide +kernel
theorem d_EditedText_standsAt_10 : decode b_EditedText_standsAt 10 = .ok (.if_icmp .le 5, 3) := by decide +kernel
theorem d_EditedText_standsAt_13 : decode b_EditedText_standsAt 13 = .ok (.iconst 0, 1) := by decide +kernel
theorem d_EditedText_standsAt_14 : decode b_EditedText_standsAt 14 = .ok (.ireturn, 1) := by decide +kernel
theorem d_EditedText_standsAt_15 : decode b_EditedText_standsAt 15 = .ok (.iconst 0, 1) := by decide +kernel
theorem d_EditedText_standsAt_16 : decode b_EditedText_standsAt 16 = .ok (.istore_n 3, 1) := by decide +kernel
theorem d_EditedText_standsAt_17 : decode b_EditedText_standsAt 17 = .ok (.iload_n 3, 1) := by decide +kernel
theorem d_EditedText_standsAt_18 : decode b_EditedText_standsAt 18 = .ok (.aload_n 2, 1) := by decide +kernel
theorem d_EditedText_standsAt_19 : decode b_EditedText_standsAt 19 = .ok (.getfield 37, 3) := by decide +kernel
theorem d_EditedText_standsAt_22 : decode b_EditedText_standsAt 22 = .ok (.if_icmp .ge 28, 3) := by decide +kernel
theorem d_EditedText_standsAt_25 : decode b_EditedText_standsAt 25 = .ok (.aload_n 0, 1) := by decide +kernel
theorem d_EditedText_standsAt_26 : decode b_EditedText_standsAt 26 = .ok (.getfield 9, 3) := by decide +kernel
theorem d_EditedText_standsAt_29 : decode b_EditedText_standsAt 29 = .ok (.iload_n 1, 1) := by decide +kernel
theorem d_EditedText_standsAt_30 : decode b_EditedText_standsAt 30 = .ok (.iload_n 3, 1) := by decide +kernel
theorem d_EditedText_standsAt_31 : decode b_EditedText_standsAt 31 = .ok (.iadd, 1) := by decide +kernel
theorem d_EditedText_standsAt_32 : decode b_EditedText_standsAt 32 = .ok (.iaload, 1) := by decide +kernel
theorem d_EditedText_standsAt_33 : decode b_EditedText_standsAt 33 = .ok (.aload_n 2, 1) := by decide +kernel
theorem d_EditedText_standsAt_34 : decode b_EditedText_standsAt 34 = .ok (.getfield 46, 3) := by decide +kernel
theorem d_EditedText_standsAt_37 : decode b_EditedText_standsAt 37 = .ok (.iload_n 3, 1) := by decide +kernel
theorem d_EditedText_standsAt_38 : decode b_EditedText_standsAt 38 = .ok (.iaload, 1) := by decide +kernel
theorem d_EditedText_standsAt_39 : decode b_EditedText_standsAt 39 = .ok (.if_icmp .eq 5, 3) := by decide +kernel
theorem d_EditedText_standsAt_42 : decode b_EditedText_standsAt 42 = .ok (.iconst 0, 1) := by decide +kernel
theorem d_EditedText_standsAt_43 : decode b_EditedText_standsAt 43 = .ok (.ireturn, 1) := by decide +kernel
theorem d_EditedText_standsAt_44 : decode b_EditedText_standsAt 44 = .ok (.iinc 3 1, 3) := by decide +kernel
theorem d_EditedText_standsAt_47 : decode b_EditedText_standsAt 47 = .ok (.goto (-30), 3) := by decide +kernel
theorem d_EditedText_standsAt_50 : decode b_EditedText_standsAt 50 = .ok (.iconst 1, 1) := by decide +kernel
theorem d_EditedText_standsAt_51 : decode b_EditedText_standsAt 51 = .ok (.ireturn, 1) := by decide +kernel
theorem d_EditedText_countPlaces_0 : decode b_EditedText_countPlaces 0 = .ok (.iconst 0, 1) := by decide +kernel
theorem d_EditedText_countPlaces_1 : decode b_EditedText_countPlaces 1 = .ok (.istore_n 2, 1) := by decide +kernel
theorem d_EditedText_countPlaces_2 : decode b_EditedText_countPlaces 2 = .ok (.iconst 0, 1) := by decide +kernel
theorem d_EditedText_countPlaces_3 : decode b_EditedText_countPlaces 3 = .ok (.istore_n 3, 1) := by decide +kernel
theorem d_EditedText_countPlaces_4 : decode b_EditedText_countPlaces 4 = .ok (.iload_n 3, 1) := by decide +kernel
theorem d_EditedText_countPlaces_5 : decode b_EditedText_countPlaces 5 = .ok (.aload_n 0, 1) := by decide +kernel
theorem d_EditedText_countPlaces_6 : decode b_EditedText_countPlaces 6 = .ok (.getfield 29, 3) := by decide +kernel
theorem d_EditedText_countPlaces_9 : decode b_EditedText_countPlaces 9 = .ok (.if_icmp .ge 21, 3) := by decide +kernel
theorem d_EditedText_countPlaces_12 : decode b_EditedText_countPlaces 12 = .ok (.aload_n 0, 1) := by decide +kernel
theorem d_EditedText_countPlaces_13 : decode b_EditedText_countPlaces 13 = .ok (.iload_n 3, 1) := by decide +kernel
theorem d_EditedText_countPlaces_14 : decode b_EditedText_countPlaces 14 = .ok (.aload_n 1, 1) := by decide +kernel
theorem d_EditedText_countPlaces_15 : decode b_EditedText_countPlaces 15 = .ok (.invokevirtual 68, 3) := by decide +kernel
theorem d_EditedText_countPlaces_18 : decode b_EditedText_countPlaces 18 = .ok (.ifCond .eq 6, 3) := by decide +kernel
theorem d_EditedText_countPlaces_21 : decode b_EditedText_countPlaces 21 = .ok (.iinc 2 1, 3) := by decide +kernel
theorem d_EditedText_countPlaces_24 : decode b_EditedText_countPlaces 24 = .ok (.iinc 3 1, 3) := by decide +kernel
theorem d_EditedText_countPlaces_27 : decode b_EditedText_countPlaces 27 = .ok (.goto (-23), 3) := by decide +kernel
theorem d_EditedText_countPlaces_30 : decode b_EditedText_countPlaces 30 = .ok (.iload_n 2, 1) := by decide +kernel
theorem d_EditedText_countPlaces_31 : decode b_EditedText_countPlaces 31 = .ok (.ireturn, 1) := by decide +kernel
theorem d_EditedText_leastSuffixBeginning_0 : decode b_EditedText_leastSuffixBeginning 0 = .ok (.aload_n 0, 1) := by decide +kernel
theorem d_EditedText_leastSuffixBeginning_1 : decode b_EditedText_leastSuffixBeginning 1 = .ok (.invokevirtual 61, 3) := by decide +kernel
theorem d_EditedText_leastSuffixBeginning_4 : decode b_EditedText_leastSuffixBeginning 4 = .ok (.getfield 65, 3) := by decide +kernel
theorem d_EditedText_leastSuffixBeginning_7 : decode b_EditedText_leastSuffixBeginning 7 = .ok (.astore_n 2, 1) := by decide +kernel
theorem d_EditedText_leastSuffixBeginning_8 : decode b_EditedText_leastSuffixBeginning 8 = .ok (.iconst 0, 1) := by decide +kernel
theorem d_EditedText_leastSuffixBeginning_9 : decode b_EditedText_leastSuffixBeginning 9 = .ok (.istore_n 3, 1) := by decide +kernel
theorem d_EditedText_leastSuffixBeginning_10 : decode b_EditedText_leastSuffixBeginning 10 = .ok (.iload_n 3, 1) := by decide +kernel
theorem d_EditedText_leastSuffixBeginning_11 : decode b_EditedText_leastSuffixBeginning 11 = .ok (.aload_n 0, 1) := by decide +kernel
theorem d_EditedText_leastSuffixBeginning_12 : decode b_EditedText_leastSuffixBeginning 12 = .ok (.getfield 29, 3) := by decide +kernel
theorem d_EditedText_leastSuffixBeginning_15 : decode b_EditedText_leastSuffixBeginning 15 = .ok (.if_icmp .ge 22, 3) := by decide +kernel
theorem d_EditedText_leastSuffixBeginning_18 : decode b_EditedText_leastSuffixBeginning 18 = .ok (.aload_n 0, 1) := by decide +kernel
theorem d_EditedText_leastSuffixBeginning_19 : decode b_EditedText_leastSuffixBeginning 19 = .ok (.aload_n 2, 1) := by decide +kernel
theorem d_EditedText_leastSuffixBeginning_20 : decode b_EditedText_leastSuffixBeginning 20 = .ok (.iload_n 3, 1) := by decide +kernel
theorem d_EditedText_leastSuffixBeginning_21 : decode b_EditedText_leastSuffixBeginning 21 = .ok (.iaload, 1) := by decide +kernel
theorem d_EditedText_leastSuffixBeginning_22 : decode b_EditedText_leastSuffixBeginning 22 = .ok (.aload_n 1, 1) := by decide +kernel
theorem d_EditedText_leastSuffixBeginning_23 : decode b_EditedText_leastSuffixBeginning 23 = .ok (.invokevirtual 68, 3) := by decide +kernel
theorem d_EditedText_leastSuffixBeginning_26 : decode b_EditedText_leastSuffixBeginning 26 = .ok (.ifCond .eq 5, 3) := by decide +kernel
theorem d_EditedText_leastSuffixBeginning_29 : decode b_EditedText_leastSuffixBeginning 29 = .ok (.iload_n 3, 1) := by decide +kernel
theorem d_EditedText_leastSuffixBeginning_30 : decode b_EditedText_leastSuffixBeginning 30 = .ok (.ireturn, 1) := by decide +kernel
theorem d_EditedText_leastSuffixBeginning_31 : decode b_EditedText_leastSuffixBeginning 31 = .ok (.iinc 3 1, 3) := by decide +kernel
theorem d_EditedText_leastSuffixBeginning_34 : decode b_EditedText_leastSuffixBeginning 34 = .ok (.goto (-24), 3) := by decide +kernel
theorem d_EditedText_leastSuffixBeginning_37 : decode b_EditedText_leastSuffixBeginning 37 = .ok (.iconst (-1), 1) := by decide +kernel
theorem d_EditedText_leastSuffixBeginning_38 : decode b_EditedText_leastSuffixBeginning 38 = .ok (.ireturn, 1) := by decide +kernel
theorem d_History_init_0 : decode b_History_init 0 = .ok (.aload_n 0, 1) := by decide +kernel
theorem d_History_init_1 : decode b_History_init 1 = .ok (.invokespecial 3, 3) := by decide +kernel
theorem d_History_init_4 : decode b_History_init 4 = .ok (.aload_n 0, 1) := by decide +kernel
theorem d_History_init_5 : decode b_History_init 5 = .ok (.sipush 2400, 3) := by decide +kernel
theorem d_History_init_8 : decode b_History_init 8 = .ok (.newarray .int, 2) := by decide +kernel
theorem d_History_init_10 : decode b_History_init 10 = .ok (.putfield 9, 3) := by decide +kernel
theorem d_History_init_13 : decode b_History_init 13 = .ok (.aload_n 0, 1) := by decide +kernel
theorem d_History_init_14 : decode b_History_init 14 = .ok (.bipush 20, 2) := by decide +kernel
theorem d_History_init_16 : decode b_History_init 16 = .ok (.newarray .int, 2) := by decide +kernel
theorem d_History_init_18 : decode b_History_init 18 = .ok (.putfield 15, 3) := by decide +kernel
theorem d_History_init_21 : decode b_History_init 21 = .ok (.return_, 1) := by decide +kernel
theorem d_History_keep_0 : decode b_History_keep 0 = .ok (.aload_n 0, 1) := by decide +kernel
theorem d_History_keep_1 : decode b_History_keep 1 = .ok (.aload_n 0, 1) := by decide +kernel
theorem d_History_keep_2 : decode b_History_keep 2 = .ok (.getfield 18, 3) := by decide +kernel
theorem d_History_keep_5 : decode b_History_keep 5 = .ok (.iconst 1, 1) := by decide +kernel
theorem d_History_keep_6 : decode b_History_keep 6 = .ok (.iadd, 1) := by decide +kernel
theorem d_History_keep_7 : decode b_History_keep 7 = .ok (.bipush 20, 2) := by decide +kernel
theorem d_History_keep_9 : decode b_History_keep 9 = .ok (.if_icmp .ge 12, 3) := by decide +kernel
theorem d_History_keep_12 : decode b_History_keep 12 = .ok (.aload_n 0, 1) := by decide +kernel
theorem d_History_keep_13 : decode b_History_keep 13 = .ok (.getfield 18, 3) := by decide +kernel
theorem d_History_keep_16 : decode b_History_keep 16 = .ok (.iconst 1, 1) := by decide +kernel
theorem d_History_keep_17 : decode b_History_keep 17 = .ok (.iadd, 1) := by decide +kernel
theorem d_History_keep_18 : decode b_History_keep 18 = .ok (.goto 4, 3) := by decide +kernel
theorem d_History_keep_21 : decode b_History_keep 21 = .ok (.iconst 0, 1) := by decide +kernel
theorem d_History_keep_22 : decode b_History_keep 22 = .ok (.putfield 18, 3) := by decide +kernel
theorem d_History_keep_25 : decode b_History_keep 25 = .ok (.aload_n 1, 1) := by decide +kernel
theorem d_History_keep_26 : decode b_History_keep 26 = .ok (.iconst 0, 1) := by decide +kernel
theorem d_History_keep_27 : decode b_History_keep 27 = .ok (.aload_n 0, 1) := by decide +kernel
theorem d_History_keep_28 : decode b_History_keep 28 = .ok (.getfield 9, 3) := by decide +kernel
theorem d_History_keep_31 : decode b_History_keep 31 = .ok (.aload_n 0, 1) := by decide +kernel
theorem d_History_keep_32 : decode b_History_keep 32 = .ok (.getfield 18, 3) := by decide +kernel
theorem d_History_keep_35 : decode b_History_keep 35 = .ok (.bipush 120, 2) := by decide +kernel
theorem d_History_keep_37 : decode b_History_keep 37 = .ok (.imul, 1) := by decide +kernel
theorem d_History_keep_38 : decode b_History_keep 38 = .ok (.iload_n 2, 1) := by decide +kernel
theorem d_History_keep_39 : decode b_History_keep 39 = .ok (.invokestatic 22, 3) := by decide +kernel
theorem d_History_keep_42 : decode b_History_keep 42 = .ok (.aload_n 0, 1) := by decide +kernel
theorem d_History_keep_43 : decode b_History_keep 43 = .ok (.getfield 15, 3) := by decide +kernel
theorem d_History_keep_46 : decode b_History_keep 46 = .ok (.aload_n 0, 1) := by decide +kernel
theorem d_History_keep_47 : decode b_History_keep 47 = .ok (.getfield 18, 3) := by decide +kernel
theorem d_History_keep_50 : decode b_History_keep 50 = .ok (.iload_n 2, 1) := by decide +kernel
theorem d_History_keep_51 : decode b_History_keep 51 = .ok (.iastore, 1) := by decide +kernel
theorem d_History_keep_52 : decode b_History_keep 52 = .ok (.aload_n 0, 1) := by decide +kernel
theorem d_History_keep_53 : decode b_History_keep 53 = .ok (.aload_n 0, 1) := by decide +kernel
theorem d_History_keep_54 : decode b_History_keep 54 = .ok (.getfield 28, 3) := by decide +kernel
theorem d_History_keep_57 : decode b_History_keep 57 = .ok (.iconst 1, 1) := by decide +kernel
theorem d_History_keep_58 : decode b_History_keep 58 = .ok (.iadd, 1) := by decide +kernel
theorem d_History_keep_59 : decode b_History_keep 59 = .ok (.bipush 20, 2) := by decide +kernel
theorem d_History_keep_61 : decode b_History_keep 61 = .ok (.invokestatic 31, 3) := by decide +kernel
theorem d_History_keep_64 : decode b_History_keep 64 = .ok (.putfield 28, 3) := by decide +kernel
theorem d_History_keep_67 : decode b_History_keep 67 = .ok (.return_, 1) := by decide +kernel
theorem d_History_giveBack_0 : decode b_History_giveBack 0 = .ok (.aload_n 0, 1) := by decide +kernel
theorem d_History_giveBack_1 : decode b_History_giveBack 1 = .ok (.getfield 15, 3) := by decide +kernel
theorem d_History_giveBack_4 : decode b_History_giveBack 4 = .ok (.aload_n 0, 1) := by decide +kernel
theorem d_History_giveBack_5 : decode b_History_giveBack 5 = .ok (.getfield 18, 3) := by decide +kernel
theorem d_History_giveBack_8 : decode b_History_giveBack 8 = .ok (.iaload, 1) := by decide +kernel
theorem d_History_giveBack_9 : decode b_History_giveBack 9 = .ok (.istore_n 2, 1) := by decide +kernel
theorem d_History_giveBack_10 : decode b_History_giveBack 10 = .ok (.aload_n 0, 1) := by decide +kernel
theorem d_History_giveBack_11 : decode b_History_giveBack 11 = .ok (.getfield 9, 3) := by decide +kernel
theorem d_History_giveBack_14 : decode b_History_giveBack 14 = .ok (.aload_n 0, 1) := by decide +kernel
theorem d_History_giveBack_15 : decode b_History_giveBack 15 = .ok (.getfield 18, 3) := by decide +kernel
theorem d_History_giveBack_18 : decode b_History_giveBack 18 = .ok (.bipush 120, 2) := by decide +kernel
theorem d_History_giveBack_20 : decode b_History_giveBack 20 = .ok (.imul, 1) := by decide +kernel
theorem d_History_giveBack_21 : decode b_History_giveBack 21 = .ok (.aload_n 1, 1) := by decide +kernel
theorem d_History_giveBack_22 : decode b_History_giveBack 22 = .ok (.iconst 0, 1) := by decide +kernel
theorem d_History_giveBack_23 : decode b_History_giveBack 23 = .ok (.iload_n 2, 1) := by decide +kernel
theorem d_History_giveBack_24 : decode b_History_giveBack 24 = .ok (.invokestatic 22, 3) := by decide +kernel
theorem d_History_giveBack_27 : decode b_History_giveBack 27 = .ok (.aload_n 0, 1) := by decide +kernel
theorem d_History_giveBack_28 : decode b_History_giveBack 28 = .ok (.aload_n 0, 1) := by decide +kernel
theorem d_History_giveBack_29 : decode b_History_giveBack 29 = .ok (.getfield 18, 3) := by decide +kernel
theorem d_History_giveBack_32 : decode b_History_giveBack 32 = .ok (.ifCond .le 12, 3) := by decide +kernel
theorem d_History_giveBack_35 : decode b_History_giveBack 35 = .ok (.aload_n 0, 1) := by decide +kernel
theorem d_History_giveBack_36 : decode b_History_giveBack 36 = .ok (.getfield 18, 3) := by decide +kernel
theorem d_History_giveBack_39 : decode b_History_giveBack 39 = .ok (.iconst 1, 1) := by decide +kernel
theorem d_History_giveBack_40 : decode b_History_giveBack 40 = .ok (.isub, 1) := by decide +kernel
theorem d_History_giveBack_41 : decode b_History_giveBack 41 = .ok (.goto 5, 3) := by decide +kernel
theorem d_History_giveBack_44 : decode b_History_giveBack 44 = .ok (.bipush 19, 2) := by decide +kernel
theorem d_History_giveBack_46 : decode b_History_giveBack 46 = .ok (.putfield 18, 3) := by decide +kernel
theorem d_History_giveBack_49 : decode b_History_giveBack 49 = .ok (.aload_n 0, 1) := by decide +kernel
theorem d_History_giveBack_50 : decode b_History_giveBack 50 = .ok (.dup, 1) := by decide +kernel
theorem d_History_giveBack_51 : decode b_History_giveBack 51 = .ok (.getfield 28, 3) := by decide +kernel
theorem d_History_giveBack_54 : decode b_History_giveBack 54 = .ok (.iconst 1, 1) := by decide +kernel
theorem d_History_giveBack_55 : decode b_History_giveBack 55 = .ok (.isub, 1) := by decide +kernel
theorem d_History_giveBack_56 : decode b_History_giveBack 56 = .ok (.putfield 28, 3) := by decide +kernel
theorem d_History_giveBack_59 : decode b_History_giveBack 59 = .ok (.iload_n 2, 1) := by decide +kernel
theorem d_History_giveBack_60 : decode b_History_giveBack 60 = .ok (.ireturn, 1) := by decide +kernel
theorem d_SuffixOrder_init_0 : decode b_SuffixOrder_init 0 = .ok (.aload_n 0, 1) := by decide +kernel
theorem d_SuffixOrder_init_1 : decode b_SuffixOrder_init 1 = .ok (.invokespecial 3, 3) := by decide +kernel
theorem d_SuffixOrder_init_4 : decode b_SuffixOrder_init 4 = .ok (.aload_n 0, 1) := by decide +kernel
theorem d_SuffixOrder_init_5 : decode b_SuffixOrder_init 5 = .ok (.bipush 120, 2) := by decide +kernel
theorem d_SuffixOrder_init_7 : decode b_SuffixOrder_init 7 = .ok (.newarray .int, 2) := by decide +kernel
theorem d_SuffixOrder_init_9 : decode b_SuffixOrder_init 9 = .ok (.putfield 9, 3) := by decide +kernel
theorem d_SuffixOrder_init_12 : decode b_SuffixOrder_init 12 = .ok (.aload_n 0, 1) := by decide +kernel
theorem d_SuffixOrder_init_13 : decode b_SuffixOrder_init 13 = .ok (.bipush 121, 2) := by decide +kernel
theorem d_SuffixOrder_init_15 : decode b_SuffixOrder_init 15 = .ok (.newarray .int, 2) := by decide +kernel
theorem d_SuffixOrder_init_17 : decode b_SuffixOrder_init 17 = .ok (.putfield 15, 3) := by decide +kernel
theorem d_SuffixOrder_init_20 : decode b_SuffixOrder_init 20 = .ok (.return_, 1) := by decide +kernel
theorem d_SuffixOrder_sort_0 : decode b_SuffixOrder_sort 0 = .ok (.aload_n 0, 1) := by decide +kernel
theorem d_SuffixOrder_sort_1 : decode b_SuffixOrder_sort 1 = .ok (.getfield 15, 3) := by decide +kernel
theorem d_SuffixOrder_sort_4 : decode b_SuffixOrder_sort 4 = .ok (.iload_n 2, 1) := by decide +kernel
theorem d_SuffixOrder_sort_5 : decode b_SuffixOrder_sort 5 = .ok (.iconst (-1), 1) := by decide +kernel
theorem d_SuffixOrder_sort_6 : decode b_SuffixOrder_sort 6 = .ok (.iastore, 1) := by decide +kernel
theorem d_SuffixOrder_sort_7 : decode b_SuffixOrder_sort 7 = .ok (.iload_n 2, 1) := by decide +kernel
theorem d_SuffixOrder_sort_8 : decode b_SuffixOrder_sort 8 = .ok (.iconst 1, 1) := by decide +kernel
theorem d_SuffixOrder_sort_9 : decode b_SuffixOrder_sort 9 = .ok (.isub, 1) := by decide +kernel
theorem d_SuffixOrder_sort_10 : decode b_SuffixOrder_sort 10 = .ok (.istore_n 3, 1) := by decide +kernel
theorem d_SuffixOrder_sort_11 : decode b_SuffixOrder_sort 11 = .ok (.iload_n 3, 1) := by decide +kernel
theorem d_SuffixOrder_sort_12 : decode b_SuffixOrder_sort 12 = .ok (.ifCond .lt 91, 3) := by decide +kernel
theorem d_SuffixOrder_sort_15 : decode b_SuffixOrder_sort 15 = .ok (.iload_n 2, 1) := by decide +kernel
theorem d_SuffixOrder_sort_16 : decode b_SuffixOrder_sort 16 = .ok (.iconst 1, 1) := by decide +kernel
theorem d_SuffixOrder_sort_17 : decode b_SuffixOrder_sort 17 = .ok (.isub, 1) := by decide +kernel
theorem d_SuffixOrder_sort_18 : decode b_SuffixOrder_sort 18 = .ok (.iload_n 3, 1) := by decide +kernel
theorem d_SuffixOrder_sort_19 : decode b_SuffixOrder_sort 19 = .ok (.isub, 1) := by decide +kernel
theorem d_SuffixOrder_sort_20 : decode b_SuffixOrder_sort 20 = .ok (.istore 4, 2) := by decide +kernel
theorem d_SuffixOrder_sort_22 : decode b_SuffixOrder_sort 22 = .ok (.iload 4, 2) := by decide +kernel
theorem d_SuffixOrder_sort_24 : decode b_SuffixOrder_sort 24 = .ok (.ifCond .le 57, 3) := by decide +kernel
theorem d_SuffixOrder_sort_27 : decode b_SuffixOrder_sort 27 = .ok (.aload_n 0, 1) := by decide +kernel
theorem d_SuffixOrder_sort_28 : decode b_SuffixOrder_sort 28 = .ok (.aload_n 1, 1) := by decide +kernel
theorem d_SuffixOrder_sort_29 : decode b_SuffixOrder_sort 29 = .ok (.iload_n 3, 1) := by decide +kernel
theorem d_SuffixOrder_sort_30 : decode b_SuffixOrder_sort 30 = .ok (.aload_n 0, 1) := by decide +kernel
theorem d_SuffixOrder_sort_31 : decode b_SuffixOrder_sort 31 = .ok (.getfield 9, 3) := by decide +kernel
theorem d_SuffixOrder_sort_34 : decode b_SuffixOrder_sort 34 = .ok (.iload 4, 2) := by decide +kernel
theorem d_SuffixOrder_sort_36 : decode b_SuffixOrder_sort 36 = .ok (.iconst 1, 1) := by decide +kernel
theorem d_SuffixOrder_sort_37 : decode b_SuffixOrder_sort 37 = .ok (.isub, 1) := by decide +kernel
theorem d_SuffixOrder_sort_38 : decode b_SuffixOrder_sort 38 = .ok (.iaload, 1) := by decide +kernel
theorem d_SuffixOrder_sort_39 : decode b_SuffixOrder_sort 39 = .ok (.invokevirtual 18, 3) := by decide +kernel
theorem d_SuffixOrder_sort_42 : decode b_SuffixOrder_sort 42 = .ok (.ifCond .eq 39, 3) := by decide +kernel
theorem d_SuffixOrder_sort_45 : decode b_SuffixOrder_sort 45 = .ok (.aload_n 0, 1) := by decide +kernel
theorem d_SuffixOrder_sort_46 : decode b_SuffixOrder_sort 46 = .ok (.getfield 9, 3) := by decide +kernel
theorem d_SuffixOrder_sort_49 : decode b_SuffixOrder_sort 49 = .ok (.iload 4, 2) := by decide +kernel
theorem d_SuffixOrder_sort_51 : decode b_SuffixOrder_sort 51 = .ok (.aload_n 0, 1) := by decide +kernel
theorem d_SuffixOrder_sort_52 : decode b_SuffixOrder_sort 52 = .ok (.getfield 9, 3) := by decide +kernel
theorem d_SuffixOrder_sort_55 : decode b_SuffixOrder_sort 55 = .ok (.iload 4, 2) := by decide +kernel
theorem d_SuffixOrder_sort_57 : decode b_SuffixOrder_sort 57 = .ok (.iconst 1, 1) := by decide +kernel
theorem d_SuffixOrder_sort_58 : decode b_SuffixOrder_sort 58 = .ok (.isub, 1) := by decide +kernel
theorem d_SuffixOrder_sort_59 : decode b_SuffixOrder_sort 59 = .ok (.iaload, 1) := by decide +kernel
theorem d_SuffixOrder_sort_60 : decode b_SuffixOrder_sort 60 = .ok (.iastore, 1) := by decide +kernel
theorem d_SuffixOrder_sort_61 : decode b_SuffixOrder_sort 61 = .ok (.aload_n 0, 1) := by decide +kernel
theorem d_SuffixOrder_sort_62 : decode b_SuffixOrder_sort 62 = .ok (.getfield 15, 3) := by decide +kernel
theorem d_SuffixOrder_sort_65 : decode b_SuffixOrder_sort 65 = .ok (.aload_n 0, 1) := by decide +kernel
theorem d_SuffixOrder_sort_66 : decode b_SuffixOrder_sort 66 = .ok (.getfield 9, 3) := by decide +kernel
theorem d_SuffixOrder_sort_69 : decode b_SuffixOrder_sort 69 = .ok (.iload 4, 2) := by decide +kernel
theorem d_SuffixOrder_sort_71 : decode b_SuffixOrder_sort 71 = .ok (.iaload, 1) := by decide +kernel
theorem d_SuffixOrder_sort_72 : decode b_SuffixOrder_sort 72 = .ok (.iload 4, 2) := by decide +kernel
theorem d_SuffixOrder_sort_74 : decode b_SuffixOrder_sort 74 = .ok (.iastore, 1) := by decide +kernel
theorem d_SuffixOrder_sort_75 : decode b_SuffixOrder_sort 75 = .ok (.iinc 4 (-1), 3) := by decide +kernel
theorem d_SuffixOrder_sort_78 : decode b_SuffixOrder_sort 78 = .ok (.goto (-56), 3) := by decide +kernel
theorem d_SuffixOrder_sort_81 : decode b_SuffixOrder_sort 81 = .ok (.aload_n 0, 1) := by decide +kernel
theorem d_SuffixOrder_sort_82 : decode b_SuffixOrder_sort 82 = .ok (.getfield 9, 3) := by decide +kernel
theorem d_SuffixOrder_sort_85 : decode b_SuffixOrder_sort 85 = .ok (.iload 4, 2) := by decide +kernel
theorem d_SuffixOrder_sort_87 : decode b_SuffixOrder_sort 87 = .ok (.iload_n 3, 1) := by decide +kernel
theorem d_SuffixOrder_sort_88 : decode b_SuffixOrder_sort 88 = .ok (.iastore, 1) := by decide +kernel
theorem d_SuffixOrder_sort_89 : decode b_SuffixOrder_sort 89 = .ok (.aload_n 0, 1) := by decide +kernel
theorem d_SuffixOrder_sort_90 : decode b_SuffixOrder_sort 90 = .ok (.getfield 15, 3) := by decide +kernel
theorem d_SuffixOrder_sort_93 : decode b_SuffixOrder_sort 93 = .ok (.iload_n 3, 1) := by decide +kernel
theorem d_SuffixOrder_sort_94 : decode b_SuffixOrder_sort 94 = .ok (.iload 4, 2) := by decide +kernel
theorem d_SuffixOrder_sort_96 : decode b_SuffixOrder_sort 96 = .ok (.iastore, 1) := by decide +kernel
theorem d_SuffixOrder_sort_97 : decode b_SuffixOrder_sort 97 = .ok (.iinc 3 (-1), 3) := by decide +kernel
theorem d_SuffixOrder_sort_100 : decode b_SuffixOrder_sort 100 = .ok (.goto (-89), 3) := by decide +kernel
theorem d_SuffixOrder_sort_103 : decode b_SuffixOrder_sort 103 = .ok (.return_, 1) := by decide +kernel
theorem d_SuffixOrder_isLess_0 : decode b_SuffixOrder_isLess 0 = .ok (.aload_n 1, 1) := by decide +kernel
theorem d_SuffixOrder_isLess_1 : decode b_SuffixOrder_isLess 1 = .ok (.iload_n 2, 1) := by decide +kernel
theorem d_SuffixOrder_isLess_2 : decode b_SuffixOrder_isLess 2 = .ok (.iaload, 1) := by decide +kernel
theorem d_SuffixOrder_isLess_3 : decode b_SuffixOrder_isLess 3 = .ok (.aload_n 1, 1) := by decide +kernel
theorem d_SuffixOrder_isLess_4 : decode b_SuffixOrder_isLess 4 = .ok (.iload_n 3, 1) := by decide +kernel
theorem d_SuffixOrder_isLess_5 : decode b_SuffixOrder_isLess 5 = .ok (.iaload, 1) := by decide +kernel
theorem d_SuffixOrder_isLess_6 : decode b_SuffixOrder_isLess 6 = .ok (.if_icmp .eq 18, 3) := by decide +kernel
theorem d_SuffixOrder_isLess_9 : decode b_SuffixOrder_isLess 9 = .ok (.aload_n 1, 1) := by decide +kernel
theorem d_SuffixOrder_isLess_10 : decode b_SuffixOrder_isLess 10 = .ok (.iload_n 2, 1) := by decide +kernel
theorem d_SuffixOrder_isLess_11 : decode b_SuffixOrder_isLess 11 = .ok (.iaload, 1) := by decide +kernel
theorem d_SuffixOrder_isLess_12 : decode b_SuffixOrder_isLess 12 = .ok (.aload_n 1, 1) := by decide +kernel
theorem d_SuffixOrder_isLess_13 : decode b_SuffixOrder_isLess 13 = .ok (.iload_n 3, 1) := by decide +kernel
theorem d_SuffixOrder_isLess_14 : decode b_SuffixOrder_isLess 14 = .ok (.iaload, 1) := by decide +kernel
theorem d_SuffixOrder_isLess_15 : decode b_SuffixOrder_isLess 15 = .ok (.if_icmp .ge 7, 3) := by decide +kernel
theorem d_SuffixOrder_isLess_18 : decode b_SuffixOrder_isLess 18 = .ok (.iconst 1, 1) := by decide +kernel
theorem d_SuffixOrder_isLess_19 : decode b_SuffixOrder_isLess 19 = .ok (.goto 4, 3) := by decide +kernel
theorem d_SuffixOrder_isLess_22 : decode b_SuffixOrder_isLess 22 = .ok (.iconst 0, 1) := by decide +kernel
theorem d_SuffixOrder_isLess_23 : decode b_SuffixOrder_isLess 23 = .ok (.ireturn, 1) := by decide +kernel
theorem d_SuffixOrder_isLess_24 : decode b_SuffixOrder_isLess 24 = .ok (.aload_n 0, 1) := by decide +kernel
theorem d_SuffixOrder_isLess_25 : decode b_SuffixOrder_isLess 25 = .ok (.getfield 15, 3) := by decide +kernel
theorem d_SuffixOrder_isLess_28 : decode b_SuffixOrder_isLess 28 = .ok (.iload_n 2, 1) := by decide +kernel
theorem d_SuffixOrder_isLess_29 : decode b_SuffixOrder_isLess 29 = .ok (.iconst 1, 1) := by decide +kernel
theorem d_SuffixOrder_isLess_30 : decode b_SuffixOrder_isLess 30 = .ok (.iadd, 1) := by decide +kernel
theorem d_SuffixOrder_isLess_31 : decode b_SuffixOrder_isLess 31 = .ok (.iaload, 1) := by decide +kernel
theorem d_SuffixOrder_isLess_32 : decode b_SuffixOrder_isLess 32 = .ok (.aload_n 0, 1) := by decide +kernel
theorem d_SuffixOrder_isLess_33 : decode b_SuffixOrder_isLess 33 = .ok (.getfield 15, 3) := by decide +kernel
theorem d_SuffixOrder_isLess_36 : decode b_SuffixOrder_isLess 36 = .ok (.iload_n 3, 1) := by decide +kernel
theorem d_SuffixOrder_isLess_37 : decode b_SuffixOrder_isLess 37 = .ok (.iconst 1, 1) := by decide +kernel
theorem d_SuffixOrder_isLess_38 : decode b_SuffixOrder_isLess 38 = .ok (.iadd, 1) := by decide +kernel
theorem d_SuffixOrder_isLess_39 : decode b_SuffixOrder_isLess 39 = .ok (.iaload, 1) := by decide +kernel
theorem d_SuffixOrder_isLess_40 : decode b_SuffixOrder_isLess 40 = .ok (.if_icmp .ge 7, 3) := by decide +kernel
theorem d_SuffixOrder_isLess_43 : decode b_SuffixOrder_isLess 43 = .ok (.iconst 1, 1) := by decide +kernel
theorem d_SuffixOrder_isLess_44 : decode b_SuffixOrder_isLess 44 = .ok (.goto 4, 3) := by decide +kernel
theorem d_SuffixOrder_isLess_47 : decode b_SuffixOrder_isLess 47 = .ok (.iconst 0, 1) := by decide +kernel
theorem d_SuffixOrder_isLess_48 : decode b_SuffixOrder_isLess 48 = .ok (.ireturn, 1) := by decide +kernel
end
section
theorem mm_Automaton_77 : Cond.methodLink R_Automaton 77 Lib.Math.max.name ∈ gWS ∧ Cond.static Lib.Math.max.name ∈ gWS ∧ Cond.initialized "java/lang/Math" ∈ gWS ∧ Cond.code Lib.Math.max.name Lib.Math.max.code 2 (some .int) ∈ gWS := ⟨(gWS_at 477 (by decide +kernel) (by decide +kernel)), (gWS_at 478 (by decide +kernel) (by decide +kernel)), (gWS_at 57 (by decide +kernel) (by decide +kernel)), (gWS_at 479 (by decide +kernel) (by decide +kernel))⟩
theorem mm_History_31 : Cond.methodLink R_History 31 Lib.Math.min.name ∈ gWS ∧ Cond.static Lib.Math.min.name ∈ gWS ∧ Cond.initialized "java/lang/Math" ∈ gWS ∧ Cond.code Lib.Math.min.name Lib.Math.min.code 2 (some .int) ∈ gWS := ⟨(gWS_at 824 (by decide +kernel) (by decide +kernel)), (gWS_at 825 (by decide +kernel) (by decide +kernel)), (gWS_at 57 (by decide +kernel) (by decide +kernel)), (gWS_at 826 (by decide +kernel) (by decide +kernel))⟩
end
section
/-! pictures of the cells -/
/-- a Key at a, its letters' array right behind it: the text xs -/
def kA (D : va_G) (q : Nat → ClassId) (H : Heap) (a : Nat) (xs : List Nat) : Prop :=
  va_at D CL (a, .inr (0, [.ref (a + 1), .int (nI xs.length)])) H ∧ (∃ f : Nat → Int32, va_at D CL (a + 1, .inl (q 0, 8, .inl f)) H ∧ ∀ j, j < xs.length → f j = nI (xs.getD j 0)) ∧ xs.length ≤ 8 ∧ ∀ x ∈ xs, x < 65536
theorem kA.kept {D : va_G} {q : Nat → ClassId} {H H1 : Heap} {a : Nat} {xs : List Nat} (h : kA D q H a xs) (h0 : H1[a]? = H[a]?) (h1 : H1[a + 1]? = H[a + 1]?) : kA D q H1 a xs := by
  obtain ⟨ha, ⟨f, hf, e⟩, hl, hc⟩ := h
  exact ⟨ha.kept h0, ⟨f, va_at.kept hf h1, e⟩, hl, hc⟩
theorem kA.lt {D : va_G} {q : Nat → ClassId} {H : Heap} {a : Nat} {xs : List Nat} (h : kA D q H a xs) : a + 1 < H.size := by
  obtain ⟨ha, ⟨f, hf, e⟩, hl, hc⟩ := h
  exact va_at.lt hf
theorem gfr {A : Nat → Prop} {H H1 H2 : Heap} {a : Nat} (fr : ∀ q : Nat, ¬ A q → H1[q]? = H[q]?) (oq : ∀ q : Nat, q ≠ a → H2[q]? = H1[q]?) (ha : A a) : ∀ q : Nat, ¬ A q → H2[q]? = H[q]? := fun q hq => (oq q (fun e => hq (e ▸ ha))).trans (fr q hq)
theorem t_get_app {xs : List Nat} {x j : Nat} (h : j < xs.length) : (xs ++ [x]).getD j 0 = xs.getD j 0 := by
  rw [List.getD_eq_getElem?_getD, List.getD_eq_getElem?_getD, List.getElem?_append_left h]
theorem t_get_last {xs : List Nat} {x : Nat} : (xs ++ [x]).getD xs.length 0 = x := by
  rw [List.getD_eq_getElem?_getD]
  simp
theorem t_drop_eq {xs ys : List Nat} {i j : Nat} (hi : i ≤ xs.length) (hj : j ≤ ys.length) (hl : xs.length - i = ys.length - j) (h : ∀ k, i ≤ k → k < xs.length → xs.getD k 0 = ys.getD (k - i + j) 0) : xs.drop i = ys.drop j := by
  apply List.ext_getElem?
  intro k
  rw [List.getElem?_drop, List.getElem?_drop]
  by_cases hk : i + k < xs.length
  · have h1 := h (i + k) (by omega) hk
    rw [List.getD_eq_getElem?_getD, List.getD_eq_getElem?_getD, show i + k - i + j = j + k by omega, List.getElem?_eq_getElem hk, List.getElem?_eq_getElem (show j + k < ys.length by omega)] at h1
    rw [List.getElem?_eq_getElem hk, List.getElem?_eq_getElem (show j + k < ys.length by omega)]
    simpa using h1
  · rw [List.getElem?_eq_none (by omega), List.getElem?_eq_none (by omega)]
theorem t_drop_ne {xs ys : List Nat} {i j k : Nat} (hk : i ≤ k) (h : xs.getD k 0 ≠ ys.getD (k - i + j) 0) : xs.drop i ≠ ys.drop j := by
  intro e
  apply h
  have h1 : (xs.drop i).getD (k - i) 0 = (ys.drop j).getD (k - i) 0 := by rw [e]
  rw [List.getD_eq_getElem?_getD, List.getD_eq_getElem?_getD, List.getElem?_drop, List.getElem?_drop, show i + (k - i) = k by omega, show j + (k - i) = k - i + j by omega] at h1
  rw [List.getD_eq_getElem?_getD, List.getD_eq_getElem?_getD]
  exact h1
theorem t_drop_len {xs ys : List Nat} {i j : Nat} (h : xs.length - i ≠ ys.length - j) : xs.drop i ≠ ys.drop j := by
  intro e
  apply h
  rw [← List.length_drop, ← List.length_drop, e]
/-- in how many of the first places a key differs from a pattern -/
def t_diff (xs ys : List Nat) : Nat → Nat
  | 0 => 0
  | i + 1 => t_diff xs ys i + if xs.getD i 0 = 63 ∨ xs.getD i 0 = ys.getD i 0 then 0 else 1
theorem t_diff_le (xs ys : List Nat) : ∀ n, t_diff xs ys n ≤ n
  | 0 => Nat.le_refl 0
  | n + 1 => by
    have h := t_diff_le xs ys n
    unfold t_diff
    split <;> omega
theorem kf_zero {N : Nat} {ty : Nat → FieldType} {fs : List Value} (h : (List.range N).all (fun j => decide (defaultValue (ty j) = vp_V fs j)) = true) : ∀ j, j < N → defaultValue (ty j) = vp_V fs j := fun j hj => of_decide_eq_true (List.all_eq_true.mp h j (List.mem_range.mpr hj))
theorem kf_Key : ∀ j, j < 2 → defaultValue (t_Key j) = vp_V [.null, .int 0] j := kf_zero (by decide +kernel)
theorem kf_KeyMap : ∀ j, j < 4 → defaultValue (t_KeyMap j) = vp_V [.null, .null, .int 0, .int 0] j := kf_zero (by decide +kernel)
theorem kf_View : ∀ j, j < 8 → defaultValue (t_View j) = vp_V [.null, .null, .int 0, .null, .int 0, .null, .int 0, .int 0] j := kf_zero (by decide +kernel)
theorem kf_Walker : ∀ j, j < 4 → defaultValue (t_Walker j) = vp_V [.int 0, .int 0, .int 0, .int 0] j := kf_zero (by decide +kernel)
end
section
/-! the class Key: printed by wip/specs/key.py -/
set_option maxHeartbeats 4000000 in
set_option maxRecDepth 100000 in
/-- clear(): the empty text -/
theorem c_Key_clear (l : Launch) (D : va_G) (q : Nat → ClassId) (H : Heap) (a : Nat) (xs : List Nat) (hxs : kA D q H a xs) : gC l y_Key_clear (Cond.code y_Key_clear b_Key_clear 1 none :: gWS) (gR 0 0 0 0) D CL (gY q) (fun _ => True) [.ref a] H (fun v H1 => v = none ∧ kA D q H1 a [] ∧ H1.size = H.size ∧ ∀ p : Nat, p ≠ a → H1[p]? = H[p]?) 0 0 (fun p => p = a) := by
  refine gC.ofW R_Key "clear" (by decide) rfl rfl ?_
  intro p e s m below meth c hadm X hE hH B hne
  refine g_entry [some (.ref a)] rfl rfl (Nat.le_of_ble_eq_true rfl) (fun ls hl => ?_)
  obtain ⟨ha, ⟨fa, hla, hfa⟩, hxl, hxc⟩ := hxs
  refine lv_aload_n X.1.1 X.1.2.1 d_Key_clear_0 rfl (gl_at hl rfl) ?_
  refine lv_iconst (v := nI 0) X.1.1 X.1.2.1 d_Key_clear_1 (by decide) ?_
  refine g_put (A := (fun p => p = a)) X kc_Key ha 1 (by decide) lk_Key_15 rfl rfl rfl (Nat.le_of_ble_eq_true rfl) d_Key_clear_2 rfl (fun _ h => by cases h) (fun H1 locs h2 z3 oq4 hL => ?_)
  replace hla := hla.kept (oq4 _ (by omega))
  exact g_vret X B ⟨rfl, ⟨h2, ⟨fa, hla, fun j hj => absurd hj (Nat.not_lt_zero j)⟩, by simp, by simp⟩, z3, oq4⟩ hL d_Key_clear_5 (by omega) (by omega)

set_option maxHeartbeats 4000000 in
set_option maxRecDepth 100000 in
/-- append(x): a text that is not full -/
theorem c_Key_append (l : Launch) (D : va_G) (q : Nat → ClassId) (H : Heap) (a : Nat) (xs : List Nat) (hxs : kA D q H a xs) (x : Nat) (hx : x < 65536) (hlt : xs.length < 8) : gC l y_Key_append (Cond.code y_Key_append b_Key_append 2 none :: gWS) (gR 0 0 0 0) D CL (gY q) (fun _ => True) [.ref a, .int (nI x)] H (fun v H1 => v = none ∧ kA D q H1 a (xs ++ [x]) ∧ H1.size = H.size ∧ ∀ p : Nat, ¬ (p = a ∨ p = a + 1) → H1[p]? = H[p]?) 0 0 (fun p => p = a ∨ p = a + 1) := by
  refine gC.ofW R_Key "append" (by decide) rfl rfl ?_
  intro p e s m below meth c hadm X hE hH B hne
  refine g_entry [some (.ref a), some (.int (nI x))] rfl rfl (Nat.le_of_ble_eq_true rfl) (fun ls hl => ?_)
  obtain ⟨ha, ⟨fa, hla, hfa⟩, hxl, hxc⟩ := hxs
  refine lv_aload_n X.1.1 X.1.2.1 d_Key_append_0 rfl (gl_at hl rfl) ?_
  refine g_get X kc_Key ha 1 (by decide) lk_Key_15 rfl d_Key_append_1 ?_
  refine lv_bipush (v := nI 8) X.1.1 X.1.2.1 d_Key_append_4 (by decide) ?_
  refine gn_ge X.1.1 X.1.2.1 xs.length 8 (by omega) (by omega) d_Key_append_6 rfl (fun hc6 => ?_) (fun hc6 => ?_)
  · omega
  · refine lv_aload_n X.1.1 X.1.2.1 d_Key_append_9 rfl (gl_at hl rfl) ?_
    refine g_get X kc_Key ha 0 (by decide) lk_Key_9 rfl d_Key_append_10 ?_
    refine lv_aload_n X.1.1 X.1.2.1 d_Key_append_13 rfl (gl_at hl rfl) ?_
    refine g_get X kc_Key ha 1 (by decide) lk_Key_15 rfl d_Key_append_14 ?_
    refine lv_iload_n X.1.1 X.1.2.1 d_Key_append_17 rfl (gl_at hl rfl) ?_
    refine g_iast (A := (fun p => p = a ∨ p = a + 1)) X 0 hla rfl xs.length (by omega) (by decide) d_Key_append_18 (Or.inr rfl) (fun _ h => by cases h) (fun H1 locs h2 z3 oq4 hL => ?_)
    replace ha := ha.kept (oq4 _ (by omega))
    refine lv_aload_n X.1.1 X.1.2.1 d_Key_append_19 rfl (gl_at hl rfl) ?_
    refine lv_dup X.1.1 X.1.2.1 d_Key_append_20 rfl ?_
    refine g_get X kc_Key ha 1 (by decide) lk_Key_15 rfl d_Key_append_21 ?_
    refine lv_iconst (v := nI 1) X.1.1 X.1.2.1 d_Key_append_24 (by decide) ?_
    refine lv_iadd X.1.1 X.1.2.1 d_Key_append_25 ?_
    refine g_top (nI (xs.length + 1)) (nI_add _ _) ?_
    refine g_put (A := (fun p => p = a ∨ p = a + 1)) X kc_Key ha 1 (by decide) lk_Key_15 rfl rfl rfl (Nat.le_of_ble_eq_true rfl) d_Key_append_26 (Or.inl rfl) hL (fun H5 locs h6 z7 oq8 hL => ?_)
    replace h2 := h2.kept (oq8 _ (by omega))
    exact g_vret X B ⟨rfl, ⟨by rw [List.length_append]; exact h6, ⟨_, h2, fun j hj => by
          rw [List.length_append, List.length_singleton] at hj
          by_cases h9 : j = xs.length
          · subst h9
            rw [t_get_last, pk_us]
          · rw [t_get_app (by omega), pk_un h9, hfa j (by omega)]⟩, by rw [List.length_append, List.length_singleton]; omega, fun z hz => by
          rcases List.mem_append.mp hz with h9 | h9
          · exact hxc z h9
          · rw [List.mem_singleton.mp h9]
            exact hx⟩, z7.trans z3, fun p hp => (oq8 p (fun h9 => hp (Or.inl h9))).trans (oq4 p (fun h9 => hp (Or.inr h9)))⟩ hL d_Key_append_29 (by omega) (by omega)

set_option maxHeartbeats 4000000 in
set_option maxRecDepth 100000 in
/-- become(b): the text of b -/
theorem c_Key_become (l : Launch) (D : va_G) (q : Nat → ClassId) (H : Heap) (a b : Nat) (xs ys : List Nat) (hxs : kA D q H a xs) (hys : kA D q H b ys) (hab : a + 1 < b ∨ b + 1 < a) : gC l y_Key_become (Cond.code y_Key_become b_Key_become 2 none :: gWS) (gR 1 18 0 0) D CL (gY q) (fun _ => True) [.ref a, .ref b] H (fun v H1 => v = none ∧ kA D q H1 a ys ∧ H1.size = H.size ∧ ∀ p : Nat, ¬ (p = a ∨ p = a + 1) → H1[p]? = H[p]?) 0 0 (fun p => p = a ∨ p = a + 1) := by
  refine gC.ofW R_Key "become" (by decide) rfl rfl ?_
  intro p e s m below meth c hadm X hE hH B hne
  refine g_entry [some (.ref a), some (.ref b)] rfl rfl (Nat.le_of_ble_eq_true rfl) (fun ls hl => ?_)
  obtain ⟨ha, ⟨fa, hla, hfa⟩, hxl, hxc⟩ := hxs
  obtain ⟨hb, ⟨fb, hlb, hfb⟩, hyl, hyc⟩ := hys
  refine lv_aload_n X.1.1 X.1.2.1 d_Key_become_0 rfl (gl_at hl rfl) ?_
  refine g_get X kc_Key hb 0 (by decide) lk_Key_9 rfl d_Key_become_1 ?_
  refine lv_iconst (v := nI 0) X.1.1 X.1.2.1 d_Key_become_4 (by decide) ?_
  refine lv_aload_n X.1.1 X.1.2.1 d_Key_become_5 rfl (gl_at hl rfl) ?_
  refine g_get X kc_Key ha 0 (by decide) lk_Key_9 rfl d_Key_become_6 ?_
  refine lv_iconst (v := nI 0) X.1.1 X.1.2.1 d_Key_become_9 (by decide) ?_
  refine lv_aload_n X.1.1 X.1.2.1 d_Key_become_10 rfl (gl_at hl rfl) ?_
  refine g_get X kc_Key hb 1 (by decide) lk_Key_15 rfl d_Key_become_11 ?_
  refine g_copyi (A := (fun p => p = a ∨ p = a + 1)) X hl.1 mq_Key_19.1 mq_Key_19.2.1 mq_Key_19.2.2.1 mq_Key_19.2.2.2 0 hlb hla rfl 0 0 ys.length (by omega) (by omega) (by decide) (by decide) (by decide) (by decide) d_Key_become_14 (Or.inr rfl) (fun _ h => by cases h) (fun H1 locs h2 z3 oq4 hL => ?_)
  replace ha := ha.kept (oq4 _ (by omega))
  replace hb := hb.kept (oq4 _ (by omega))
  replace hlb := hlb.kept (oq4 _ (by omega))
  refine lv_aload_n X.1.1 X.1.2.1 d_Key_become_17 rfl (gl_at hl rfl) ?_
  refine lv_aload_n X.1.1 X.1.2.1 d_Key_become_18 rfl (gl_at hl rfl) ?_
  refine g_get X kc_Key hb 1 (by decide) lk_Key_15 rfl d_Key_become_19 ?_
  refine g_put (A := (fun p => p = a ∨ p = a + 1)) X kc_Key ha 1 (by decide) lk_Key_15 rfl rfl rfl (Nat.le_of_ble_eq_true rfl) d_Key_become_22 (Or.inl rfl) hL (fun H5 locs h6 z7 oq8 hL => ?_)
  replace h2 := h2.kept (oq8 _ (by omega))
  replace hb := hb.kept (oq8 _ (by omega))
  replace hlb := hlb.kept (oq8 _ (by omega))
  exact g_vret X B ⟨rfl, ⟨h6, ⟨_, h2, fun j hj => by rw [pk_cpy_in (Nat.zero_le _) (by omega), Nat.zero_add, Nat.sub_zero]; exact hfb j hj⟩, hyl, hyc⟩, z7.trans z3, fun p hp => (oq8 p (fun h9 => hp (Or.inl h9))).trans (oq4 p (fun h9 => hp (Or.inr h9)))⟩ hL d_Key_become_25 (by omega) (by omega)

set_option maxHeartbeats 4000000 in
set_option maxRecDepth 100000 in
/-- shared(b): how many characters both have in common -/
theorem c_Key_shared (l : Launch) (D : va_G) (q : Nat → ClassId) (H : Heap) (a b : Nat) (xs ys : List Nat) (hxs : kA D q H a xs) (hys : kA D q H b ys) : gC l y_Key_shared (Cond.code y_Key_shared b_Key_shared 3 (some .int) :: gWS) (gR 0 0 0 0) D CL (gY q) (fun _ => True) [.ref a, .ref b] H (fun v H1 => v = some (.int (nI (t_lcp xs ys))) ∧ H1 = H) 0 0 (fun _ => False) := by
  refine gC.ofW R_Key "shared" (by decide) rfl rfl ?_
  intro p e s m below meth c hadm X hE hH B hne
  refine g_entry [some (.ref a), some (.ref b), none] rfl rfl (Nat.le_of_ble_eq_true rfl) (fun ls hl => ?_)
  obtain ⟨ha, ⟨fa, hla, hfa⟩, hxl, hxc⟩ := hxs
  obtain ⟨hb, ⟨fb, hlb, hfb⟩, hyl, hyc⟩ := hys
  refine lv_iconst (v := nI 0) X.1.1 X.1.2.1 d_Key_shared_0 (by decide) ?_
  refine g_istn X.1.1 X.1.2.1 hl 2 d_Key_shared_1 rfl (Nat.le_of_ble_eq_true rfl) rfl (fun ls hl => ?_)
  have loop2 : ∀ (n : Nat) (i : Nat) (ls : Array Slot), xs.length - i < n → (i ≤ xs.length) → (i ≤ ys.length) → (∀ j, j < i → xs.getD j 0 = ys.getD j 0) →  gl ls [some (.ref a), some (.ref b), some (.int (nI i))] → W p l e (gR 0 0 0 0) s m ([.ref a, .ref b] : List Value).toArray below meth c H [] 0 0 (gQ below ([.ref a, .ref b] : List Value).toArray s (fun v H1 => v = some (.int (nI (t_lcp xs ys))) ∧ H1 = H) 0 0 (fun _ => False)) (F0 m 2 ls []) := by
    intro n
    induction n with
    | zero => intro i ls hmu; omega
    | succ n ih2 =>
      intro i ls hmu2 hi2_0 hi2_1 hi2_2 hl
      refine lv_iload_n X.1.1 X.1.2.1 d_Key_shared_2 rfl (gl_at hl rfl) ?_
      refine lv_aload_n X.1.1 X.1.2.1 d_Key_shared_3 rfl (gl_at hl rfl) ?_
      refine g_get X kc_Key ha 1 (by decide) lk_Key_15 rfl d_Key_shared_4 ?_
      refine gn_ge X.1.1 X.1.2.1 i xs.length (by omega) (by omega) d_Key_shared_7 rfl (fun hc7 => ?_) (fun hc7 => ?_)
      · refine lv_iload_n X.1.1 X.1.2.1 d_Key_shared_39 rfl (gl_at hl rfl) ?_
        exact g_iret X B ⟨by rw [t_lcp_eq xs ys i (by omega) (by omega) hi2_2 (by first | exact Or.inl (by omega) | exact Or.inr (Or.inl (by omega)) | exact Or.inr (Or.inr (by assumption)))], rfl⟩ (fun _ h => by cases h) d_Key_shared_40 (by omega) (by omega)
      · refine lv_iload_n X.1.1 X.1.2.1 d_Key_shared_10 rfl (gl_at hl rfl) ?_
        refine lv_aload_n X.1.1 X.1.2.1 d_Key_shared_11 rfl (gl_at hl rfl) ?_
        refine g_get X kc_Key hb 1 (by decide) lk_Key_15 rfl d_Key_shared_12 ?_
        refine gn_ge X.1.1 X.1.2.1 i ys.length (by omega) (by omega) d_Key_shared_15 rfl (fun hc15 => ?_) (fun hc15 => ?_)
        · refine lv_iload_n X.1.1 X.1.2.1 d_Key_shared_39 rfl (gl_at hl rfl) ?_
          exact g_iret X B ⟨by rw [t_lcp_eq xs ys i (by omega) (by omega) hi2_2 (by first | exact Or.inl (by omega) | exact Or.inr (Or.inl (by omega)) | exact Or.inr (Or.inr (by assumption)))], rfl⟩ (fun _ h => by cases h) d_Key_shared_40 (by omega) (by omega)
        · refine lv_aload_n X.1.1 X.1.2.1 d_Key_shared_18 rfl (gl_at hl rfl) ?_
          refine g_get X kc_Key ha 0 (by decide) lk_Key_9 rfl d_Key_shared_19 ?_
          refine lv_iload_n X.1.1 X.1.2.1 d_Key_shared_22 rfl (gl_at hl rfl) ?_
          refine g_iald X 0 hla rfl i (by omega) (by decide) d_Key_shared_23 ?_
          have e1 := t_lt hxc i
          refine g_top (nI (xs.getD i 0)) (hfa i (by omega)) ?_
          refine lv_aload_n X.1.1 X.1.2.1 d_Key_shared_24 rfl (gl_at hl rfl) ?_
          refine g_get X kc_Key hb 0 (by decide) lk_Key_9 rfl d_Key_shared_25 ?_
          refine lv_iload_n X.1.1 X.1.2.1 d_Key_shared_28 rfl (gl_at hl rfl) ?_
          refine g_iald X 0 hlb rfl i (by omega) (by decide) d_Key_shared_29 ?_
          have e2 := t_lt hyc i
          refine g_top (nI (ys.getD i 0)) (hfb i (by omega)) ?_
          refine gn_ne X.1.1 X.1.2.1 (xs.getD i 0) (ys.getD i 0) (by omega) (by omega) d_Key_shared_30 rfl (fun hc30 => ?_) (fun hc30 => ?_)
          · refine lv_iload_n X.1.1 X.1.2.1 d_Key_shared_39 rfl (gl_at hl rfl) ?_
            exact g_iret X B ⟨by rw [t_lcp_eq xs ys i (by omega) (by omega) hi2_2 (by first | exact Or.inl (by omega) | exact Or.inr (Or.inl (by omega)) | exact Or.inr (Or.inr (by assumption)))], rfl⟩ (fun _ h => by cases h) d_Key_shared_40 (by omega) (by omega)
          · refine g_iinc X.1.1 X.1.2.1 (nI (i + 1)) hl 2 d_Key_shared_33 rfl (nI_1 _) rfl (fun ls hl => ?_)
            refine lv_goto X.1.1 X.1.2.1 d_Key_shared_36 rfl ?_
            exact ih2 (i + 1) ls (by omega) hc7 hc15 (lt_s hi2_2 hc30) hl
  exact loop2 _ 0 ls (Nat.lt_succ_self _) (Nat.zero_le _) (Nat.zero_le _) (fun j hj => absurd hj (Nat.not_lt_zero j)) hl

set_option maxHeartbeats 4000000 in
set_option maxRecDepth 100000 in
/-- order(b) -/
theorem c_Key_order (l : Launch) (D : va_G) (q : Nat → ClassId) (H : Heap) (a b : Nat) (xs ys : List Nat) (hxs : kA D q H a xs) (hys : kA D q H b ys) : gC l y_Key_order (Cond.code y_Key_order b_Key_order 3 (some .int) :: gWS) (gR 1 22 0 0) D CL (gY q) (fun _ => True) [.ref a, .ref b] H (fun v H1 => ∃ r : Int32, v = some (.int r) ∧ r.toInt = t_ord xs ys ∧ H1 = H) 0 0 (fun _ => False) := by
  refine gC.ofW R_Key "order" (by decide) rfl rfl ?_
  intro p e s m below meth c hadm X hE hH B hne
  refine g_entry [some (.ref a), some (.ref b), none] rfl rfl (Nat.le_of_ble_eq_true rfl) (fun ls hl => ?_)
  have hxs0 := hxs
  have hys0 := hys
  obtain ⟨ha, ⟨fa, hla, hfa⟩, hxl, hxc⟩ := hxs
  obtain ⟨hb, ⟨fb, hlb, hfb⟩, hyl, hyc⟩ := hys
  have hxs := hxs0
  have hys := hys0
  have i1 := t_lcp_le1 xs ys
  have i2 := t_lcp_le2 xs ys
  refine lv_aload_n X.1.1 X.1.2.1 d_Key_order_0 rfl (gl_at hl rfl) ?_
  refine lv_aload_n X.1.1 X.1.2.1 d_Key_order_1 rfl (gl_at hl rfl) ?_
  refine g_cv (A := (fun _ => False)) X gWS_good mw_Key_25 kc_Key ha (c_Key_shared l D q H a b xs ys hxs hys) (fun _ _ _ => trivial) gBlind.tt rfl rfl hl.1 (by decide) rfl rfl ⟨by decide, by decide⟩ ⟨by decide, by decide⟩ d_Key_order_2 (fun _ h => h.elim) (fun _ h => by cases h) (fun v1 H2 locs hp3 hL => ?_)
  obtain ⟨rfl, rfl⟩ := hp3
  refine g_istn X.1.1 X.1.2.1 hl 2 d_Key_order_5 rfl (Nat.le_of_ble_eq_true rfl) rfl (fun ls hl => ?_)
  refine lv_iload_n X.1.1 X.1.2.1 d_Key_order_6 rfl (gl_at hl rfl) ?_
  refine lv_aload_n X.1.1 X.1.2.1 d_Key_order_7 rfl (gl_at hl rfl) ?_
  refine g_get X kc_Key ha 1 (by decide) lk_Key_15 rfl d_Key_order_8 ?_
  refine gn_eq X.1.1 X.1.2.1 (t_lcp xs ys) xs.length (by omega) (by omega) d_Key_order_11 rfl (fun hc11 => ?_) (fun hc11 => ?_)
  · refine lv_aload_n X.1.1 X.1.2.1 d_Key_order_22 rfl (gl_at hl rfl) ?_
    refine g_get X kc_Key ha 1 (by decide) lk_Key_15 rfl d_Key_order_23 ?_
    refine lv_aload_n X.1.1 X.1.2.1 d_Key_order_26 rfl (gl_at hl rfl) ?_
    refine g_get X kc_Key hb 1 (by decide) lk_Key_15 rfl d_Key_order_27 ?_
    refine lv_isub X.1.1 X.1.2.1 d_Key_order_30 ?_
    exact g_iret X B ⟨_, rfl, by rw [pk_sub_toInt (by omega) (by omega), t_ord_end xs ys (by omega)], rfl⟩ hL d_Key_order_31 (by omega) (by omega)
  · refine lv_iload_n X.1.1 X.1.2.1 d_Key_order_14 rfl (gl_at hl rfl) ?_
    refine lv_aload_n X.1.1 X.1.2.1 d_Key_order_15 rfl (gl_at hl rfl) ?_
    refine g_get X kc_Key hb 1 (by decide) lk_Key_15 rfl d_Key_order_16 ?_
    refine gn_ne X.1.1 X.1.2.1 (t_lcp xs ys) ys.length (by omega) (by omega) d_Key_order_19 rfl (fun hc19 => ?_) (fun hc19 => ?_)
    · refine lv_aload_n X.1.1 X.1.2.1 d_Key_order_32 rfl (gl_at hl rfl) ?_
      refine g_get X kc_Key ha 0 (by decide) lk_Key_9 rfl d_Key_order_33 ?_
      refine lv_iload_n X.1.1 X.1.2.1 d_Key_order_36 rfl (gl_at hl rfl) ?_
      refine g_iald X 0 hla rfl (t_lcp xs ys) (by omega) (by decide) d_Key_order_37 ?_
      have e1 := t_lt hxc (t_lcp xs ys)
      refine g_top (nI (xs.getD (t_lcp xs ys) 0)) (hfa _ (by omega)) ?_
      refine lv_aload_n X.1.1 X.1.2.1 d_Key_order_38 rfl (gl_at hl rfl) ?_
      refine g_get X kc_Key hb 0 (by decide) lk_Key_9 rfl d_Key_order_39 ?_
      refine lv_iload_n X.1.1 X.1.2.1 d_Key_order_42 rfl (gl_at hl rfl) ?_
      refine g_iald X 0 hlb rfl (t_lcp xs ys) (by omega) (by decide) d_Key_order_43 ?_
      have e2 := t_lt hyc (t_lcp xs ys)
      refine g_top (nI (ys.getD (t_lcp xs ys) 0)) (hfb _ (by omega)) ?_
      refine lv_isub X.1.1 X.1.2.1 d_Key_order_44 ?_
      exact g_iret X B ⟨_, rfl, by rw [pk_sub_toInt (by omega) (by omega), t_ord_mid xs ys (by omega) (by omega)], rfl⟩ hL d_Key_order_45 (by omega) (by omega)
    · refine lv_aload_n X.1.1 X.1.2.1 d_Key_order_22 rfl (gl_at hl rfl) ?_
      refine g_get X kc_Key ha 1 (by decide) lk_Key_15 rfl d_Key_order_23 ?_
      refine lv_aload_n X.1.1 X.1.2.1 d_Key_order_26 rfl (gl_at hl rfl) ?_
      refine g_get X kc_Key hb 1 (by decide) lk_Key_15 rfl d_Key_order_27 ?_
      refine lv_isub X.1.1 X.1.2.1 d_Key_order_30 ?_
      exact g_iret X B ⟨_, rfl, by rw [pk_sub_toInt (by omega) (by omega), t_ord_end xs ys (by omega)], rfl⟩ hL d_Key_order_31 (by omega) (by omega)

set_option maxHeartbeats 4000000 in
set_option maxRecDepth 100000 in
/-- beginsWith(b) -/
theorem c_Key_beginsWith (l : Launch) (D : va_G) (q : Nat → ClassId) (H : Heap) (a b : Nat) (xs ys : List Nat) (hxs : kA D q H a xs) (hys : kA D q H b ys) : gC l y_Key_beginsWith (Cond.code y_Key_beginsWith b_Key_beginsWith 2 (some .boolean) :: gWS) (gR 1 22 0 0) D CL (gY q) (fun _ => True) [.ref a, .ref b] H (fun v H1 => v = some (.int (nI (if t_lcp xs ys = ys.length then 1 else 0))) ∧ H1 = H) 0 0 (fun _ => False) := by
  refine gC.ofW R_Key "beginsWith" (by decide) rfl rfl ?_
  intro p e s m below meth c hadm X hE hH B hne
  refine g_entry [some (.ref a), some (.ref b)] rfl rfl (Nat.le_of_ble_eq_true rfl) (fun ls hl => ?_)
  have hxs0 := hxs
  have hys0 := hys
  obtain ⟨ha, ⟨fa, hla, hfa⟩, hxl, hxc⟩ := hxs
  obtain ⟨hb, ⟨fb, hlb, hfb⟩, hyl, hyc⟩ := hys
  have hxs := hxs0
  have hys := hys0
  have i1 := t_lcp_le1 xs ys
  have i2 := t_lcp_le2 xs ys
  refine lv_aload_n X.1.1 X.1.2.1 d_Key_beginsWith_0 rfl (gl_at hl rfl) ?_
  refine lv_aload_n X.1.1 X.1.2.1 d_Key_beginsWith_1 rfl (gl_at hl rfl) ?_
  refine g_cv (A := (fun _ => False)) X gWS_good mw_Key_25 kc_Key ha (c_Key_shared l D q H a b xs ys hxs hys) (fun _ _ _ => trivial) gBlind.tt rfl rfl hl.1 (by decide) rfl rfl ⟨by decide, by decide⟩ ⟨by decide, by decide⟩ d_Key_beginsWith_2 (fun _ h => h.elim) (fun _ h => by cases h) (fun v1 H2 locs hp3 hL => ?_)
  obtain ⟨rfl, rfl⟩ := hp3
  refine lv_aload_n X.1.1 X.1.2.1 d_Key_beginsWith_5 rfl (gl_at hl rfl) ?_
  refine g_get X kc_Key hb 1 (by decide) lk_Key_15 rfl d_Key_beginsWith_6 ?_
  refine gn_ne X.1.1 X.1.2.1 (t_lcp xs ys) ys.length (by omega) (by omega) d_Key_beginsWith_9 rfl (fun hc9 => ?_) (fun hc9 => ?_)
  · refine lv_iconst (v := nI 0) X.1.1 X.1.2.1 d_Key_beginsWith_16 (by decide) ?_
    exact g_zret X B (by decide) ⟨by rw [if_neg (by assumption)], rfl⟩ hL d_Key_beginsWith_17 (by omega) (by omega)
  · refine lv_iconst (v := nI 1) X.1.1 X.1.2.1 d_Key_beginsWith_12 (by decide) ?_
    refine lv_goto X.1.1 X.1.2.1 d_Key_beginsWith_13 rfl ?_
    exact g_zret X B (by decide) ⟨by rw [if_pos (by assumption)], rfl⟩ hL d_Key_beginsWith_17 (by omega) (by omega)

set_option maxHeartbeats 4000000 in
set_option maxRecDepth 100000 in
/-- hasTail -/
theorem c_Key_hasTail (l : Launch) (D : va_G) (q : Nat → ClassId) (H : Heap) (a b : Nat) (xs ys : List Nat) (hxs : kA D q H a xs) (hys : kA D q H b ys) (i0 j0 : Nat) (hi0 : i0 ≤ xs.length) (hj0 : j0 ≤ ys.length) : gC l y_Key_hasTail (Cond.code y_Key_hasTail b_Key_hasTail 5 (some .boolean) :: gWS) (gR 0 0 0 0) D CL (gY q) (fun _ => True) [.ref a, .int (nI i0), .ref b, .int (nI j0)] H (fun v H1 => v = some (.int (nI (if xs.drop i0 = ys.drop j0 then 1 else 0))) ∧ H1 = H) 0 0 (fun _ => False) := by
  refine gC.ofW R_Key "hasTail" (by decide) rfl rfl ?_
  intro p e s m below meth c hadm X hE hH B hne
  refine g_entry [some (.ref a), some (.int (nI i0)), some (.ref b), some (.int (nI j0)), none] rfl rfl (Nat.le_of_ble_eq_true rfl) (fun ls hl => ?_)
  obtain ⟨ha, ⟨fa, hla, hfa⟩, hxl, hxc⟩ := hxs
  obtain ⟨hb, ⟨fb, hlb, hfb⟩, hyl, hyc⟩ := hys
  refine lv_aload_n X.1.1 X.1.2.1 d_Key_hasTail_0 rfl (gl_at hl rfl) ?_
  refine g_get X kc_Key ha 1 (by decide) lk_Key_15 rfl d_Key_hasTail_1 ?_
  refine lv_iload_n X.1.1 X.1.2.1 d_Key_hasTail_4 rfl (gl_at hl rfl) ?_
  refine lv_isub X.1.1 X.1.2.1 d_Key_hasTail_5 ?_
  refine g_top (nI (xs.length - i0)) (pk_sub (by omega)) ?_
  refine lv_aload_n X.1.1 X.1.2.1 d_Key_hasTail_6 rfl (gl_at hl rfl) ?_
  refine g_get X kc_Key hb 1 (by decide) lk_Key_15 rfl d_Key_hasTail_7 ?_
  refine lv_iload_n X.1.1 X.1.2.1 d_Key_hasTail_10 rfl (gl_at hl rfl) ?_
  refine lv_isub X.1.1 X.1.2.1 d_Key_hasTail_11 ?_
  refine g_top (nI (ys.length - j0)) (pk_sub (by omega)) ?_
  refine gn_eq X.1.1 X.1.2.1 (xs.length - i0) (ys.length - j0) (by omega) (by omega) d_Key_hasTail_12 rfl (fun hc12 => ?_) (fun hc12 => ?_)
  · refine lv_iload_n X.1.1 X.1.2.1 d_Key_hasTail_17 rfl (gl_at hl rfl) ?_
    refine g_ist X.1.1 X.1.2.1 hl 4 d_Key_hasTail_18 (Nat.le_of_ble_eq_true rfl) rfl (fun ls hl => ?_)
    have loop20 : ∀ (n : Nat) (i : Nat) (ls : Array Slot), xs.length - i < n → (i0 ≤ i) → (i ≤ xs.length) → (∀ k, i0 ≤ k → k < i → xs.getD k 0 = ys.getD (k - i0 + j0) 0) →  gl ls [some (.ref a), some (.int (nI i0)), some (.ref b), some (.int (nI j0)), some (.int (nI i))] → W p l e (gR 0 0 0 0) s m ([.ref a, .int (nI i0), .ref b, .int (nI j0)] : List Value).toArray below meth c H [] 0 0 (gQ below ([.ref a, .int (nI i0), .ref b, .int (nI j0)] : List Value).toArray s (fun v H1 => v = some (.int (nI (if xs.drop i0 = ys.drop j0 then 1 else 0))) ∧ H1 = H) 0 0 (fun _ => False)) (F0 m 20 ls []) := by
      intro n
      induction n with
      | zero => intro i ls hmu; omega
      | succ n ih20 =>
        intro i ls hmu20 hi20_0 hi20_1 hi20_2 hl
        refine lv_iload X.1.1 X.1.2.1 d_Key_hasTail_20 (gl_at hl rfl) ?_
        refine lv_aload_n X.1.1 X.1.2.1 d_Key_hasTail_22 rfl (gl_at hl rfl) ?_
        refine g_get X kc_Key ha 1 (by decide) lk_Key_15 rfl d_Key_hasTail_23 ?_
        refine gn_ge X.1.1 X.1.2.1 i xs.length (by omega) (by omega) d_Key_hasTail_26 rfl (fun hc26 => ?_) (fun hc26 => ?_)
        · refine lv_iconst (v := nI 1) X.1.1 X.1.2.1 d_Key_hasTail_58 (by decide) ?_
          exact g_zret X B (by decide) ⟨by rw [if_pos (t_drop_eq hi0 hj0 hc12 (fun k h1 h2 => hi20_2 k h1 (by omega)))], rfl⟩ (fun _ h => by cases h) d_Key_hasTail_59 (by omega) (by omega)
        · refine lv_aload_n X.1.1 X.1.2.1 d_Key_hasTail_29 rfl (gl_at hl rfl) ?_
          refine g_get X kc_Key ha 0 (by decide) lk_Key_9 rfl d_Key_hasTail_30 ?_
          refine lv_iload X.1.1 X.1.2.1 d_Key_hasTail_33 (gl_at hl rfl) ?_
          refine g_iald X 0 hla rfl i (by omega) (by decide) d_Key_hasTail_35 ?_
          have e1 := t_lt hxc i
          refine g_top (nI (xs.getD i 0)) (hfa i (by omega)) ?_
          refine lv_aload_n X.1.1 X.1.2.1 d_Key_hasTail_36 rfl (gl_at hl rfl) ?_
          refine g_get X kc_Key hb 0 (by decide) lk_Key_9 rfl d_Key_hasTail_37 ?_
          refine lv_iload X.1.1 X.1.2.1 d_Key_hasTail_40 (gl_at hl rfl) ?_
          refine lv_iload_n X.1.1 X.1.2.1 d_Key_hasTail_42 rfl (gl_at hl rfl) ?_
          refine lv_isub X.1.1 X.1.2.1 d_Key_hasTail_43 ?_
          refine g_top (nI (i - i0)) (pk_sub (by omega)) ?_
          refine lv_iload_n X.1.1 X.1.2.1 d_Key_hasTail_44 rfl (gl_at hl rfl) ?_
          refine lv_iadd X.1.1 X.1.2.1 d_Key_hasTail_45 ?_
          refine g_top (nI ((i - i0) + j0)) (nI_add _ _) ?_
          refine g_iald X 0 hlb rfl ((i - i0) + j0) (by omega) (by decide) d_Key_hasTail_46 ?_
          have e2 := t_lt hyc (i - i0 + j0)
          refine g_top (nI (ys.getD (i - i0 + j0) 0)) (hfb _ (by omega)) ?_
          refine gn_eq X.1.1 X.1.2.1 (xs.getD i 0) (ys.getD (i - i0 + j0) 0) (by omega) (by omega) d_Key_hasTail_47 rfl (fun hc47 => ?_) (fun hc47 => ?_)
          · refine g_iinc X.1.1 X.1.2.1 (nI (i + 1)) hl 4 d_Key_hasTail_52 rfl (nI_1 _) rfl (fun ls hl => ?_)
            refine lv_goto X.1.1 X.1.2.1 d_Key_hasTail_55 rfl ?_
            exact ih20 (i + 1) ls (by omega) (by omega) (by omega) (fun k h1 h2 => by
              by_cases h9 : k = i
              · subst h9
                exact hc47
              · exact hi20_2 k h1 (by omega)) hl
          · refine lv_iconst (v := nI 0) X.1.1 X.1.2.1 d_Key_hasTail_50 (by decide) ?_
            exact g_zret X B (by decide) ⟨by rw [if_neg (t_drop_ne hi20_0 hc47)], rfl⟩ (fun _ h => by cases h) d_Key_hasTail_51 (by omega) (by omega)
    exact loop20 _ i0 ls (Nat.lt_succ_self _) (Nat.le_refl _) hi0 (fun k h1 h2 => by omega) hl
  · refine lv_iconst (v := nI 0) X.1.1 X.1.2.1 d_Key_hasTail_15 (by decide) ?_
    exact g_zret X B (by decide) ⟨by rw [if_neg (t_drop_len hc12)], rfl⟩ (fun _ h => by cases h) d_Key_hasTail_16 (by omega) (by omega)

set_option maxHeartbeats 4000000 in
set_option maxRecDepth 100000 in
/-- matches -/
theorem c_Key_matches (l : Launch) (D : va_G) (q : Nat → ClassId) (H : Heap) (a b : Nat) (xs ys : List Nat) (hxs : kA D q H a xs) (hys : kA D q H b ys) (d : Nat) (hd : d < 2 ^ 31) : gC l y_Key_matches (Cond.code y_Key_matches b_Key_matches 5 (some .boolean) :: gWS) (gR 0 0 0 0) D CL (gY q) (fun _ => True) [.ref a, .ref b, .int (nI d)] H (fun v H1 => v = some (.int (nI (if ys.length = xs.length ∧ t_diff xs ys xs.length ≤ d then 1 else 0))) ∧ H1 = H) 0 0 (fun _ => False) := by
  refine gC.ofW R_Key "matches" (by decide) rfl rfl ?_
  intro p e s m below meth c hadm X hE hH B hne
  refine g_entry [some (.ref a), some (.ref b), some (.int (nI d)), none, none] rfl rfl (Nat.le_of_ble_eq_true rfl) (fun ls hl => ?_)
  obtain ⟨ha, ⟨fa, hla, hfa⟩, hxl, hxc⟩ := hxs
  obtain ⟨hb, ⟨fb, hlb, hfb⟩, hyl, hyc⟩ := hys
  refine lv_aload_n X.1.1 X.1.2.1 d_Key_matches_0 rfl (gl_at hl rfl) ?_
  refine g_get X kc_Key hb 1 (by decide) lk_Key_15 rfl d_Key_matches_1 ?_
  refine lv_aload_n X.1.1 X.1.2.1 d_Key_matches_4 rfl (gl_at hl rfl) ?_
  refine g_get X kc_Key ha 1 (by decide) lk_Key_15 rfl d_Key_matches_5 ?_
  refine gn_eq X.1.1 X.1.2.1 ys.length xs.length (by omega) (by omega) d_Key_matches_8 rfl (fun hc8 => ?_) (fun hc8 => ?_)
  · refine lv_iconst (v := nI 0) X.1.1 X.1.2.1 d_Key_matches_13 (by decide) ?_
    refine g_istn X.1.1 X.1.2.1 hl 3 d_Key_matches_14 rfl (Nat.le_of_ble_eq_true rfl) rfl (fun ls hl => ?_)
    refine lv_iconst (v := nI 0) X.1.1 X.1.2.1 d_Key_matches_15 (by decide) ?_
    refine g_ist X.1.1 X.1.2.1 hl 4 d_Key_matches_16 (Nat.le_of_ble_eq_true rfl) rfl (fun ls hl => ?_)
    have loop18 : ∀ (n : Nat) (i : Nat) (k : Nat) (ls : Array Slot), xs.length - i < n → (i ≤ xs.length) → (k = t_diff xs ys i) →  gl ls [some (.ref a), some (.ref b), some (.int (nI d)), some (.int (nI k)), some (.int (nI i))] → W p l e (gR 0 0 0 0) s m ([.ref a, .ref b, .int (nI d)] : List Value).toArray below meth c H [] 0 0 (gQ below ([.ref a, .ref b, .int (nI d)] : List Value).toArray s (fun v H1 => v = some (.int (nI (if ys.length = xs.length ∧ t_diff xs ys xs.length ≤ d then 1 else 0))) ∧ H1 = H) 0 0 (fun _ => False)) (F0 m 18 ls []) := by
      intro n
      induction n with
      | zero => intro i k ls hmu; omega
      | succ n ih18 =>
        intro i k ls hmu18 hi18_0 hi18_1 hl
        have hk9 := t_diff_le xs ys i
        refine lv_iload X.1.1 X.1.2.1 d_Key_matches_18 (gl_at hl rfl) ?_
        refine lv_aload_n X.1.1 X.1.2.1 d_Key_matches_20 rfl (gl_at hl rfl) ?_
        refine g_get X kc_Key ha 1 (by decide) lk_Key_15 rfl d_Key_matches_21 ?_
        refine gn_ge X.1.1 X.1.2.1 i xs.length (by omega) (by omega) d_Key_matches_24 rfl (fun hc24 => ?_) (fun hc24 => ?_)
        · have e9 : i = xs.length := by omega
          subst e9
          refine lv_iload_n X.1.1 X.1.2.1 d_Key_matches_65 rfl (gl_at hl rfl) ?_
          refine lv_iload_n X.1.1 X.1.2.1 d_Key_matches_66 rfl (gl_at hl rfl) ?_
          refine gn_gt X.1.1 X.1.2.1 k d (by omega) (by omega) d_Key_matches_67 rfl (fun hc67 => ?_) (fun hc67 => ?_)
          · refine lv_iconst (v := nI 0) X.1.1 X.1.2.1 d_Key_matches_74 (by decide) ?_
            exact g_zret X B (by decide) ⟨by rw [if_neg (fun h => by have := h.2; omega)], rfl⟩ (fun _ h => by cases h) d_Key_matches_75 (by omega) (by omega)
          · refine lv_iconst (v := nI 1) X.1.1 X.1.2.1 d_Key_matches_70 (by decide) ?_
            refine lv_goto X.1.1 X.1.2.1 d_Key_matches_71 rfl ?_
            exact g_zret X B (by decide) ⟨by rw [if_pos ⟨hc8, by omega⟩], rfl⟩ (fun _ h => by cases h) d_Key_matches_75 (by omega) (by omega)
        · refine lv_aload_n X.1.1 X.1.2.1 d_Key_matches_27 rfl (gl_at hl rfl) ?_
          refine g_get X kc_Key ha 0 (by decide) lk_Key_9 rfl d_Key_matches_28 ?_
          refine lv_iload X.1.1 X.1.2.1 d_Key_matches_31 (gl_at hl rfl) ?_
          refine g_iald X 0 hla rfl i (by omega) (by decide) d_Key_matches_33 ?_
          have e1 := t_lt hxc i
          refine g_top (nI (xs.getD i 0)) (hfa i (by omega)) ?_
          refine lv_bipush (v := nI 63) X.1.1 X.1.2.1 d_Key_matches_34 (by decide) ?_
          refine gn_eq X.1.1 X.1.2.1 (xs.getD i 0) 63 (by omega) (by omega) d_Key_matches_36 rfl (fun hc36 => ?_) (fun hc36 => ?_)
          · refine g_iinc X.1.1 X.1.2.1 (nI (i + 1)) hl 4 d_Key_matches_59 rfl (nI_1 _) rfl (fun ls hl => ?_)
            refine lv_goto X.1.1 X.1.2.1 d_Key_matches_62 rfl ?_
            exact ih18 (i + 1) k ls (by omega) (by omega) (by unfold t_diff; first | (rw [if_pos (by first | exact Or.inl (by assumption) | exact Or.inr (by assumption))]; omega) | (rw [if_neg (fun h => h.elim hc36 hc53)]; omega)) hl
          · refine lv_aload_n X.1.1 X.1.2.1 d_Key_matches_39 rfl (gl_at hl rfl) ?_
            refine g_get X kc_Key ha 0 (by decide) lk_Key_9 rfl d_Key_matches_40 ?_
            refine lv_iload X.1.1 X.1.2.1 d_Key_matches_43 (gl_at hl rfl) ?_
            refine g_iald X 0 hla rfl i (by omega) (by decide) d_Key_matches_45 ?_
            refine g_top (nI (xs.getD i 0)) (hfa i (by omega)) ?_
            refine lv_aload_n X.1.1 X.1.2.1 d_Key_matches_46 rfl (gl_at hl rfl) ?_
            refine g_get X kc_Key hb 0 (by decide) lk_Key_9 rfl d_Key_matches_47 ?_
            refine lv_iload X.1.1 X.1.2.1 d_Key_matches_50 (gl_at hl rfl) ?_
            refine g_iald X 0 hlb rfl i (by omega) (by decide) d_Key_matches_52 ?_
            have e2 := t_lt hyc i
            refine g_top (nI (ys.getD i 0)) (hfb i (by omega)) ?_
            refine gn_eq X.1.1 X.1.2.1 (xs.getD i 0) (ys.getD i 0) (by omega) (by omega) d_Key_matches_53 rfl (fun hc53 => ?_) (fun hc53 => ?_)
            · refine g_iinc X.1.1 X.1.2.1 (nI (i + 1)) hl 4 d_Key_matches_59 rfl (nI_1 _) rfl (fun ls hl => ?_)
              refine lv_goto X.1.1 X.1.2.1 d_Key_matches_62 rfl ?_
              exact ih18 (i + 1) k ls (by omega) (by omega) (by unfold t_diff; first | (rw [if_pos (by first | exact Or.inl (by assumption) | exact Or.inr (by assumption))]; omega) | (rw [if_neg (fun h => h.elim hc36 hc53)]; omega)) hl
            · refine g_iinc X.1.1 X.1.2.1 (nI (k + 1)) hl 3 d_Key_matches_56 rfl (nI_1 _) rfl (fun ls hl => ?_)
              refine g_iinc X.1.1 X.1.2.1 (nI (i + 1)) hl 4 d_Key_matches_59 rfl (nI_1 _) rfl (fun ls hl => ?_)
              refine lv_goto X.1.1 X.1.2.1 d_Key_matches_62 rfl ?_
              exact ih18 (i + 1) (k + 1) ls (by omega) (by omega) (by unfold t_diff; first | (rw [if_pos (by first | exact Or.inl (by assumption) | exact Or.inr (by assumption))]; omega) | (rw [if_neg (fun h => h.elim hc36 hc53)]; omega)) hl
    exact loop18 _ 0 0 ls (Nat.lt_succ_self _) (Nat.zero_le _) rfl hl
  · refine lv_iconst (v := nI 0) X.1.1 X.1.2.1 d_Key_matches_11 (by decide) ?_
    exact g_zret X B (by decide) ⟨by rw [if_neg (fun h => hc8 h.1)], rfl⟩ (fun _ h => by cases h) d_Key_matches_12 (by omega) (by omega)

set_option maxHeartbeats 4000000 in
set_option maxRecDepth 100000 in
/-- Key(): the empty text -/
theorem c_Key_init (l : Launch) (D : va_G) (q : Nat → ClassId) (H : Heap) (a : Nat) (hz : H.size = a + 1) (ha : va_at D CL (a, .inr (0, [.null, .int 0])) H) : gC l y_Key_init (Cond.code y_Key_init b_Key_init 1 none :: gWS) (gR 1 12 1 8) D CL (gY q) (fun _ => True) [.ref a] H (fun v H1 => v = none ∧ kA D q H1 a [] ∧ H1.size = a + 2 ∧ ∀ p : Nat, p < a → H1[p]? = H[p]?) 1 8 (fun p => a ≤ p) := by
  refine gC.ofW R_Key "<init>" (by decide) rfl rfl ?_
  intro p e s m below meth c hadm X hE hH B hne
  refine g_entry [some (.ref a)] rfl rfl (Nat.le_of_ble_eq_true rfl) (fun ls hl => ?_)
  refine lv_aload_n X.1.1 X.1.2.1 d_Key_init_0 rfl (gl_at hl rfl) ?_
  refine W.objInit X.1.1 X.1.2.1 X.1.2.2.2.1 (X.1.2.2.2.2 _ mo_Key_3.1) (X.1.2.2.2.2 _ mo_Key_3.2.1) (X.1.2.2.2.2 _ mo_Key_3.2.2) rfl (by rw [X.1.2.2.1]; exact hl.1) rfl d_Key_init_1 (Nat.le_of_ble_eq_true rfl) (Nat.le_of_ble_eq_true rfl) ?_
  refine W.eq (g2 := F0 m 4 ls []) rfl ?_
  refine lv_aload_n X.1.1 X.1.2.1 d_Key_init_4 rfl (gl_at hl rfl) ?_
  refine lv_bipush (v := nI 8) X.1.1 X.1.2.1 d_Key_init_5 (by decide) ?_
  refine g_newi X 0 rfl ka_int 8 (by decide) (Nat.le_of_ble_eq_true rfl) (Nat.le_of_ble_eq_true rfl) d_Key_init_7 (fun H1 h2 z3 o4 => ?_)
  rw [hz] at h2 z3 o4 ⊢
  replace ha := ha.kept (o4 _ (by omega))
  refine g_putF (A := (fun p => a ≤ p)) X B.2.2 kc_Key ha 0 (by decide) lk_Key_9 rfl rfl rfl rfl (Nat.le_of_ble_eq_true rfl) d_Key_init_9 (Nat.le_refl _) (fun _ h => by cases h) (fun H5 locs h6 z7 oq8 hL => ?_)
  replace h2 := h2.kept (oq8 _ (by omega))
  exact g_vret X B ⟨rfl, ⟨h6, ⟨_, h2, fun j hj => absurd hj (Nat.not_lt_zero j)⟩, by simp, by simp⟩, by omega, fun p hp => (oq8 p (by omega)).trans (o4 p (by omega))⟩ hL d_Key_init_12 (by omega) (by omega)
end
section
/-! a KeyMap: its cells and what they say -/
/-- the places of a map's keys: g i is the address of the Key at place i; texts ks, values vs, n of them in use -/
def mA (D : va_G) (q : Nat → ClassId) (H : Heap) (mb n : Nat) (ks : Nat → List Nat) (vs : Nat → Int32) (chg : Nat) : Prop :=
  va_at D CL (mb, .inr (1, [.ref (mb + 1), .ref (mb + 130), .int (nI n), .int (nI chg)])) H ∧ n ≤ 64 ∧
  (∃ (f : Nat → Option Nat) (g : Nat → Nat), va_at D CL (mb + 1, .inl (q 3, 64, .inr (.inr (.inr (.inr f))))) H ∧ (∀ i, i < 64 → f i = some (g i)) ∧ (∀ i, i < 64 → ∃ j, j < 64 ∧ g i = mb + 2 + 2 * j) ∧ (∀ i j, i < 64 → j < 64 → g i = g j → i = j) ∧ ∀ i, i < 64 → kA D q H (g i) (ks i)) ∧
  va_at D CL (mb + 130, .inl (q 0, 64, .inl vs)) H
theorem mA.kept {D : va_G} {q : Nat → ClassId} {H H1 : Heap} {mb n : Nat} {ks : Nat → List Nat} {vs : Nat → Int32} {chg : Nat} (h : mA D q H mb n ks vs chg) (hk : ∀ p : Nat, mb ≤ p → p ≤ mb + 130 → H1[p]? = H[p]?) : mA D q H1 mb n ks vs chg := by
  obtain ⟨ho, hn, ⟨f, g, hf, hfg, hg, hgi, hks⟩, hv⟩ := h
  refine ⟨ho.kept (hk _ (by omega) (by omega)), hn, ⟨f, g, va_at.kept hf (hk _ (by omega) (by omega)), hfg, hg, hgi, fun i hi => ?_⟩, va_at.kept hv (hk _ (by omega) (by omega))⟩
  obtain ⟨j, hj, hgj⟩ := hg i hi
  exact (hks i hi).kept (hk _ (by omega) (by omega)) (hk _ (by omega) (by omega))
/-- the keys in use stand in order -/
def mS (n : Nat) (ks : Nat → List Nat) : Prop := ∀ i j, i < j → j < n → t_ord (ks i) (ks j) < 0
theorem mS_none {n r : Nat} {ks : Nat → List Nat} {ys : List Nat} (hs : mS n ks) (h1 : ∀ j, j < r → t_ord (ks j) ys < 0) (h2 : r < n → 0 < t_ord (ks r) ys) : ∀ j, j < n → ks j ≠ ys := by
  intro j hj e
  rcases Nat.lt_trichotomy j r with h | h | h
  · have := h1 j h
    rw [e, t_ord_refl] at this
    omega
  · subst h
    have := h2 hj
    rw [e, t_ord_refl] at this
    omega
  · have a1 := h2 (by omega)
    have a2 := hs r j h hj
    have a3 := t_ord_anti ys (ks r)
    have a4 := t_ord_trans ys (ks r) (ks j) (by omega) a2
    rw [e, t_ord_refl] at a4
    omega
/-- places from i on, up to n, moved one on -/
def sh_up {α : Type} (f : Nat → α) (i n : Nat) : Nat → α := fun j => if i < j ∧ j ≤ n then f (j - 1) else f j
theorem sh_up_0 {α : Type} (f : Nat → α) (n : Nat) : sh_up f n n = f := by
  funext j
  unfold sh_up
  rw [if_neg (by omega)]
theorem sh_up_s {α : Type} (f : Nat → α) {i n : Nat} (h0 : 0 < i) (hi : i ≤ n) : va_up (sh_up f i n) i (f (i - 1)) = sh_up f (i - 1) n := by
  funext j
  unfold va_up sh_up
  by_cases h : j = i
  · subst h
    rw [if_pos rfl, if_pos (by omega)]
  · rw [if_neg h]
    by_cases h1 : i < j ∧ j ≤ n
    · rw [if_pos h1, if_pos (by omega)]
    · rw [if_neg h1, if_neg (by omega)]
theorem sh_upd (f : Nat → Int32) (k : Nat) (x : Int32) : upd f k x = va_up f k x := rfl
theorem sh_up_at {α : Type} (f : Nat → α) {i n : Nat} (h0 : 0 < i) : sh_up f i n (i - 1) = f (i - 1) := by
  unfold sh_up
  rw [if_neg (by omega)]
/-- places from p on, up to n, moved one back -/
def sh_dn {α : Type} (f : Nat → α) (p i : Nat) : Nat → α := fun j => if p ≤ j ∧ j < i then f (j + 1) else f j
theorem sh_dn_0 {α : Type} (f : Nat → α) (p : Nat) : sh_dn f p p = f := by
  funext j
  unfold sh_dn
  rw [if_neg (by omega)]
theorem sh_dn_s {α : Type} (f : Nat → α) {p i : Nat} (h : p ≤ i) : va_up (sh_dn f p i) i (f (i + 1)) = sh_dn f p (i + 1) := by
  funext j
  unfold va_up sh_dn
  by_cases h : j = i
  · subst h
    rw [if_pos rfl, if_pos (by omega)]
  · rw [if_neg h]
    by_cases h1 : p ≤ j ∧ j < i
    · rw [if_pos h1, if_pos (by omega)]
    · rw [if_neg h1, if_neg (by omega)]
theorem sh_dn_at {α : Type} (f : Nat → α) {p i : Nat} : sh_dn f p i (i + 1) = f (i + 1) := by
  unfold sh_dn
  rw [if_neg (by omega)]
/-- the map with a key put in at place r -/
def mPut {α : Type} (f : Nat → α) (r n : Nat) (x : α) : Nat → α := va_up (sh_up f r n) r x
/-- the map with place p taken out: it stands behind the others -/
def mCut {α : Type} (f : Nat → α) (p n : Nat) (x : α) : Nat → α := va_up (sh_dn f p (n - 1)) (n - 1) x
theorem gi_ge {r : Int32} (h : 0 ≤ r) : 0 ≤ r.toInt := by simpa using Int32.le_iff_toInt_le.mp h
theorem gi_nge {r : Int32} (h : ¬ 0 ≤ r) : r.toInt < 0 := by
  have := mt Int32.le_iff_toInt_le.mpr h
  simpa using this
theorem gi_eq {r : Int32} (h : r = 0) : r.toInt = 0 := by rw [h]; rfl
theorem gi_ne {r : Int32} (h : ¬ r = 0) : r.toInt ≠ 0 := fun q => h (Int32.toInt_inj.mp (by rw [q]; rfl))
theorem gi_lt {r : Int32} (h : r < 0) : r.toInt < 0 := by simpa using Int32.lt_iff_toInt_lt.mp h
theorem gi_nlt {r : Int32} (h : ¬ r < 0) : 0 ≤ r.toInt := by
  have := mt Int32.lt_iff_toInt_lt.mpr h
  simpa using this
end
section
/-! the class KeyMap: printed by wip/specs/keymap.py -/
set_option maxHeartbeats 4000000 in
set_option maxRecDepth 100000 in
/-- countLess: how many stand before -/
theorem c_KeyMap_countLess (l : Launch) (D : va_G) (q : Nat → ClassId) (H : Heap) (mb n : Nat) (ks : Nat → List Nat) (vs : Nat → Int32) (chg : Nat) (hm : mA D q H mb n ks vs chg) (b : Nat) (ys : List Nat) (hys : kA D q H b ys) : gC l y_KeyMap_countLess (Cond.code y_KeyMap_countLess b_KeyMap_countLess 3 (some .int) :: gWS) (gR 2 44 0 0) D CL (gY q) (fun _ => True) [.ref mb, .ref b] H (fun v H1 => ∃ r : Nat, v = some (.int (nI r)) ∧ r ≤ n ∧ (∀ j, j < r → t_ord (ks j) ys < 0) ∧ (r < n → 0 ≤ t_ord (ks r) ys) ∧ H1 = H) 0 0 (fun _ => False) := by
  refine gC.ofW R_KeyMap "countLess" (by decide) rfl rfl ?_
  intro p e s m below meth c hadm X hE hH B hne
  refine g_entry [some (.ref mb), some (.ref b), none] rfl rfl (Nat.le_of_ble_eq_true rfl) (fun ls hl => ?_)
  obtain ⟨ho, hn, ⟨f, g, hf, hfg, hg, hgi, hks⟩, hv⟩ := hm
  refine lv_iconst (v := nI 0) X.1.1 X.1.2.1 d_KeyMap_countLess_0 (by decide) ?_
  refine g_istn X.1.1 X.1.2.1 hl 2 d_KeyMap_countLess_1 rfl (Nat.le_of_ble_eq_true rfl) rfl (fun ls hl => ?_)
  have loop2 : ∀ (fu : Nat) (i : Nat) (locs : List Loc) (ls : Array Slot), n - i < fu → (i ≤ n) → (∀ j, j < i → t_ord (ks j) ys < 0) → (∀ x ∈ locs, (fun _ => False) x.base) → gl ls [some (.ref mb), some (.ref b), some (.int (nI i))] → W p l e (gR 2 44 0 0) s m ([.ref mb, .ref b] : List Value).toArray below meth c H locs 0 0 (gQ below ([.ref mb, .ref b] : List Value).toArray s (fun v H1 => ∃ r : Nat, v = some (.int (nI r)) ∧ r ≤ n ∧ (∀ j, j < r → t_ord (ks j) ys < 0) ∧ (r < n → 0 ≤ t_ord (ks r) ys) ∧ H1 = H) 0 0 (fun _ => False)) (F0 m 2 ls []) := by
    intro fu
    induction fu with
    | zero => intro i locs ls hmu; omega
    | succ fu ih2 =>
      intro i locs ls hmu2 hi2_0 hi2_1 hL hl
      refine lv_iload_n X.1.1 X.1.2.1 d_KeyMap_countLess_2 rfl (gl_at hl rfl) ?_
      refine lv_aload_n X.1.1 X.1.2.1 d_KeyMap_countLess_3 rfl (gl_at hl rfl) ?_
      refine g_get X kc_KeyMap ho 2 (by decide) lk_KeyMap_22 rfl d_KeyMap_countLess_4 ?_
      refine gn_ge X.1.1 X.1.2.1 i n (by omega) (by omega) d_KeyMap_countLess_7 rfl (fun hc7 => ?_) (fun hc7 => ?_)
      · refine lv_iload_n X.1.1 X.1.2.1 d_KeyMap_countLess_29 rfl (gl_at hl rfl) ?_
        exact g_iret X B ⟨i, rfl, by omega, hi2_1, by first | (intro h9; omega) | (intro h9; rw [← hr]; exact gi_ge hc20), rfl⟩ hL d_KeyMap_countLess_30 (by omega) (by omega)
      · refine lv_aload_n X.1.1 X.1.2.1 d_KeyMap_countLess_10 rfl (gl_at hl rfl) ?_
        refine g_get X kc_KeyMap ho 0 (by decide) lk_KeyMap_11 rfl d_KeyMap_countLess_11 ?_
        refine lv_iload_n X.1.1 X.1.2.1 d_KeyMap_countLess_14 rfl (gl_at hl rfl) ?_
        refine g_aald X 3 hf rfl i (by omega) (by decide) (v := .ref (g i)) (by rw [hfg _ (by omega)]; rfl) d_KeyMap_countLess_15 ?_
        refine lv_aload_n X.1.1 X.1.2.1 d_KeyMap_countLess_16 rfl (gl_at hl rfl) ?_
        refine g_cv (A := (fun _ => False)) X gWS_good mw_KeyMap_26 kc_Key (hks i (by omega)).1 (c_Key_order l D q H (g i) b (ks i) ys (hks i (by omega)) hys) (fun _ _ _ => trivial) gBlind.tt rfl rfl hl.1 (Nat.le_of_ble_eq_true rfl) rfl rfl ⟨by decide, by decide⟩ ⟨by decide, by decide⟩ d_KeyMap_countLess_17 (fun _ h => h.elim) hL (fun v1 H2 locs hp3 hL => ?_)
        obtain ⟨r, rfl, hr, hHe⟩ := hp3
        rw [hHe]
        refine lv_if_ge X.1.1 X.1.2.1 d_KeyMap_countLess_20 rfl (fun hc20 => ?_) (fun hc20 => ?_)
        · refine lv_iload_n X.1.1 X.1.2.1 d_KeyMap_countLess_29 rfl (gl_at hl rfl) ?_
          exact g_iret X B ⟨i, rfl, by omega, hi2_1, by first | (intro h9; omega) | (intro h9; rw [← hr]; exact gi_ge hc20), rfl⟩ hL d_KeyMap_countLess_30 (by omega) (by omega)
        · refine g_iinc X.1.1 X.1.2.1 (nI (i + 1)) hl 2 d_KeyMap_countLess_23 rfl (nI_1 _) rfl (fun ls hl => ?_)
          refine lv_goto X.1.1 X.1.2.1 d_KeyMap_countLess_26 rfl ?_
          exact ih2 (i + 1) locs ls (by omega) hc7 (lt_s hi2_1 (by rw [← hr]; exact gi_nge hc20)) hL hl
  exact loop2 _ 0 [] ls (Nat.lt_succ_self _) (Nat.zero_le _) (fun j hj => absurd hj (Nat.not_lt_zero j)) (fun _ h => by cases h) hl

set_option maxHeartbeats 4000000 in
set_option maxRecDepth 100000 in
/-- placeOf -/
theorem c_KeyMap_placeOf (l : Launch) (D : va_G) (q : Nat → ClassId) (H : Heap) (mb n : Nat) (ks : Nat → List Nat) (vs : Nat → Int32) (chg : Nat) (hm : mA D q H mb n ks vs chg) (hs : mS n ks) (b : Nat) (ys : List Nat) (hys : kA D q H b ys) : gC l y_KeyMap_placeOf (Cond.code y_KeyMap_placeOf b_KeyMap_placeOf 3 (some .int) :: gWS) (gR 3 66 0 0) D CL (gY q) (fun _ => True) [.ref mb, .ref b] H (fun v H1 => ((∃ r : Nat, r < n ∧ v = some (.int (nI r)) ∧ ks r = ys) ∨ (v = some (.int (-1)) ∧ ∀ j, j < n → ks j ≠ ys)) ∧ H1 = H) 0 0 (fun _ => False) := by
  refine gC.ofW R_KeyMap "placeOf" (by decide) rfl rfl ?_
  intro p e s m below meth c hadm X hE hH B hne
  refine g_entry [some (.ref mb), some (.ref b), none] rfl rfl (Nat.le_of_ble_eq_true rfl) (fun ls hl => ?_)
  have hm0 := hm
  obtain ⟨ho, hn, ⟨f, g, hf, hfg, hg, hgi, hks⟩, hv⟩ := hm
  have hm := hm0
  refine lv_aload_n X.1.1 X.1.2.1 d_KeyMap_placeOf_0 rfl (gl_at hl rfl) ?_
  refine lv_aload_n X.1.1 X.1.2.1 d_KeyMap_placeOf_1 rfl (gl_at hl rfl) ?_
  refine g_cv (A := (fun _ => False)) X gWS_good mw_KeyMap_30 kc_KeyMap ho (c_KeyMap_countLess l D q H mb n ks vs chg hm b ys hys) (fun _ _ _ => trivial) gBlind.tt rfl rfl hl.1 (Nat.le_of_ble_eq_true rfl) rfl rfl ⟨by decide, by decide⟩ ⟨by decide, by decide⟩ d_KeyMap_placeOf_2 (fun _ h => h.elim) (fun _ h => by cases h) (fun v1 H2 locs hp3 hL => ?_)
  obtain ⟨r, rfl, hrn, hr1, hr2, hHe⟩ := hp3
  rw [hHe]
  refine g_istn X.1.1 X.1.2.1 hl 2 d_KeyMap_placeOf_5 rfl (Nat.le_of_ble_eq_true rfl) rfl (fun ls hl => ?_)
  refine lv_iload_n X.1.1 X.1.2.1 d_KeyMap_placeOf_6 rfl (gl_at hl rfl) ?_
  refine lv_aload_n X.1.1 X.1.2.1 d_KeyMap_placeOf_7 rfl (gl_at hl rfl) ?_
  refine g_get X kc_KeyMap ho 2 (by decide) lk_KeyMap_22 rfl d_KeyMap_placeOf_8 ?_
  refine gn_ge X.1.1 X.1.2.1 r n (by omega) (by omega) d_KeyMap_placeOf_11 rfl (fun hc11 => ?_) (fun hc11 => ?_)
  · refine lv_iconst (v := (-1)) X.1.1 X.1.2.1 d_KeyMap_placeOf_31 (by decide) ?_
    exact g_iret X B ⟨Or.inr ⟨rfl, mS_none hs hr1 (fun h => by omega)⟩, rfl⟩ hL d_KeyMap_placeOf_32 (by omega) (by omega)
  · refine lv_aload_n X.1.1 X.1.2.1 d_KeyMap_placeOf_14 rfl (gl_at hl rfl) ?_
    refine g_get X kc_KeyMap ho 0 (by decide) lk_KeyMap_11 rfl d_KeyMap_placeOf_15 ?_
    refine lv_iload_n X.1.1 X.1.2.1 d_KeyMap_placeOf_18 rfl (gl_at hl rfl) ?_
    refine g_aald X 3 hf rfl r (by omega) (by decide) (v := .ref (g r)) (by rw [hfg _ (by omega)]; rfl) d_KeyMap_placeOf_19 ?_
    refine lv_aload_n X.1.1 X.1.2.1 d_KeyMap_placeOf_20 rfl (gl_at hl rfl) ?_
    refine g_cv (A := (fun _ => False)) X gWS_good mw_KeyMap_26 kc_Key (hks r (by omega)).1 (c_Key_order l D q H (g r) b (ks r) ys (hks r (by omega)) hys) (fun _ _ _ => trivial) gBlind.tt rfl rfl hl.1 (Nat.le_of_ble_eq_true rfl) rfl rfl ⟨by decide, by decide⟩ ⟨by decide, by decide⟩ d_KeyMap_placeOf_21 (fun _ h => h.elim) hL (fun v4 H5 locs hp6 hL => ?_)
    obtain ⟨o, rfl, ho9, hHe⟩ := hp6
    rw [hHe]
    refine lv_if_ne X.1.1 X.1.2.1 d_KeyMap_placeOf_24 rfl (fun hc24 => ?_) (fun hc24 => ?_)
    · refine lv_iconst (v := (-1)) X.1.1 X.1.2.1 d_KeyMap_placeOf_31 (by decide) ?_
      exact g_iret X B ⟨Or.inr ⟨rfl, mS_none hs hr1 (fun h => by have h8 := hr2 h; have h9 := gi_ne hc24; omega)⟩, rfl⟩ hL d_KeyMap_placeOf_32 (by omega) (by omega)
    · refine lv_iload_n X.1.1 X.1.2.1 d_KeyMap_placeOf_27 rfl (gl_at hl rfl) ?_
      refine lv_goto X.1.1 X.1.2.1 d_KeyMap_placeOf_28 rfl ?_
      exact g_iret X B ⟨Or.inl ⟨r, hc11, rfl, t_ord_eq _ _ (by rw [← ho9]; exact gi_eq hc24)⟩, rfl⟩ hL d_KeyMap_placeOf_32 (by omega) (by omega)

set_option maxHeartbeats 4000000 in
set_option maxRecDepth 100000 in
/-- add: a key that is not there, to a map that is not full -/
theorem c_KeyMap_add (l : Launch) (D : va_G) (q : Nat → ClassId) (H : Heap) (mb n : Nat) (ks : Nat → List Nat) (vs : Nat → Int32) (chg : Nat) (hm : mA D q H mb n ks vs chg) (hn64 : n < 64) (b : Nat) (ys : List Nat) (hys : kA D q H b ys) (hb : b + 1 < mb ∨ mb + 130 < b) (x : Int32) : gC l y_KeyMap_add (Cond.code y_KeyMap_add b_KeyMap_add 6 none :: gWS) (gR 3 66 0 0) D CL (gY q) (fun _ => True) [.ref mb, .ref b, .int x] H (fun v H1 => ∃ r : Nat, r ≤ n ∧ (∀ j, j < r → t_ord (ks j) ys < 0) ∧ (r < n → 0 ≤ t_ord (ks r) ys) ∧ v = none ∧ mA D q H1 mb (n + 1) (mPut ks r n ys) (mPut vs r n x) (chg + 1) ∧ H1.size = H.size ∧ ∀ p : Nat, ¬ (mb ≤ p ∧ p ≤ mb + 130) → H1[p]? = H[p]?) 0 0 (fun p => mb ≤ p ∧ p ≤ mb + 130) := by
  refine gC.ofW R_KeyMap "add" (by decide) rfl rfl ?_
  intro p e s m below meth c hadm X hE hH B hne
  refine g_entry [some (.ref mb), some (.ref b), some (.int x), none, none, none] rfl rfl (Nat.le_of_ble_eq_true rfl) (fun ls hl => ?_)
  have hm0 := hm
  obtain ⟨ho, hn, ⟨f, g, hf, hfg, hg, hgi, hks⟩, hv⟩ := hm
  have hm := hm0
  refine lv_aload_n X.1.1 X.1.2.1 d_KeyMap_add_0 rfl (gl_at hl rfl) ?_
  refine lv_aload_n X.1.1 X.1.2.1 d_KeyMap_add_1 rfl (gl_at hl rfl) ?_
  refine g_cv (A := (fun p => mb ≤ p ∧ p ≤ mb + 130)) X gWS_good mw_KeyMap_30 kc_KeyMap ho (c_KeyMap_countLess l D q H mb n ks vs chg hm b ys hys) (fun _ _ _ => trivial) gBlind.tt rfl rfl hl.1 (Nat.le_of_ble_eq_true rfl) rfl rfl ⟨by decide, by decide⟩ ⟨by decide, by decide⟩ d_KeyMap_add_2 (fun _ h => h.elim) (fun _ h => by cases h) (fun v1 H2 locs hp3 hL => ?_)
  obtain ⟨r, rfl, hrn, hr1, hr2, hHe⟩ := hp3
  rw [hHe]
  refine g_istn X.1.1 X.1.2.1 hl 3 d_KeyMap_add_5 rfl (Nat.le_of_ble_eq_true rfl) rfl (fun ls hl => ?_)
  refine lv_aload_n X.1.1 X.1.2.1 d_KeyMap_add_6 rfl (gl_at hl rfl) ?_
  refine g_get X kc_KeyMap ho 0 (by decide) lk_KeyMap_11 rfl d_KeyMap_add_7 ?_
  refine lv_aload_n X.1.1 X.1.2.1 d_KeyMap_add_10 rfl (gl_at hl rfl) ?_
  refine g_get X kc_KeyMap ho 2 (by decide) lk_KeyMap_22 rfl d_KeyMap_add_11 ?_
  refine g_aald X 3 hf rfl n (by omega) (by decide) (v := .ref (g n)) (by rw [hfg _ (by omega)]; rfl) d_KeyMap_add_14 ?_
  refine g_ast X.1.1 X.1.2.1 hl 4 d_KeyMap_add_15 (Nat.le_of_ble_eq_true rfl) rfl (fun ls hl => ?_)
  refine lv_aload_n X.1.1 X.1.2.1 d_KeyMap_add_17 rfl (gl_at hl rfl) ?_
  refine g_get X kc_KeyMap ho 2 (by decide) lk_KeyMap_22 rfl d_KeyMap_add_18 ?_
  refine g_ist X.1.1 X.1.2.1 hl 5 d_KeyMap_add_21 (Nat.le_of_ble_eq_true rfl) rfl (fun ls hl => ?_)
  have loop23 : ∀ (fu : Nat) (i : Nat) (Hn : Heap) (locs : List Loc) (ls : Array Slot), i < fu → (r ≤ i) → (i ≤ n) → (va_at D CL (mb, .inr (1, [.ref (mb + 1), .ref (mb + 130), .int (nI n), .int (nI chg)])) Hn) → (va_at D CL (mb + 1, .inl (q 3, 64, .inr (.inr (.inr (.inr (sh_up f i n)))))) Hn) → (va_at D CL (mb + 130, .inl (q 0, 64, .inl (sh_up vs i n))) Hn) → (∀ p : Nat, p ≠ mb + 1 → p ≠ mb + 130 → Hn[p]? = H[p]?) → (Hn.size = H.size) → (∀ x ∈ locs, (fun p => mb ≤ p ∧ p ≤ mb + 130) x.base) → gl ls [some (.ref mb), some (.ref b), some (.int x), some (.int (nI r)), some (.ref (g n)), some (.int (nI i))] → W p l e (gR 3 66 0 0) s m ([.ref mb, .ref b, .int x] : List Value).toArray below meth c Hn locs 0 0 (gQ below ([.ref mb, .ref b, .int x] : List Value).toArray s (fun v H1 => ∃ r : Nat, r ≤ n ∧ (∀ j, j < r → t_ord (ks j) ys < 0) ∧ (r < n → 0 ≤ t_ord (ks r) ys) ∧ v = none ∧ mA D q H1 mb (n + 1) (mPut ks r n ys) (mPut vs r n x) (chg + 1) ∧ H1.size = H.size ∧ ∀ p : Nat, ¬ (mb ≤ p ∧ p ≤ mb + 130) → H1[p]? = H[p]?) 0 0 (fun p => mb ≤ p ∧ p ≤ mb + 130)) (F0 m 23 ls []) := by
    intro fu
    induction fu with
    | zero => intro i Hn locs ls hmu; omega
    | succ fu ih23 =>
      intro i Hn locs ls hmu23 hi23_0 hi23_1 ho hf hv fr zz hL hl
      refine lv_iload X.1.1 X.1.2.1 d_KeyMap_add_23 (gl_at hl rfl) ?_
      refine lv_iload_n X.1.1 X.1.2.1 d_KeyMap_add_25 rfl (gl_at hl rfl) ?_
      refine gn_le X.1.1 X.1.2.1 i r (by omega) (by omega) d_KeyMap_add_26 rfl (fun hc26 => ?_) (fun hc26 => ?_)
      · have e9 : r = i := by omega
        subst e9
        refine lv_aload X.1.1 X.1.2.1 d_KeyMap_add_67 (gl_at hl rfl) ?_
        refine lv_aload_n X.1.1 X.1.2.1 d_KeyMap_add_69 rfl (gl_at hl rfl) ?_
        obtain ⟨jn, hjn, hgn⟩ := hg n (by omega)
        have hkn := (hks n (by omega)).kept (fr (g n) (by omega) (by omega)) (fr (g n + 1) (by omega) (by omega))
        have hkb := hys.kept (fr b (by omega) (by omega)) (fr (b + 1) (by omega) (by omega))
        refine g_cv (A := (fun p => mb ≤ p ∧ p ≤ mb + 130)) X gWS_good mw_KeyMap_33 kc_Key hkn.1 (c_Key_become l D q Hn (g n) b (ks n) ys hkn hkb (by omega)) (fun _ _ _ => trivial) gBlind.tt rfl rfl hl.1 (Nat.le_of_ble_eq_true rfl) rfl rfl ⟨by decide, by decide⟩ ⟨by decide, by decide⟩ d_KeyMap_add_70 (fun p h => show _ ∧ _ by omega) hL (fun v4 H5 locs hp6 hL => ?_)
        obtain ⟨rfl, hkn2, hz2, fr2⟩ := hp6
        replace ho := va_at.kept ho (fr2 _ (by omega))
        replace hf := va_at.kept hf (fr2 _ (by omega))
        replace hv := va_at.kept hv (fr2 _ (by omega))
        have hkn1 := hkn2.1
        refine lv_aload_n X.1.1 X.1.2.1 d_KeyMap_add_73 rfl (gl_at hl rfl) ?_
        refine g_get X kc_KeyMap ho 0 (by decide) lk_KeyMap_11 rfl d_KeyMap_add_74 ?_
        refine lv_iload_n X.1.1 X.1.2.1 d_KeyMap_add_77 rfl (gl_at hl rfl) ?_
        refine lv_aload X.1.1 X.1.2.1 d_KeyMap_add_78 (gl_at hl rfl) ?_
        refine g_aast (A := (fun p => mb ≤ p ∧ p ≤ mb + 130)) X 3 kc_Key hf rfl hkn1 r (by omega) (by decide) d_KeyMap_add_80 (show _ ∧ _ by omega) hL (fun H7 locs h8 z9 oq10 hL => ?_)
        replace ho := ho.kept (oq10 _ (by omega))
        replace hv := hv.kept (oq10 _ (by omega))
        replace hkn1 := hkn1.kept (oq10 _ (by omega))
        refine lv_aload_n X.1.1 X.1.2.1 d_KeyMap_add_81 rfl (gl_at hl rfl) ?_
        refine g_get X kc_KeyMap ho 1 (by decide) lk_KeyMap_18 rfl d_KeyMap_add_82 ?_
        refine lv_iload_n X.1.1 X.1.2.1 d_KeyMap_add_85 rfl (gl_at hl rfl) ?_
        refine lv_iload_n X.1.1 X.1.2.1 d_KeyMap_add_86 rfl (gl_at hl rfl) ?_
        refine g_iast (A := (fun p => mb ≤ p ∧ p ≤ mb + 130)) X 0 hv rfl r (by omega) (by decide) d_KeyMap_add_87 (show _ ∧ _ by omega) hL (fun H11 locs h12 z13 oq14 hL => ?_)
        replace ho := ho.kept (oq14 _ (by omega))
        replace h8 := h8.kept (oq14 _ (by omega))
        replace hkn1 := hkn1.kept (oq14 _ (by omega))
        refine lv_aload_n X.1.1 X.1.2.1 d_KeyMap_add_88 rfl (gl_at hl rfl) ?_
        refine lv_dup X.1.1 X.1.2.1 d_KeyMap_add_89 rfl ?_
        refine g_get X kc_KeyMap ho 2 (by decide) lk_KeyMap_22 rfl d_KeyMap_add_90 ?_
        refine lv_iconst (v := nI 1) X.1.1 X.1.2.1 d_KeyMap_add_93 (by decide) ?_
        refine lv_iadd X.1.1 X.1.2.1 d_KeyMap_add_94 ?_
        refine g_top (nI (n + 1)) (nI_add _ _) ?_
        refine g_put (A := (fun p => mb ≤ p ∧ p ≤ mb + 130)) X kc_KeyMap ho 2 (by decide) lk_KeyMap_22 rfl rfl rfl (Nat.le_of_ble_eq_true rfl) d_KeyMap_add_95 (show _ ∧ _ by omega) hL (fun H15 locs h16 z17 oq18 hL => ?_)
        replace h8 := h8.kept (oq18 _ (by omega))
        replace h12 := h12.kept (oq18 _ (by omega))
        replace hkn1 := hkn1.kept (oq18 _ (by omega))
        refine lv_aload_n X.1.1 X.1.2.1 d_KeyMap_add_98 rfl (gl_at hl rfl) ?_
        refine lv_dup X.1.1 X.1.2.1 d_KeyMap_add_99 rfl ?_
        refine g_get X kc_KeyMap h16 3 (by decide) lk_KeyMap_37 rfl d_KeyMap_add_100 ?_
        refine lv_iconst (v := nI 1) X.1.1 X.1.2.1 d_KeyMap_add_103 (by decide) ?_
        refine lv_iadd X.1.1 X.1.2.1 d_KeyMap_add_104 ?_
        refine g_top (nI (chg + 1)) (nI_add _ _) ?_
        refine g_put (A := (fun p => mb ≤ p ∧ p ≤ mb + 130)) X kc_KeyMap h16 3 (by decide) lk_KeyMap_37 rfl rfl rfl (Nat.le_of_ble_eq_true rfl) d_KeyMap_add_105 (show _ ∧ _ by omega) hL (fun H19 locs h20 z21 oq22 hL => ?_)
        replace h8 := h8.kept (oq22 _ (by omega))
        replace h12 := h12.kept (oq22 _ (by omega))
        replace hkn1 := hkn1.kept (oq22 _ (by omega))
        have hch : ∀ p : Nat, p ≠ mb → p ≠ mb + 1 → p ≠ mb + 130 → H19[p]? = _ := fun p h1 h2 h3 => ((oq22 p (by assumption)).trans ((oq18 p (by assumption)).trans ((oq14 p (by assumption)).trans (oq10 p (by assumption)))))
        have hfin : ∀ i, i < 64 → kA D q H19 (mPut g r n (g n) i) (mPut ks r n ys i) := by
          intro i hi
          unfold mPut va_up
          by_cases h1 : i = r
          · rw [if_pos h1, if_pos h1]
            exact hkn2.kept (hch _ (by omega) (by omega) (by omega)) (hch _ (by omega) (by omega) (by omega))
          · rw [if_neg h1, if_neg h1]
            unfold sh_up
            have key : ∀ k, k < 64 → k ≠ n → kA D q H19 (g k) (ks k) := by
              intro k hk hkn9
              obtain ⟨j, hj, hgj⟩ := hg k hk
              have hne : g k ≠ g n := fun h => hkn9 (hgi k n hk (by omega) h)
              refine (((hks k hk).kept (fr _ (by omega) (by omega)) (fr _ (by omega) (by omega))).kept (fr2 _ (by omega)) (fr2 _ (by omega))).kept (hch _ (by omega) (by omega) (by omega)) (hch _ (by omega) (by omega) (by omega))
            by_cases h2 : r < i ∧ i ≤ n
            · rw [if_pos h2, if_pos h2]
              exact key _ (by omega) (by omega)
            · rw [if_neg h2, if_neg h2]
              exact key _ hi (by omega)
        refine g_vret X B ⟨r, hrn, hr1, hr2, rfl, ⟨h20, by omega, ⟨_, mPut g r n (g n), h8, fun i hi => ?_, fun i hi => ?_, fun i j hi hj h => ?_, hfin⟩, h12⟩, (z21.trans (z17.trans (z13.trans (z9.trans (hz2.trans zz))))), fun p hp => ?_⟩ hL d_KeyMap_add_108 (by omega) (by omega)
        · unfold mPut va_up
          by_cases h1 : i = r
          · rw [if_pos h1, if_pos h1]
          · rw [if_neg h1, if_neg h1]
            unfold sh_up
            split
            · exact hfg _ (by omega)
            · exact hfg _ hi
        · unfold mPut va_up
          by_cases h1 : i = r
          · rw [if_pos h1]
            exact hg n (by omega)
          · rw [if_neg h1]
            unfold sh_up
            split
            · exact hg _ (by omega)
            · exact hg _ hi
        · unfold mPut va_up sh_up at h
          by_cases h1 : i = r
          · by_cases h2 : j = r
            · omega
            · rw [if_pos h1, if_neg h2] at h
              split at h
              · have := hgi _ _ (by omega) (by omega) h
                omega
              · have := hgi _ _ (by omega) (by omega) h
                omega
          · by_cases h2 : j = r
            · rw [if_neg h1, if_pos h2] at h
              split at h
              · have := hgi _ _ (by omega) (by omega) h
                omega
              · have := hgi _ _ (by omega) (by omega) h
                omega
            · rw [if_neg h1, if_neg h2] at h
              split at h
              · split at h
                · have := hgi _ _ (by omega) (by omega) h
                  omega
                · have := hgi _ _ (by omega) (by omega) h
                  omega
              · split at h
                · have := hgi _ _ (by omega) (by omega) h
                  omega
                · exact hgi _ _ (by omega) (by omega) h
        · exact (hch p (by omega) (by omega) (by omega)).trans ((fr2 p (by omega)).trans (fr p (by omega) (by omega)))
      · obtain ⟨j9, hj9, hgj9⟩ := hg (i - 1) (by omega)
        have hkk := (hks (i - 1) (by omega)).1.kept (fr (g (i - 1)) (by omega) (by omega))
        refine lv_aload_n X.1.1 X.1.2.1 d_KeyMap_add_29 rfl (gl_at hl rfl) ?_
        refine g_get X kc_KeyMap ho 0 (by decide) lk_KeyMap_11 rfl d_KeyMap_add_30 ?_
        refine lv_iload X.1.1 X.1.2.1 d_KeyMap_add_33 (gl_at hl rfl) ?_
        refine lv_aload_n X.1.1 X.1.2.1 d_KeyMap_add_35 rfl (gl_at hl rfl) ?_
        refine g_get X kc_KeyMap ho 0 (by decide) lk_KeyMap_11 rfl d_KeyMap_add_36 ?_
        refine lv_iload X.1.1 X.1.2.1 d_KeyMap_add_39 (gl_at hl rfl) ?_
        refine lv_iconst (v := nI 1) X.1.1 X.1.2.1 d_KeyMap_add_41 (by decide) ?_
        refine lv_isub X.1.1 X.1.2.1 d_KeyMap_add_42 ?_
        refine g_top (nI (i - 1)) (pk_sub (by omega)) ?_
        refine g_aald X 3 hf rfl (i - 1) (by omega) (by decide) (v := .ref (g (i - 1))) (by rw [sh_up_at f (by omega), hfg _ (by omega)]; rfl) d_KeyMap_add_43 ?_
        refine g_aast (A := (fun p => mb ≤ p ∧ p ≤ mb + 130)) X 3 kc_Key hf rfl hkk i (by omega) (by decide) d_KeyMap_add_44 (show _ ∧ _ by omega) hL (fun H23 locs h24 z25 oq26 hL => ?_)
        replace ho := ho.kept (oq26 _ (by omega))
        replace hv := hv.kept (oq26 _ (by omega))
        replace hkk := hkk.kept (oq26 _ (by omega))
        refine lv_aload_n X.1.1 X.1.2.1 d_KeyMap_add_45 rfl (gl_at hl rfl) ?_
        refine g_get X kc_KeyMap ho 1 (by decide) lk_KeyMap_18 rfl d_KeyMap_add_46 ?_
        refine lv_iload X.1.1 X.1.2.1 d_KeyMap_add_49 (gl_at hl rfl) ?_
        refine lv_aload_n X.1.1 X.1.2.1 d_KeyMap_add_51 rfl (gl_at hl rfl) ?_
        refine g_get X kc_KeyMap ho 1 (by decide) lk_KeyMap_18 rfl d_KeyMap_add_52 ?_
        refine lv_iload X.1.1 X.1.2.1 d_KeyMap_add_55 (gl_at hl rfl) ?_
        refine lv_iconst (v := nI 1) X.1.1 X.1.2.1 d_KeyMap_add_57 (by decide) ?_
        refine lv_isub X.1.1 X.1.2.1 d_KeyMap_add_58 ?_
        refine g_top (nI (i - 1)) (pk_sub (by omega)) ?_
        refine g_iald X 0 hv rfl (i - 1) (by omega) (by decide) d_KeyMap_add_59 ?_
        refine g_iast (A := (fun p => mb ≤ p ∧ p ≤ mb + 130)) X 0 hv rfl i (by omega) (by decide) d_KeyMap_add_60 (show _ ∧ _ by omega) hL (fun H27 locs h28 z29 oq30 hL => ?_)
        replace ho := ho.kept (oq30 _ (by omega))
        replace h24 := h24.kept (oq30 _ (by omega))
        replace hkk := hkk.kept (oq30 _ (by omega))
        refine g_iinc X.1.1 X.1.2.1 (nI (i - 1)) hl 5 d_KeyMap_add_61 rfl (gn_dec 1 (by omega)) rfl (fun ls hl => ?_)
        refine lv_goto X.1.1 X.1.2.1 d_KeyMap_add_64 rfl ?_
        exact ih23 (i - 1) H27 locs ls (by omega) (by omega) (by omega) ho (by rw [← sh_up_s f (by omega) (by omega), hfg (i - 1) (by omega)]; exact h24) (by rw [← sh_up_s vs (by omega) (by omega), ← sh_up_at vs (n := n) (show 0 < i by omega), ← sh_upd]; exact h28) (fun p h1 h2 => ((oq30 p (by assumption)).trans ((oq26 p (by assumption)).trans (fr p h1 h2)))) (z29.trans (z25.trans zz)) hL hl
  exact loop23 _ n H locs ls (Nat.lt_succ_self _) hrn (Nat.le_refl _) ho (by rw [sh_up_0]; exact hf) (by rw [sh_up_0]; exact hv) (fun _ _ _ => rfl) rfl hL hl

set_option maxHeartbeats 4000000 in
set_option maxRecDepth 100000 in
/-- takeOut: the key at a place -/
theorem c_KeyMap_takeOut (l : Launch) (D : va_G) (q : Nat → ClassId) (H : Heap) (mb n : Nat) (ks : Nat → List Nat) (vs : Nat → Int32) (chg : Nat) (hm : mA D q H mb n ks vs chg) (pl : Nat) (hpl : pl < n) : gC l y_KeyMap_takeOut (Cond.code y_KeyMap_takeOut b_KeyMap_takeOut 5 (some .int) :: gWS) (gR 0 0 0 0) D CL (gY q) (fun _ => True) [.ref mb, .int (nI pl)] H (fun v H1 => v = some (.int (vs pl)) ∧ mA D q H1 mb (n - 1) (mCut ks pl n (ks pl)) (sh_dn vs pl (n - 1)) (chg + 1) ∧ H1.size = H.size ∧ ∀ p : Nat, ¬ (mb ≤ p ∧ p ≤ mb + 130) → H1[p]? = H[p]?) 0 0 (fun p => mb ≤ p ∧ p ≤ mb + 130) := by
  refine gC.ofW R_KeyMap "takeOut" (by decide) rfl rfl ?_
  intro p e s m below meth c hadm X hE hH B hne
  refine g_entry [some (.ref mb), some (.int (nI pl)), none, none, none] rfl rfl (Nat.le_of_ble_eq_true rfl) (fun ls hl => ?_)
  obtain ⟨ho, hn, ⟨f, g, hf, hfg, hg, hgi, hks⟩, hv⟩ := hm
  refine lv_aload_n X.1.1 X.1.2.1 d_KeyMap_takeOut_0 rfl (gl_at hl rfl) ?_
  refine g_get X kc_KeyMap ho 0 (by decide) lk_KeyMap_11 rfl d_KeyMap_takeOut_1 ?_
  refine lv_iload_n X.1.1 X.1.2.1 d_KeyMap_takeOut_4 rfl (gl_at hl rfl) ?_
  refine g_aald X 3 hf rfl pl (by omega) (by decide) (v := .ref (g pl)) (by rw [hfg _ (by omega)]; rfl) d_KeyMap_takeOut_5 ?_
  refine g_astn X.1.1 X.1.2.1 hl 2 d_KeyMap_takeOut_6 rfl (Nat.le_of_ble_eq_true rfl) rfl (fun ls hl => ?_)
  refine lv_aload_n X.1.1 X.1.2.1 d_KeyMap_takeOut_7 rfl (gl_at hl rfl) ?_
  refine g_get X kc_KeyMap ho 1 (by decide) lk_KeyMap_18 rfl d_KeyMap_takeOut_8 ?_
  refine lv_iload_n X.1.1 X.1.2.1 d_KeyMap_takeOut_11 rfl (gl_at hl rfl) ?_
  refine g_iald X 0 hv rfl pl (by omega) (by decide) d_KeyMap_takeOut_12 ?_
  refine g_istn X.1.1 X.1.2.1 hl 3 d_KeyMap_takeOut_13 rfl (Nat.le_of_ble_eq_true rfl) rfl (fun ls hl => ?_)
  refine lv_iload_n X.1.1 X.1.2.1 d_KeyMap_takeOut_14 rfl (gl_at hl rfl) ?_
  refine g_ist X.1.1 X.1.2.1 hl 4 d_KeyMap_takeOut_15 (Nat.le_of_ble_eq_true rfl) rfl (fun ls hl => ?_)
  have loop17 : ∀ (fu : Nat) (i : Nat) (Hn : Heap) (locs : List Loc) (ls : Array Slot), n - 1 - i < fu → (pl ≤ i) → (i ≤ n - 1) → (va_at D CL (mb, .inr (1, [.ref (mb + 1), .ref (mb + 130), .int (nI n), .int (nI chg)])) Hn) → (va_at D CL (mb + 1, .inl (q 3, 64, .inr (.inr (.inr (.inr (sh_dn f pl i)))))) Hn) → (va_at D CL (mb + 130, .inl (q 0, 64, .inl (sh_dn vs pl i))) Hn) → (∀ p : Nat, p ≠ mb + 1 → p ≠ mb + 130 → Hn[p]? = H[p]?) → (Hn.size = H.size) → (∀ x ∈ locs, (fun p => mb ≤ p ∧ p ≤ mb + 130) x.base) → gl ls [some (.ref mb), some (.int (nI pl)), some (.ref (g pl)), some (.int (vs pl)), some (.int (nI i))] → W p l e (gR 0 0 0 0) s m ([.ref mb, .int (nI pl)] : List Value).toArray below meth c Hn locs 0 0 (gQ below ([.ref mb, .int (nI pl)] : List Value).toArray s (fun v H1 => v = some (.int (vs pl)) ∧ mA D q H1 mb (n - 1) (mCut ks pl n (ks pl)) (sh_dn vs pl (n - 1)) (chg + 1) ∧ H1.size = H.size ∧ ∀ p : Nat, ¬ (mb ≤ p ∧ p ≤ mb + 130) → H1[p]? = H[p]?) 0 0 (fun p => mb ≤ p ∧ p ≤ mb + 130)) (F0 m 17 ls []) := by
    intro fu
    induction fu with
    | zero => intro i Hn locs ls hmu; omega
    | succ fu ih17 =>
      intro i Hn locs ls hmu17 hi17_0 hi17_1 ho hf hv fr zz hL hl
      refine lv_iload X.1.1 X.1.2.1 d_KeyMap_takeOut_17 (gl_at hl rfl) ?_
      refine lv_aload_n X.1.1 X.1.2.1 d_KeyMap_takeOut_19 rfl (gl_at hl rfl) ?_
      refine g_get X kc_KeyMap ho 2 (by decide) lk_KeyMap_22 rfl d_KeyMap_takeOut_20 ?_
      refine lv_iconst (v := nI 1) X.1.1 X.1.2.1 d_KeyMap_takeOut_23 (by decide) ?_
      refine lv_isub X.1.1 X.1.2.1 d_KeyMap_takeOut_24 ?_
      refine g_top (nI (n - 1)) (pk_sub (by omega)) ?_
      refine gn_ge X.1.1 X.1.2.1 i (n - 1) (by omega) (by omega) d_KeyMap_takeOut_25 rfl (fun hc25 => ?_) (fun hc25 => ?_)
      · have e9 : n - 1 = i := by omega
        subst e9
        obtain ⟨j8, hj8, hgj8⟩ := hg pl (by omega)
        have hkp := (hks pl (by omega)).1.kept (fr (g pl) (by omega) (by omega))
        refine lv_aload_n X.1.1 X.1.2.1 d_KeyMap_takeOut_66 rfl (gl_at hl rfl) ?_
        refine g_get X kc_KeyMap ho 0 (by decide) lk_KeyMap_11 rfl d_KeyMap_takeOut_67 ?_
        refine lv_aload_n X.1.1 X.1.2.1 d_KeyMap_takeOut_70 rfl (gl_at hl rfl) ?_
        refine g_get X kc_KeyMap ho 2 (by decide) lk_KeyMap_22 rfl d_KeyMap_takeOut_71 ?_
        refine lv_iconst (v := nI 1) X.1.1 X.1.2.1 d_KeyMap_takeOut_74 (by decide) ?_
        refine lv_isub X.1.1 X.1.2.1 d_KeyMap_takeOut_75 ?_
        refine g_top (nI (n - 1)) (pk_sub (by omega)) ?_
        refine lv_aload_n X.1.1 X.1.2.1 d_KeyMap_takeOut_76 rfl (gl_at hl rfl) ?_
        refine g_aast (A := (fun p => mb ≤ p ∧ p ≤ mb + 130)) X 3 kc_Key hf rfl hkp (n - 1) (by omega) (by decide) d_KeyMap_takeOut_77 (show _ ∧ _ by omega) hL (fun H1 locs h2 z3 oq4 hL => ?_)
        replace ho := ho.kept (oq4 _ (by omega))
        replace hv := hv.kept (oq4 _ (by omega))
        replace hkp := hkp.kept (oq4 _ (by omega))
        refine lv_aload_n X.1.1 X.1.2.1 d_KeyMap_takeOut_78 rfl (gl_at hl rfl) ?_
        refine lv_dup X.1.1 X.1.2.1 d_KeyMap_takeOut_79 rfl ?_
        refine g_get X kc_KeyMap ho 2 (by decide) lk_KeyMap_22 rfl d_KeyMap_takeOut_80 ?_
        refine lv_iconst (v := nI 1) X.1.1 X.1.2.1 d_KeyMap_takeOut_83 (by decide) ?_
        refine lv_isub X.1.1 X.1.2.1 d_KeyMap_takeOut_84 ?_
        refine g_top (nI (n - 1)) (pk_sub (by omega)) ?_
        refine g_put (A := (fun p => mb ≤ p ∧ p ≤ mb + 130)) X kc_KeyMap ho 2 (by decide) lk_KeyMap_22 rfl rfl rfl (Nat.le_of_ble_eq_true rfl) d_KeyMap_takeOut_85 (show _ ∧ _ by omega) hL (fun H5 locs h6 z7 oq8 hL => ?_)
        replace h2 := h2.kept (oq8 _ (by omega))
        replace hv := hv.kept (oq8 _ (by omega))
        replace hkp := hkp.kept (oq8 _ (by omega))
        refine lv_aload_n X.1.1 X.1.2.1 d_KeyMap_takeOut_88 rfl (gl_at hl rfl) ?_
        refine lv_dup X.1.1 X.1.2.1 d_KeyMap_takeOut_89 rfl ?_
        refine g_get X kc_KeyMap h6 3 (by decide) lk_KeyMap_37 rfl d_KeyMap_takeOut_90 ?_
        refine lv_iconst (v := nI 1) X.1.1 X.1.2.1 d_KeyMap_takeOut_93 (by decide) ?_
        refine lv_iadd X.1.1 X.1.2.1 d_KeyMap_takeOut_94 ?_
        refine g_top (nI (chg + 1)) (nI_add _ _) ?_
        refine g_put (A := (fun p => mb ≤ p ∧ p ≤ mb + 130)) X kc_KeyMap h6 3 (by decide) lk_KeyMap_37 rfl rfl rfl (Nat.le_of_ble_eq_true rfl) d_KeyMap_takeOut_95 (show _ ∧ _ by omega) hL (fun H9 locs h10 z11 oq12 hL => ?_)
        replace h2 := h2.kept (oq12 _ (by omega))
        replace hv := hv.kept (oq12 _ (by omega))
        replace hkp := hkp.kept (oq12 _ (by omega))
        refine lv_iload_n X.1.1 X.1.2.1 d_KeyMap_takeOut_98 rfl (gl_at hl rfl) ?_
        have hch : ∀ p : Nat, p ≠ mb → p ≠ mb + 1 → H9[p]? = _ := fun p h1 h2 => ((oq12 p (by assumption)).trans ((oq8 p (by assumption)).trans (oq4 p (by assumption))))
        have hfin : ∀ i, i < 64 → kA D q H9 (mCut g pl n (g pl) i) (mCut ks pl n (ks pl) i) := by
          intro i hi
          have key : ∀ k, k < 64 → kA D q H9 (g k) (ks k) := by
            intro k hk
            obtain ⟨j, hj, hgj⟩ := hg k hk
            exact ((hks k hk).kept (fr _ (by omega) (by omega)) (fr _ (by omega) (by omega))).kept (hch _ (by omega) (by omega)) (hch _ (by omega) (by omega))
          unfold mCut va_up
          by_cases h1 : i = n - 1
          · rw [if_pos h1, if_pos h1]
            exact key _ (by omega)
          · rw [if_neg h1, if_neg h1]
            unfold sh_dn
            by_cases h2 : pl ≤ i ∧ i < n - 1
            · rw [if_pos h2, if_pos h2]
              exact key _ (by omega)
            · rw [if_neg h2, if_neg h2]
              exact key _ hi
        refine g_iret X B ⟨rfl, ⟨h10, by omega, ⟨_, mCut g pl n (g pl), h2, fun i hi => ?_, fun i hi => ?_, fun i j hi hj h => ?_, hfin⟩, hv⟩, (z11.trans (z7.trans (z3.trans zz))), fun p hp => ?_⟩ hL d_KeyMap_takeOut_99 (by omega) (by omega)
        · unfold mCut va_up
          by_cases h1 : i = n - 1
          · rw [if_pos h1, if_pos h1]
          · rw [if_neg h1, if_neg h1]
            unfold sh_dn
            split
            · exact hfg _ (by omega)
            · exact hfg _ hi
        · unfold mCut va_up
          by_cases h1 : i = n - 1
          · rw [if_pos h1]
            exact hg pl (by omega)
          · rw [if_neg h1]
            unfold sh_dn
            split
            · exact hg _ (by omega)
            · exact hg _ hi
        · unfold mCut va_up sh_dn at h
          by_cases h1 : i = n - 1
          · by_cases h2 : j = n - 1
            · omega
            · rw [if_pos h1, if_neg h2] at h
              split at h
              · have := hgi _ _ (by omega) (by omega) h
                omega
              · have := hgi _ _ (by omega) (by omega) h
                omega
          · by_cases h2 : j = n - 1
            · rw [if_neg h1, if_pos h2] at h
              split at h
              · have := hgi _ _ (by omega) (by omega) h
                omega
              · have := hgi _ _ (by omega) (by omega) h
                omega
            · rw [if_neg h1, if_neg h2] at h
              split at h
              · split at h
                · have := hgi _ _ (by omega) (by omega) h
                  omega
                · have := hgi _ _ (by omega) (by omega) h
                  omega
              · split at h
                · have := hgi _ _ (by omega) (by omega) h
                  omega
                · exact hgi _ _ (by omega) (by omega) h
        · exact (hch p (by omega) (by omega)).trans (fr p (by omega) (by omega))
      · obtain ⟨j9, hj9, hgj9⟩ := hg (i + 1) (by omega)
        have hkk := (hks (i + 1) (by omega)).1.kept (fr (g (i + 1)) (by omega) (by omega))
        refine lv_aload_n X.1.1 X.1.2.1 d_KeyMap_takeOut_28 rfl (gl_at hl rfl) ?_
        refine g_get X kc_KeyMap ho 0 (by decide) lk_KeyMap_11 rfl d_KeyMap_takeOut_29 ?_
        refine lv_iload X.1.1 X.1.2.1 d_KeyMap_takeOut_32 (gl_at hl rfl) ?_
        refine lv_aload_n X.1.1 X.1.2.1 d_KeyMap_takeOut_34 rfl (gl_at hl rfl) ?_
        refine g_get X kc_KeyMap ho 0 (by decide) lk_KeyMap_11 rfl d_KeyMap_takeOut_35 ?_
        refine lv_iload X.1.1 X.1.2.1 d_KeyMap_takeOut_38 (gl_at hl rfl) ?_
        refine lv_iconst (v := nI 1) X.1.1 X.1.2.1 d_KeyMap_takeOut_40 (by decide) ?_
        refine lv_iadd X.1.1 X.1.2.1 d_KeyMap_takeOut_41 ?_
        refine g_top (nI (i + 1)) (nI_add _ _) ?_
        refine g_aald X 3 hf rfl (i + 1) (by omega) (by decide) (v := .ref (g (i + 1))) (by rw [sh_dn_at f, hfg _ (by omega)]; rfl) d_KeyMap_takeOut_42 ?_
        refine g_aast (A := (fun p => mb ≤ p ∧ p ≤ mb + 130)) X 3 kc_Key hf rfl hkk i (by omega) (by decide) d_KeyMap_takeOut_43 (show _ ∧ _ by omega) hL (fun H13 locs h14 z15 oq16 hL => ?_)
        replace ho := ho.kept (oq16 _ (by omega))
        replace hv := hv.kept (oq16 _ (by omega))
        replace hkk := hkk.kept (oq16 _ (by omega))
        refine lv_aload_n X.1.1 X.1.2.1 d_KeyMap_takeOut_44 rfl (gl_at hl rfl) ?_
        refine g_get X kc_KeyMap ho 1 (by decide) lk_KeyMap_18 rfl d_KeyMap_takeOut_45 ?_
        refine lv_iload X.1.1 X.1.2.1 d_KeyMap_takeOut_48 (gl_at hl rfl) ?_
        refine lv_aload_n X.1.1 X.1.2.1 d_KeyMap_takeOut_50 rfl (gl_at hl rfl) ?_
        refine g_get X kc_KeyMap ho 1 (by decide) lk_KeyMap_18 rfl d_KeyMap_takeOut_51 ?_
        refine lv_iload X.1.1 X.1.2.1 d_KeyMap_takeOut_54 (gl_at hl rfl) ?_
        refine lv_iconst (v := nI 1) X.1.1 X.1.2.1 d_KeyMap_takeOut_56 (by decide) ?_
        refine lv_iadd X.1.1 X.1.2.1 d_KeyMap_takeOut_57 ?_
        refine g_top (nI (i + 1)) (nI_add _ _) ?_
        refine g_iald X 0 hv rfl (i + 1) (by omega) (by decide) d_KeyMap_takeOut_58 ?_
        refine g_iast (A := (fun p => mb ≤ p ∧ p ≤ mb + 130)) X 0 hv rfl i (by omega) (by decide) d_KeyMap_takeOut_59 (show _ ∧ _ by omega) hL (fun H17 locs h18 z19 oq20 hL => ?_)
        replace ho := ho.kept (oq20 _ (by omega))
        replace h14 := h14.kept (oq20 _ (by omega))
        replace hkk := hkk.kept (oq20 _ (by omega))
        refine g_iinc X.1.1 X.1.2.1 (nI (i + 1)) hl 4 d_KeyMap_takeOut_60 rfl (nI_1 _) rfl (fun ls hl => ?_)
        refine lv_goto X.1.1 X.1.2.1 d_KeyMap_takeOut_63 rfl ?_
        exact ih17 (i + 1) H17 locs ls (by omega) (by omega) (by omega) ho (by rw [← sh_dn_s f (by omega), hfg (i + 1) (by omega)]; exact h14) (by rw [← sh_dn_s vs (by omega), ← sh_dn_at vs (p := pl), ← sh_upd]; exact h18) (fun p h1 h2 => ((oq20 p (by assumption)).trans ((oq16 p (by assumption)).trans (fr p h1 h2)))) (z19.trans (z15.trans zz)) hL hl
  exact loop17 _ pl H [] ls (Nat.lt_succ_self _) (Nat.le_refl _) (by omega) ho (by rw [sh_dn_0]; exact hf) (by rw [sh_dn_0]; exact hv) (fun _ _ _ => rfl) rfl (fun _ h => by cases h) hl

set_option maxHeartbeats 4000000 in
set_option maxRecDepth 100000 in
/-- KeyMap() -/
theorem c_KeyMap_init (l : Launch) (D : va_G) (q : Nat → ClassId) (H : Heap) (mb : Nat) (hz : H.size = mb + 1) (ho : va_at D CL (mb, .inr (1, [.null, .null, .int 0, .int 0])) H) : gC l y_KeyMap_init (Cond.code y_KeyMap_init b_KeyMap_init 2 none :: gWS) (gR 2 32 130 768) D CL (gY q) (fun U => va_AO R_Key U) [.ref mb] H (fun v H1 => v = none ∧ mA D q H1 mb 0 (fun _ => []) (fun _ => 0) 0 ∧ H1.size = mb + 131 ∧ ∀ p : Nat, p < mb → H1[p]? = H[p]?) 130 768 (fun p => mb ≤ p) := by
  refine gC.ofW R_KeyMap "<init>" (by decide) rfl rfl ?_
  intro p e s m below meth c hadm X hE hH B hne
  refine g_entry [some (.ref mb), none] rfl rfl (Nat.le_of_ble_eq_true rfl) (fun ls hl => ?_)
  refine lv_aload_n X.1.1 X.1.2.1 d_KeyMap_init_0 rfl (gl_at hl rfl) ?_
  refine W.objInit X.1.1 X.1.2.1 X.1.2.2.2.1 (X.1.2.2.2.2 _ mo_KeyMap_3.1) (X.1.2.2.2.2 _ mo_KeyMap_3.2.1) (X.1.2.2.2.2 _ mo_KeyMap_3.2.2) rfl (by rw [X.1.2.2.1]; exact hl.1) rfl d_KeyMap_init_1 (Nat.le_of_ble_eq_true rfl) (Nat.le_of_ble_eq_true rfl) ?_
  refine W.eq (g2 := F0 m 4 ls []) rfl ?_
  refine lv_aload_n X.1.1 X.1.2.1 d_KeyMap_init_4 rfl (gl_at hl rfl) ?_
  refine lv_bipush (v := nI 64) X.1.1 X.1.2.1 d_KeyMap_init_5 (by decide) ?_
  refine g_newq X 3 rfl lk_KeyMap_9 hE 64 (by decide) (show _ ≤ 130 by omega) (show _ ≤ 768 by omega) d_KeyMap_init_7 (fun H1 h2 z3 o4 => ?_)
  rw [hz] at h2 z3 o4 ⊢
  replace ho := ho.kept (o4 _ (by omega))
  refine g_putF (A := (fun p => mb ≤ p)) X B.2.2 kc_KeyMap ho 0 (by decide) lk_KeyMap_11 rfl rfl rfl rfl (Nat.le_of_ble_eq_true rfl) d_KeyMap_init_10 (show mb ≤ _ by omega) (fun _ h => by cases h) (fun H5 locs h6 z7 oq8 hL => ?_)
  replace h2 := h2.kept (oq8 _ (by omega))
  refine lv_iconst (v := nI 0) X.1.1 X.1.2.1 d_KeyMap_init_13 (by decide) ?_
  refine g_istn X.1.1 X.1.2.1 hl 1 d_KeyMap_init_14 rfl (Nat.le_of_ble_eq_true rfl) rfl (fun ls hl => ?_)
  have loop15 : ∀ (fu : Nat) (i : Nat) (f : Nat → Option Nat) (Hn : Heap) (locs : List Loc) (ls : Array Slot), 64 - i < fu → (i ≤ 64) → (∀ j, j < i → f j = some (mb + 2 + 2 * j)) → (va_at D CL (mb, .inr (1, [.ref (mb + 1), .null, .int 0, .int 0])) Hn) → (va_at D CL (mb + 1, .inl (q 3, 64, .inr (.inr (.inr (.inr f))))) Hn) → (∀ j, j < i → kA D q Hn (mb + 2 + 2 * j) []) → (Hn.size = mb + 2 + 2 * i) → (∀ p : Nat, p < mb → Hn[p]? = H[p]?) → (∀ x ∈ locs, (fun p => mb ≤ p) x.base) → gl ls [some (.ref mb), some (.int (nI i))] → W p l e (gR 2 32 130 768) s m ([.ref mb] : List Value).toArray below meth c Hn locs (1 + 2 * i) (64 + 10 * i) (gQ below ([.ref mb] : List Value).toArray s (fun v H1 => v = none ∧ mA D q H1 mb 0 (fun _ => []) (fun _ => 0) 0 ∧ H1.size = mb + 131 ∧ ∀ p : Nat, p < mb → H1[p]? = H[p]?) 130 768 (fun p => mb ≤ p)) (F0 m 15 ls []) := by
    intro fu
    induction fu with
    | zero => intro i f Hn locs ls hmu; omega
    | succ fu ih15 =>
      intro i f Hn locs ls hmu15 hi15_0 hi15_1 ho hf hk hz fr hL hl
      refine lv_iload_n X.1.1 X.1.2.1 d_KeyMap_init_15 rfl (gl_at hl rfl) ?_
      refine lv_bipush (v := nI 64) X.1.1 X.1.2.1 d_KeyMap_init_16 (by decide) ?_
      refine gn_ge X.1.1 X.1.2.1 i 64 (by omega) (by omega) d_KeyMap_init_18 rfl (fun hc18 => ?_) (fun hc18 => ?_)
      · have e9 : 64 = i := by omega
        subst e9
        have hff := hi15_1
        have hz0 : Hn.size = mb + 130 := by omega
        refine lv_aload_n X.1.1 X.1.2.1 d_KeyMap_init_40 rfl (gl_at hl rfl) ?_
        refine lv_bipush (v := nI 64) X.1.1 X.1.2.1 d_KeyMap_init_41 (by decide) ?_
        refine g_newi X 0 rfl ka_int 64 (by decide) (show _ ≤ 130 by omega) (show _ ≤ 768 by omega) d_KeyMap_init_43 (fun H9 h10 z11 o12 => ?_)
        rw [hz0] at h10 z11 o12 ⊢
        replace ho := ho.kept (o12 _ (by omega))
        replace hf := hf.kept (o12 _ (by omega))
        refine g_putF (A := (fun p => mb ≤ p)) X B.2.2 kc_KeyMap ho 1 (by decide) lk_KeyMap_18 rfl rfl rfl rfl (Nat.le_of_ble_eq_true rfl) d_KeyMap_init_45 (show mb ≤ _ by omega) hL (fun H13 locs h14 z15 oq16 hL => ?_)
        replace hf := hf.kept (oq16 _ (by omega))
        replace h10 := h10.kept (oq16 _ (by omega))
        refine g_vret X B ⟨rfl, ⟨h14, by omega, ⟨_, fun j => mb + 2 + 2 * j, hf, hff, fun i hi => ⟨i, hi, rfl⟩, fun i j hi hj h => by (have h9 : mb + 2 + 2 * i = mb + 2 + 2 * j := h); omega, fun i hi => ?_⟩, h10⟩, by omega, fun p hp => ?_⟩ hL d_KeyMap_init_48 (by omega) (by omega)
        · exact ((hk i hi).kept (o12 _ (by omega)) (o12 _ (by omega))).kept (oq16 _ (by omega)) (oq16 _ (by omega))
        · exact (oq16 p (by omega)).trans ((o12 p (by omega)).trans (fr p hp))
      · refine lv_aload_n X.1.1 X.1.2.1 d_KeyMap_init_21 rfl (gl_at hl rfl) ?_
        refine g_get X kc_KeyMap ho 0 (by decide) lk_KeyMap_11 rfl d_KeyMap_init_22 ?_
        refine lv_iload_n X.1.1 X.1.2.1 d_KeyMap_init_25 rfl (gl_at hl rfl) ?_
        refine g_new X kc_Key lk_KeyMap_9 ki_Key.1 ki_Key.2 (fs := [.null, .int 0]) kf_Key (show _ ≤ 130 by omega) (show _ ≤ 768 by omega) d_KeyMap_init_26 (fun H17 h18 z19 o20 => ?_)
        rw [hz] at h18 z19 o20 ⊢
        replace ho := ho.kept (o20 _ (by omega))
        replace hf := hf.kept (o20 _ (by omega))
        refine lv_dup X.1.1 X.1.2.1 d_KeyMap_init_29 rfl ?_
        refine g_ci (A := (fun p => mb ≤ p)) X gWS_good mw_KeyMap_17 (c_Key_init l D q H17 (mb + 2 + 2 * i) (by omega) h18) (fun _ _ _ => trivial) gBlind.tt rfl rfl hl.1 (Nat.le_of_ble_eq_true rfl) rfl rfl ⟨by decide, by decide⟩ ⟨show _ ≤ 130 by omega, show _ ≤ 768 by omega⟩ d_KeyMap_init_30 (fun p (h : _ ≤ p) => show mb ≤ p by omega) hL (fun v21 H22 locs hp23 hL => ?_)
        obtain ⟨rfl, hkk, hzk, frk⟩ := hp23
        replace ho := va_at.kept ho (frk _ (by omega))
        replace hf := va_at.kept hf (frk _ (by omega))
        have hkk1 := hkk.1
        refine g_aast (A := (fun p => mb ≤ p)) X 3 kc_Key hf rfl hkk1 i (by omega) (by decide) d_KeyMap_init_33 (show mb ≤ _ by omega) hL (fun H24 locs h25 z26 oq27 hL => ?_)
        replace ho := ho.kept (oq27 _ (by omega))
        replace hkk1 := hkk1.kept (oq27 _ (by omega))
        refine g_iinc X.1.1 X.1.2.1 (nI (i + 1)) hl 1 d_KeyMap_init_34 rfl (nI_1 _) rfl (fun ls hl => ?_)
        refine lv_goto X.1.1 X.1.2.1 d_KeyMap_init_37 rfl ?_
        refine W.widen (k := 1 + 2 * (i + 1)) (n := 64 + 10 * (i + 1)) (by omega) (by omega) ?_
        exact ih15 (i + 1) (va_up f i (some (mb + 2 + 2 * i))) H24 locs ls (by omega) (by omega) (fun j hj => by
          unfold va_up
          by_cases h9 : j = i
          · rw [if_pos h9, h9]
          · rw [if_neg h9]
            exact hi15_1 j (by omega)) ho h25 (fun j hj => by
          by_cases h9 : j = i
          · subst h9
            exact hkk.kept (oq27 _ (by omega)) (oq27 _ (by omega))
          · exact (((hk j (by omega)).kept (o20 _ (by omega)) (o20 _ (by omega))).kept (frk _ (by omega)) (frk _ (by omega))).kept (oq27 _ (by omega)) (oq27 _ (by omega))) (by omega) (fun p hp => (oq27 p (by omega)).trans ((frk p (by omega)).trans ((o20 p (by omega)).trans (fr p hp)))) hL hl
  refine W.widen (k := 1 + 2 * 0) (n := 64 + 10 * 0) (by omega) (by omega) ?_
  exact loop15 _ 0 (fun _ => none) H5 locs ls (Nat.lt_succ_self _) (by omega) (fun j hj => absurd hj (Nat.not_lt_zero j)) h6 h2 (fun j hj => absurd hj (Nat.not_lt_zero j)) (by omega) (fun p hp => (oq8 p (by omega)).trans (o4 p (by omega))) hL hl
end
section
/-! views: rows and pictures -/
theorem gz_if (c : Prop) [Decidable c] : narrow .boolean (.int (nI (if c then 1 else 0))) = .int (nI (if c then 1 else 0)) := by
  by_cases h : c
  · rw [if_pos h]
    decide
  · rw [if_neg h]
    decide
theorem gz_t {c : Prop} [Decidable c] (h : ¬ nI (if c then 1 else 0) = 0) : c := by
  by_cases hc : c
  · exact hc
  · rw [if_neg hc] at h
    exact absurd nI_0 h
theorem gz_f {c : Prop} [Decidable c] (h : nI (if c then 1 else 0) = 0) : ¬ c := by
  intro hc
  rw [if_pos hc] at h
  exact absurd h (by decide)
section GV
variable {p : Program} {l : Launch} {e : Env} {R : Room} {s : State} {m : MethodId} {args : Array Value} {below : List Frame} {meth : Method} {c : Code} {H : Heap} {locs : List Loc} {cells slots : Nat} {Q : State → Prop}
variable {cc : ByteArray} {pc : Nat} {ls : Array Slot} {rest : List Value} {L : List (Option Value)}
theorem g_astnN (hexec : p.tables.exec = Jvm.exec) (hb : c.code = cc) {k : Fin 4} (h : gl ls L) (i : Nat) (hdg : decode cc pc = .ok (.astore_n k, 1)) (hi : (k : Nat) = i) (hn : i < L.length) (ho : gl_ok L i = true)
    (kk : ∀ ls' : Array Slot, gl ls' (L.set i (some .null)) → W p l e R s m args below meth c H locs cells slots Q (F0 m (pc + 1) ls' rest)) : W p l e R s m args below meth c H locs cells slots Q (F0 m pc ls (.null :: rest)) :=
  lv_astore_nN hexec hb hdg hi h hn rfl (fun ls' h' => kk ls' (gl_of ho hn h'))
end GV
/-- whether a text meets a view's own condition -/
def v_ok (s : Nat) (b xs : List Nat) : Bool := match s with
  | 0 => decide (t_lcp xs b = b.length)
  | 1 => decide (t_ord xs b < 0)
  | 2 => decide (0 ≤ t_ord xs b)
  | _ => true
/-- whether a text meets the conditions of a view and of those that it is made of -/
def v_adm (org : Nat → Option Nat) (srt : Nat → Nat) (bt : Nat → List Nat) (xs : List Nat) : Nat → Nat → Bool
  | 0, _ => true
  | f + 1, k => v_ok (srt k) (bt k) xs && (match org k with
    | none => true
    | some j => v_adm org srt bt xs f j)
theorem v_adm_fuel {org : Nat → Option Nat} {srt : Nat → Nat} {bt : Nat → List Nat} {xs : List Nat} {v : Nat} (ho : ∀ k, k ≤ v → ∀ j, org k = some j → j < k) : ∀ (f f' k : Nat), k ≤ v → k < f → k < f' → v_adm org srt bt xs f k = v_adm org srt bt xs f' k
  | 0, _, k, _, h, _ => by omega
  | _, 0, k, _, _, h => by omega
  | f + 1, f' + 1, k, hk, h1, h2 => by
    unfold v_adm
    cases hj : org k with
    | none => rfl
    | some j =>
      have hlt := ho k hk j hj
      show (_ && v_adm org srt bt xs f j) = (_ && v_adm org srt bt xs f' j)
      rw [v_adm_fuel ho f f' j (by omega) (by omega) (by omega)]
abbrev v_in (org : Nat → Option Nat) (srt : Nat → Nat) (bt : Nat → List Nat) (v : Nat) (xs : List Nat) : Bool := v_adm org srt bt xs (v + 1) v
/-- the cells of the views up to v: view k at ad k, its bound at bk k -/
def vV (D : va_G) (q : Nat → ClassId) (H : Heap) (v : Nat) (ad : Nat → Nat) (org : Nat → Option Nat) (srt : Nat → Nat) (bk : Nat → Nat) (bt : Nat → List Nat) : Prop := ∀ k, k ≤ v →
  (∃ mb tn wk f0 t0 : Nat, va_at D CL (ad k, .inr (2, [.ref mb, va_rf ((org k).map ad), .int (nI (srt k)), .ref (bk k), .int (nI tn), .ref wk, .int (nI f0), .int (nI t0)])) H) ∧ kA D q H (bk k) (bt k) ∧ (∀ j, org k = some j → j < k) ∧ srt k ≤ 4
def vX (v : Nat) (ad bk : Nat → Nat) : Prop := ∀ k, k ≤ v → (ad k = ad v → k = v) ∧ bk k ≠ ad v ∧ bk k + 1 ≠ ad v
theorem vV.put {D : va_G} {q : Nat → ClassId} {H H1 : Heap} {v : Nat} {ad : Nat → Nat} {org : Nat → Option Nat} {srt bk : Nat → Nat} {bt : Nat → List Nat} {mb tn wk f0 t0 : Nat} (h : vV D q H v ad org srt bk bt) (hx : vX v ad bk)
    (h1 : va_at D CL (ad v, .inr (2, [.ref mb, va_rf ((org v).map ad), .int (nI (srt v)), .ref (bk v), .int (nI tn), .ref wk, .int (nI f0), .int (nI t0)])) H1) (oq : ∀ p : Nat, p ≠ ad v → H1[p]? = H[p]?) : vV D q H1 v ad org srt bk bt := by
  intro k hk
  obtain ⟨⟨mb', tn', wk', f', t', hc⟩, hb, ho, hs⟩ := h k hk
  obtain ⟨x1, x2, x3⟩ := hx k hk
  refine ⟨?_, hb.kept (oq _ x2) (oq _ x3), ho, hs⟩
  by_cases hkv : k = v
  · subst hkv
    exact ⟨mb, tn, wk, f0, t0, h1⟩
  · exact ⟨mb', tn', wk', f', t', hc.kept (oq _ (fun h9 => hkv (x1 h9)))⟩
theorem vV.kept {D : va_G} {q : Nat → ClassId} {H H1 : Heap} {v : Nat} {ad : Nat → Nat} {org : Nat → Option Nat} {srt bk : Nat → Nat} {bt : Nat → List Nat} (h : vV D q H v ad org srt bk bt) (hq : ∀ k, k ≤ v → H1[ad k]? = H[ad k]? ∧ H1[bk k]? = H[bk k]? ∧ H1[bk k + 1]? = H[bk k + 1]?) : vV D q H1 v ad org srt bk bt := by
  intro k hk
  obtain ⟨⟨mb', tn', wk', f', t', hc⟩, hb, ho, hs⟩ := h k hk
  obtain ⟨x1, x2, x3⟩ := hq k hk
  exact ⟨⟨mb', tn', wk', f', t', hc.kept x1⟩, hb.kept x2 x3, ho, hs⟩
end
section
/-! the classes Walker and View: printed by wip/specs/view.py -/
set_option maxHeartbeats 4000000 in
set_option maxRecDepth 100000 in
theorem c_Walker_begin (l : Launch) (D : va_G) (q : Nat → ClassId) (H : Heap) (w : Nat) (bg bh ht ck : Nat) (hw : va_at D CL (w, .inr (3, [.int (nI bg), .int (nI bh), .int (nI ht), .int (nI ck)])) H) (cg : Nat) : gC l y_Walker_begin (Cond.code y_Walker_begin b_Walker_begin 2 none :: gWS) (gR 0 0 0 0) D CL (gY q) (fun _ => True) [.ref w, .int (nI cg)] H (fun v H1 => v = none ∧ va_at D CL (w, .inr (3, [.int (nI 1), .int (nI 0), .int (nI 0), .int (nI cg)])) H1 ∧ H1.size = H.size ∧ ∀ p : Nat, p ≠ w → H1[p]? = H[p]?) 0 0 (fun p => p = w) := by
  refine gC.ofW R_Walker "begin" (by decide) rfl rfl ?_
  intro p e s m below meth c hadm X hE hH B hne
  refine g_entry [some (.ref w), some (.int (nI cg))] rfl rfl (Nat.le_of_ble_eq_true rfl) (fun ls hl => ?_)
  refine lv_aload_n X.1.1 X.1.2.1 d_Walker_begin_0 rfl (gl_at hl rfl) ?_
  refine lv_iconst (v := nI 1) X.1.1 X.1.2.1 d_Walker_begin_1 (by decide) ?_
  refine g_put (A := (fun p => p = w)) X kc_Walker hw 0 (by decide) lk_Walker_7 rfl (by first | rfl | decide | exact gz_n (by assumption)) rfl (Nat.le_of_ble_eq_true rfl) d_Walker_begin_2 rfl (fun _ h => by cases h) (fun H1 locs h2 z3 oq4 hL => ?_)
  refine lv_aload_n X.1.1 X.1.2.1 d_Walker_begin_5 rfl (gl_at hl rfl) ?_
  refine lv_iconst (v := nI 0) X.1.1 X.1.2.1 d_Walker_begin_6 (by decide) ?_
  refine g_put (A := (fun p => p = w)) X kc_Walker h2 1 (by decide) lk_Walker_13 rfl rfl rfl (Nat.le_of_ble_eq_true rfl) d_Walker_begin_7 rfl hL (fun H5 locs h6 z7 oq8 hL => ?_)
  refine lv_aload_n X.1.1 X.1.2.1 d_Walker_begin_10 rfl (gl_at hl rfl) ?_
  refine lv_iconst (v := nI 0) X.1.1 X.1.2.1 d_Walker_begin_11 (by decide) ?_
  refine g_put (A := (fun p => p = w)) X kc_Walker h6 2 (by decide) lk_Walker_17 rfl (by first | rfl | decide | exact gz_n (by assumption)) rfl (Nat.le_of_ble_eq_true rfl) d_Walker_begin_12 rfl hL (fun H9 locs h10 z11 oq12 hL => ?_)
  refine lv_aload_n X.1.1 X.1.2.1 d_Walker_begin_15 rfl (gl_at hl rfl) ?_
  refine lv_iload_n X.1.1 X.1.2.1 d_Walker_begin_16 rfl (gl_at hl rfl) ?_
  refine g_put (A := (fun p => p = w)) X kc_Walker h10 3 (by decide) lk_Walker_20 rfl rfl rfl (Nat.le_of_ble_eq_true rfl) d_Walker_begin_17 rfl hL (fun H13 locs h14 z15 oq16 hL => ?_)
  exact g_vret X B ⟨rfl, h14, (z15.trans (z11.trans (z7.trans z3))), fun p hp => ((oq16 p hp).trans ((oq12 p hp).trans ((oq8 p hp).trans (oq4 p hp))))⟩ hL d_Walker_begin_20 (by omega) (by omega)

set_option maxHeartbeats 4000000 in
set_option maxRecDepth 100000 in
theorem c_Walker_step (l : Launch) (D : va_G) (q : Nat → ClassId) (H : Heap) (w : Nat) (bg bh ht ck : Nat) (hw : va_at D CL (w, .inr (3, [.int (nI bg), .int (nI bh), .int (nI ht), .int (nI ck)])) H) : gC l y_Walker_step (Cond.code y_Walker_step b_Walker_step 1 none :: gWS) (gR 0 0 0 0) D CL (gY q) (fun _ => True) [.ref w] H (fun v H1 => v = none ∧ va_at D CL (w, .inr (3, [.int (nI bg), .int (nI (bh + 1)), .int (nI 1), .int (nI ck)])) H1 ∧ H1.size = H.size ∧ ∀ p : Nat, p ≠ w → H1[p]? = H[p]?) 0 0 (fun p => p = w) := by
  refine gC.ofW R_Walker "step" (by decide) rfl rfl ?_
  intro p e s m below meth c hadm X hE hH B hne
  refine g_entry [some (.ref w)] rfl rfl (Nat.le_of_ble_eq_true rfl) (fun ls hl => ?_)
  refine lv_aload_n X.1.1 X.1.2.1 d_Walker_step_0 rfl (gl_at hl rfl) ?_
  refine lv_dup X.1.1 X.1.2.1 d_Walker_step_1 rfl ?_
  refine g_get X kc_Walker hw 1 (by decide) lk_Walker_13 rfl d_Walker_step_2 ?_
  refine lv_iconst (v := nI 1) X.1.1 X.1.2.1 d_Walker_step_5 (by decide) ?_
  refine lv_iadd X.1.1 X.1.2.1 d_Walker_step_6 ?_
  refine g_top (nI (bh + 1)) (nI_add _ _) ?_
  refine g_put (A := (fun p => p = w)) X kc_Walker hw 1 (by decide) lk_Walker_13 rfl rfl rfl (Nat.le_of_ble_eq_true rfl) d_Walker_step_7 rfl (fun _ h => by cases h) (fun H1 locs h2 z3 oq4 hL => ?_)
  refine lv_aload_n X.1.1 X.1.2.1 d_Walker_step_10 rfl (gl_at hl rfl) ?_
  refine lv_iconst (v := nI 1) X.1.1 X.1.2.1 d_Walker_step_11 (by decide) ?_
  refine g_put (A := (fun p => p = w)) X kc_Walker h2 2 (by decide) lk_Walker_17 rfl (by first | rfl | decide | exact gz_n (by assumption)) rfl (Nat.le_of_ble_eq_true rfl) d_Walker_step_12 rfl hL (fun H5 locs h6 z7 oq8 hL => ?_)
  exact g_vret X B ⟨rfl, h6, (z7.trans z3), fun p hp => ((oq8 p hp).trans (oq4 p hp))⟩ hL d_Walker_step_15 (by omega) (by omega)

set_option maxHeartbeats 4000000 in
set_option maxRecDepth 100000 in
theorem c_Walker_stepBack (l : Launch) (D : va_G) (q : Nat → ClassId) (H : Heap) (w : Nat) (bg bh ht ck : Nat) (hw : va_at D CL (w, .inr (3, [.int (nI bg), .int (nI bh), .int (nI ht), .int (nI ck)])) H) (cg : Nat) (hbh : 0 < bh) : gC l y_Walker_stepBack (Cond.code y_Walker_stepBack b_Walker_stepBack 2 none :: gWS) (gR 0 0 0 0) D CL (gY q) (fun _ => True) [.ref w, .int (nI cg)] H (fun v H1 => v = none ∧ va_at D CL (w, .inr (3, [.int (nI bg), .int (nI (bh - 1)), .int (nI 0), .int (nI cg)])) H1 ∧ H1.size = H.size ∧ ∀ p : Nat, p ≠ w → H1[p]? = H[p]?) 0 0 (fun p => p = w) := by
  refine gC.ofW R_Walker "stepBack" (by decide) rfl rfl ?_
  intro p e s m below meth c hadm X hE hH B hne
  refine g_entry [some (.ref w), some (.int (nI cg))] rfl rfl (Nat.le_of_ble_eq_true rfl) (fun ls hl => ?_)
  refine lv_aload_n X.1.1 X.1.2.1 d_Walker_stepBack_0 rfl (gl_at hl rfl) ?_
  refine lv_dup X.1.1 X.1.2.1 d_Walker_stepBack_1 rfl ?_
  refine g_get X kc_Walker hw 1 (by decide) lk_Walker_13 rfl d_Walker_stepBack_2 ?_
  refine lv_iconst (v := nI 1) X.1.1 X.1.2.1 d_Walker_stepBack_5 (by decide) ?_
  refine lv_isub X.1.1 X.1.2.1 d_Walker_stepBack_6 ?_
  refine g_top (nI (bh - 1)) (pk_sub (by omega)) ?_
  refine g_put (A := (fun p => p = w)) X kc_Walker hw 1 (by decide) lk_Walker_13 rfl rfl rfl (Nat.le_of_ble_eq_true rfl) d_Walker_stepBack_7 rfl (fun _ h => by cases h) (fun H1 locs h2 z3 oq4 hL => ?_)
  refine lv_aload_n X.1.1 X.1.2.1 d_Walker_stepBack_10 rfl (gl_at hl rfl) ?_
  refine lv_iconst (v := nI 0) X.1.1 X.1.2.1 d_Walker_stepBack_11 (by decide) ?_
  refine g_put (A := (fun p => p = w)) X kc_Walker h2 2 (by decide) lk_Walker_17 rfl (by first | rfl | decide | exact gz_n (by assumption)) rfl (Nat.le_of_ble_eq_true rfl) d_Walker_stepBack_12 rfl hL (fun H5 locs h6 z7 oq8 hL => ?_)
  refine lv_aload_n X.1.1 X.1.2.1 d_Walker_stepBack_15 rfl (gl_at hl rfl) ?_
  refine lv_iload_n X.1.1 X.1.2.1 d_Walker_stepBack_16 rfl (gl_at hl rfl) ?_
  refine g_put (A := (fun p => p = w)) X kc_Walker h6 3 (by decide) lk_Walker_20 rfl rfl rfl (Nat.le_of_ble_eq_true rfl) d_Walker_stepBack_17 rfl hL (fun H9 locs h10 z11 oq12 hL => ?_)
  exact g_vret X B ⟨rfl, h10, (z11.trans (z7.trans z3)), fun p hp => ((oq12 p hp).trans ((oq8 p hp).trans (oq4 p hp)))⟩ hL d_Walker_stepBack_20 (by omega) (by omega)

set_option maxHeartbeats 4000000 in
set_option maxRecDepth 100000 in
theorem c_Walker_mayGoOn (l : Launch) (D : va_G) (q : Nat → ClassId) (H : Heap) (w : Nat) (bg bh ht ck : Nat) (hw : va_at D CL (w, .inr (3, [.int (nI bg), .int (nI bh), .int (nI ht), .int (nI ck)])) H) (cg : Nat) (hc : cg < 2 ^ 31) (hck : ck < 2 ^ 31) (hbg : bg < 2 ^ 31) : gC l y_Walker_mayGoOn (Cond.code y_Walker_mayGoOn b_Walker_mayGoOn 2 (some .boolean) :: gWS) (gR 0 0 0 0) D CL (gY q) (fun _ => True) [.ref w, .int (nI cg)] H (fun v H1 => v = some (.int (nI (if bg ≠ 0 ∧ cg = ck then 1 else 0))) ∧ H1 = H) 0 0 (fun _ => False) := by
  refine gC.ofW R_Walker "mayGoOn" (by decide) rfl rfl ?_
  intro p e s m below meth c hadm X hE hH B hne
  refine g_entry [some (.ref w), some (.int (nI cg))] rfl rfl (Nat.le_of_ble_eq_true rfl) (fun ls hl => ?_)
  refine lv_aload_n X.1.1 X.1.2.1 d_Walker_mayGoOn_0 rfl (gl_at hl rfl) ?_
  refine g_get X kc_Walker hw 0 (by decide) lk_Walker_7 rfl d_Walker_mayGoOn_1 ?_
  refine gn_eq0 X.1.1 X.1.2.1 bg (by omega) d_Walker_mayGoOn_4 rfl (fun hc4 => ?_) (fun hc4 => ?_)
  · refine lv_iconst (v := nI 0) X.1.1 X.1.2.1 d_Walker_mayGoOn_19 (by decide) ?_
    exact g_zret X B (by decide) ⟨by first | rw [if_pos ⟨by assumption, by assumption⟩] | rw [if_neg (fun h => by have h1 := h.1; have h2 := h.2; first | exact h1 (by assumption) | exact absurd h2 (by assumption))], rfl⟩ (fun _ h => by cases h) d_Walker_mayGoOn_20 (by omega) (by omega)
  · refine lv_iload_n X.1.1 X.1.2.1 d_Walker_mayGoOn_7 rfl (gl_at hl rfl) ?_
    refine lv_aload_n X.1.1 X.1.2.1 d_Walker_mayGoOn_8 rfl (gl_at hl rfl) ?_
    refine g_get X kc_Walker hw 3 (by decide) lk_Walker_20 rfl d_Walker_mayGoOn_9 ?_
    refine gn_ne X.1.1 X.1.2.1 cg ck (by omega) (by omega) d_Walker_mayGoOn_12 rfl (fun hc12 => ?_) (fun hc12 => ?_)
    · refine lv_iconst (v := nI 0) X.1.1 X.1.2.1 d_Walker_mayGoOn_19 (by decide) ?_
      exact g_zret X B (by decide) ⟨by first | rw [if_pos ⟨by assumption, by assumption⟩] | rw [if_neg (fun h => by have h1 := h.1; have h2 := h.2; first | exact h1 (by assumption) | exact absurd h2 (by assumption))], rfl⟩ (fun _ h => by cases h) d_Walker_mayGoOn_20 (by omega) (by omega)
    · refine lv_iconst (v := nI 1) X.1.1 X.1.2.1 d_Walker_mayGoOn_15 (by decide) ?_
      refine lv_goto X.1.1 X.1.2.1 d_Walker_mayGoOn_16 rfl ?_
      exact g_zret X B (by decide) ⟨by first | rw [if_pos ⟨by assumption, by assumption⟩] | rw [if_neg (fun h => by have h1 := h.1; have h2 := h.2; first | exact h1 (by assumption) | exact absurd h2 (by assumption))], rfl⟩ (fun _ h => by cases h) d_Walker_mayGoOn_20 (by omega) (by omega)

set_option maxHeartbeats 4000000 in
set_option maxRecDepth 100000 in
theorem c_Walker_init (l : Launch) (D : va_G) (q : Nat → ClassId) (H : Heap) (w : Nat) : gC l y_Walker_init (Cond.code y_Walker_init b_Walker_init 1 none :: gWS) (gR 1 12 0 0) D CL (gY q) (fun _ => True) [.ref w] H (fun v H1 => v = none ∧ H1 = H) 0 0 (fun _ => False) := by
  refine gC.ofW R_Walker "<init>" (by decide) rfl rfl ?_
  intro p e s m below meth c hadm X hE hH B hne
  refine g_entry [some (.ref w)] rfl rfl (Nat.le_of_ble_eq_true rfl) (fun ls hl => ?_)
  refine lv_aload_n X.1.1 X.1.2.1 d_Walker_init_0 rfl (gl_at hl rfl) ?_
  refine W.objInit X.1.1 X.1.2.1 X.1.2.2.2.1 (X.1.2.2.2.2 _ mo_Walker_1.1) (X.1.2.2.2.2 _ mo_Walker_1.2.1) (X.1.2.2.2.2 _ mo_Walker_1.2.2) rfl (by rw [X.1.2.2.1]; exact hl.1) rfl d_Walker_init_1 (Nat.le_of_ble_eq_true rfl) (Nat.le_of_ble_eq_true rfl) ?_
  refine W.eq (g2 := F0 m 4 ls []) rfl ?_
  exact g_vret X B ⟨rfl, rfl⟩ (fun _ h => by cases h) d_Walker_init_4 (by omega) (by omega)

theorem v_ok_all {s : Nat} {b xs : List Nat} (h : 3 ≤ s) : v_ok s b xs = true := by
  match s, h with
  | s + 3, _ => rfl

set_option maxHeartbeats 4000000 in
set_option maxRecDepth 100000 in
theorem c_View_bounds (l : Launch) (D : va_G) (q : Nat → ClassId) (H : Heap) (vb mb : Nat) (og : Option Nat) (srt bk tn wk f0 t0 : Nat) (hv : va_at D CL (vb, .inr (2, [.ref mb, va_rf og, .int (nI srt), .ref bk, .int (nI tn), .ref wk, .int (nI f0), .int (nI t0)])) H) (hsrt : srt ≤ 4) (bd : List Nat) (hbd : kA D q H bk bd) (b : Nat) (xs : List Nat) (hxs : kA D q H b xs) : gC l y_View_bounds (Cond.code y_View_bounds b_View_bounds 2 (some .boolean) :: gWS) (gR 2 44 0 0) D CL (gY q) (fun _ => True) [.ref vb, .ref b] H (fun v H1 => v = some (.int (nI (if v_ok srt bd xs = true then 1 else 0))) ∧ H1 = H) 0 0 (fun _ => False) := by
  refine gC.ofW R_View "bounds" (by decide) rfl rfl ?_
  intro p e s m below meth c hadm X hE hH B hne
  refine g_entry [some (.ref vb), some (.ref b)] rfl rfl (Nat.le_of_ble_eq_true rfl) (fun ls hl => ?_)
  refine lv_aload_n X.1.1 X.1.2.1 d_View_bounds_0 rfl (gl_at hl rfl) ?_
  refine g_get X kc_View hv 2 (by decide) lk_View_19 rfl d_View_bounds_1 ?_
  rcases (show srt = 0 ∨ srt = 1 ∨ srt = 2 ∨ 3 ≤ srt by omega) with hs4 | hs4 | hs4 | hs4
  · subst hs4
    refine lv_tableIn X.1.1 X.1.2.1 d_View_bounds_4 (x := nI 0) (by decide) (by decide) rfl rfl ?_
    refine lv_aload_n X.1.1 X.1.2.1 d_View_bounds_32 rfl (gl_at hl rfl) ?_
    refine lv_aload_n X.1.1 X.1.2.1 d_View_bounds_33 rfl (gl_at hl rfl) ?_
    refine g_get X kc_View hv 3 (by decide) lk_View_26 rfl d_View_bounds_34 ?_
    refine g_cv (A := (fun _ => False)) X gWS_good mw_View_49 kc_Key hxs.1 (c_Key_beginsWith l D q H b bk xs bd hxs hbd) (fun _ _ _ => trivial) gBlind.tt rfl rfl hl.1 (Nat.le_of_ble_eq_true rfl) rfl rfl ⟨by decide, by decide⟩ ⟨by decide, by decide⟩ d_View_bounds_37 (fun _ h => h.elim) (fun _ h => by cases h) (fun v1 H2 locs hp3 hL => ?_)
    obtain ⟨rfl, hHe⟩ := hp3
    rw [hHe]
    exact g_zret X B (gz_if _) ⟨by simp [v_ok], rfl⟩ hL d_View_bounds_40 (by omega) (by omega)
  · subst hs4
    refine lv_tableIn X.1.1 X.1.2.1 d_View_bounds_4 (x := nI 1) (by decide) (by decide) rfl rfl ?_
    refine lv_aload_n X.1.1 X.1.2.1 d_View_bounds_41 rfl (gl_at hl rfl) ?_
    refine lv_aload_n X.1.1 X.1.2.1 d_View_bounds_42 rfl (gl_at hl rfl) ?_
    refine g_get X kc_View hv 3 (by decide) lk_View_26 rfl d_View_bounds_43 ?_
    refine g_cv (A := (fun _ => False)) X gWS_good mw_View_52 kc_Key hxs.1 (c_Key_order l D q H b bk xs bd hxs hbd) (fun _ _ _ => trivial) gBlind.tt rfl rfl hl.1 (Nat.le_of_ble_eq_true rfl) rfl rfl ⟨by decide, by decide⟩ ⟨by decide, by decide⟩ d_View_bounds_46 (fun _ h => h.elim) (fun _ h => by cases h) (fun v4 H5 locs hp6 hL => ?_)
    obtain ⟨r, rfl, hr, hHe⟩ := hp6
    rw [hHe]
    refine lv_if_ge X.1.1 X.1.2.1 d_View_bounds_49 rfl (fun hc49 => ?_) (fun hc49 => ?_)
    · refine lv_iconst (v := nI 0) X.1.1 X.1.2.1 d_View_bounds_56 (by decide) ?_
      exact g_zret X B (by decide) ⟨by rw [if_neg (by simp only [v_ok, decide_eq_true_eq]; rw [← hr]; have := gi_ge hc49; omega)], rfl⟩ hL d_View_bounds_57 (by omega) (by omega)
    · refine lv_iconst (v := nI 1) X.1.1 X.1.2.1 d_View_bounds_52 (by decide) ?_
      refine lv_goto X.1.1 X.1.2.1 d_View_bounds_53 rfl ?_
      exact g_zret X B (by decide) ⟨by rw [if_pos (by simp only [v_ok, decide_eq_true_eq]; rw [← hr]; exact gi_nge hc49)], rfl⟩ hL d_View_bounds_57 (by omega) (by omega)
  · subst hs4
    refine lv_tableIn X.1.1 X.1.2.1 d_View_bounds_4 (x := nI 2) (by decide) (by decide) rfl rfl ?_
    refine lv_aload_n X.1.1 X.1.2.1 d_View_bounds_58 rfl (gl_at hl rfl) ?_
    refine lv_aload_n X.1.1 X.1.2.1 d_View_bounds_59 rfl (gl_at hl rfl) ?_
    refine g_get X kc_View hv 3 (by decide) lk_View_26 rfl d_View_bounds_60 ?_
    refine g_cv (A := (fun _ => False)) X gWS_good mw_View_52 kc_Key hxs.1 (c_Key_order l D q H b bk xs bd hxs hbd) (fun _ _ _ => trivial) gBlind.tt rfl rfl hl.1 (Nat.le_of_ble_eq_true rfl) rfl rfl ⟨by decide, by decide⟩ ⟨by decide, by decide⟩ d_View_bounds_63 (fun _ h => h.elim) (fun _ h => by cases h) (fun v7 H8 locs hp9 hL => ?_)
    obtain ⟨r, rfl, hr, hHe⟩ := hp9
    rw [hHe]
    refine lv_if_lt X.1.1 X.1.2.1 d_View_bounds_66 rfl (fun hc66 => ?_) (fun hc66 => ?_)
    · refine lv_iconst (v := nI 0) X.1.1 X.1.2.1 d_View_bounds_73 (by decide) ?_
      exact g_zret X B (by decide) ⟨by rw [if_neg (by simp only [v_ok, decide_eq_true_eq]; rw [← hr]; have := gi_lt hc66; omega)], rfl⟩ hL d_View_bounds_74 (by omega) (by omega)
    · refine lv_iconst (v := nI 1) X.1.1 X.1.2.1 d_View_bounds_69 (by decide) ?_
      refine lv_goto X.1.1 X.1.2.1 d_View_bounds_70 rfl ?_
      exact g_zret X B (by decide) ⟨by rw [if_pos (by simp only [v_ok, decide_eq_true_eq]; rw [← hr]; exact gi_nlt hc66)], rfl⟩ hL d_View_bounds_74 (by omega) (by omega)
  · refine lv_tableOut X.1.1 X.1.2.1 d_View_bounds_4 (Or.inr (by rw [nI_toInt (by omega)]; omega)) rfl ?_
    refine lv_iconst (v := nI 1) X.1.1 X.1.2.1 d_View_bounds_75 (by decide) ?_
    exact g_zret X B (by decide) ⟨by rw [if_pos (v_ok_all hs4)], rfl⟩ (fun _ h => by cases h) d_View_bounds_76 (by omega) (by omega)

set_option maxHeartbeats 4000000 in
set_option maxRecDepth 100000 in
theorem c_View_admits (l : Launch) (D : va_G) (q : Nat → ClassId) (H : Heap) (v : Nat) (ad : Nat → Nat) (org : Nat → Option Nat) (srt bk : Nat → Nat) (bt : Nat → List Nat) (hV : vV D q H v ad org srt bk bt) (b : Nat) (xs : List Nat) (hxs : kA D q H b xs) : gC l y_View_admits (Cond.code y_View_admits b_View_admits 3 (some .boolean) :: gWS) (gR 3 65 0 0) D CL (gY q) (fun _ => True) [.ref (ad v), .ref b] H (fun v1 H1 => v1 = some (.int (nI (if v_in org srt bt v xs = true then 1 else 0))) ∧ H1 = H) 0 0 (fun _ => False) := by
  refine gC.ofW R_View "admits" (by decide) rfl rfl ?_
  intro p e s m below meth c hadm X hE hH B hne
  refine g_entry [some (.ref (ad v)), some (.ref b), none] rfl rfl (Nat.le_of_ble_eq_true rfl) (fun ls hl => ?_)
  have ho9 : ∀ k, k ≤ v → ∀ j, org k = some j → j < k := fun k hk => (hV k hk).2.2.1
  refine lv_aload_n X.1.1 X.1.2.1 d_View_admits_0 rfl (gl_at hl rfl) ?_
  refine g_astn X.1.1 X.1.2.1 hl 2 d_View_admits_1 rfl (Nat.le_of_ble_eq_true rfl) rfl (fun ls hl => ?_)
  have loop2 : ∀ (fu : Nat) (k : Nat) (locs : List Loc) (ls : Array Slot), k < fu → (k ≤ v) → (v_in org srt bt v xs = v_in org srt bt k xs) → (∀ x ∈ locs, (fun _ => False) x.base) → gl ls [some (.ref (ad v)), some (.ref b), some (.ref (ad k))] → W p l e (gR 3 65 0 0) s m ([.ref (ad v), .ref b] : List Value).toArray below meth c H locs 0 0 (gQ below ([.ref (ad v), .ref b] : List Value).toArray s (fun v1 H1 => v1 = some (.int (nI (if v_in org srt bt v xs = true then 1 else 0))) ∧ H1 = H) 0 0 (fun _ => False)) (F0 m 2 ls []) := by
    intro fu
    induction fu with
    | zero => intro k locs ls hmu; omega
    | succ fu ih2 =>
      intro k locs ls hmu2 hi2_0 hi2_1 hL hl
      obtain ⟨⟨mb, tn, wk, f0, t0, hvk⟩, hbk, hok9, hsk⟩ := hV k hi2_0
      refine lv_aload_n X.1.1 X.1.2.1 d_View_admits_2 rfl (gl_at hl rfl) ?_
      refine lv_ifnull X.1.1 X.1.2.1 d_View_admits_3 ?_
      refine lv_aload_n X.1.1 X.1.2.1 d_View_admits_6 rfl (gl_at hl rfl) ?_
      refine lv_aload_n X.1.1 X.1.2.1 d_View_admits_7 rfl (gl_at hl rfl) ?_
      refine g_cv (A := (fun _ => False)) X gWS_good mw_View_45 kc_View hvk (c_View_bounds l D q H (ad k) mb ((org k).map ad) (srt k) (bk k) tn wk f0 t0 hvk hsk (bt k) hbk b xs hxs) (fun _ _ _ => trivial) gBlind.tt rfl rfl hl.1 (Nat.le_of_ble_eq_true rfl) rfl rfl ⟨by decide, by decide⟩ ⟨by decide, by decide⟩ d_View_admits_8 (fun _ h => h.elim) hL (fun v1 H2 locs hp3 hL => ?_)
      obtain ⟨rfl, hHe⟩ := hp3
      rw [hHe]
      refine lv_if_ne X.1.1 X.1.2.1 d_View_admits_11 rfl (fun hc11 => ?_) (fun hc11 => ?_)
      · replace hc11 := gz_t hc11
        refine lv_aload_n X.1.1 X.1.2.1 d_View_admits_16 rfl (gl_at hl rfl) ?_
        refine g_get X kc_View hvk 1 (by decide) lk_View_15 rfl d_View_admits_17 ?_
        rcases hok : org k with _ | j
        · refine g_topv .null rfl ?_
          refine g_astnN X.1.1 X.1.2.1 hl 2 d_View_admits_20 rfl (Nat.le_of_ble_eq_true rfl) rfl (fun ls hl => ?_)
          refine lv_goto X.1.1 X.1.2.1 d_View_admits_21 rfl ?_
          refine lv_aload_nN X.1.1 X.1.2.1 d_View_admits_2 rfl (gl_at hl rfl) ?_
          refine lv_ifnullN X.1.1 X.1.2.1 d_View_admits_3 rfl ?_
          refine lv_iconst (v := nI 1) X.1.1 X.1.2.1 d_View_admits_24 (by decide) ?_
          exact g_zret X B (by decide) ⟨by rw [if_pos (by rw [hi2_1]; unfold v_in; rw [v_adm, hc11, hok]; rfl)], rfl⟩ hL d_View_admits_25 (by omega) (by omega)
        · refine g_topv (.ref (ad j)) rfl ?_
          have hjk := hok9 j hok
          refine g_astn X.1.1 X.1.2.1 hl 2 d_View_admits_20 rfl (Nat.le_of_ble_eq_true rfl) rfl (fun ls hl => ?_)
          refine lv_goto X.1.1 X.1.2.1 d_View_admits_21 rfl ?_
          exact ih2 j locs ls (by omega) (by omega) (by rw [hi2_1]; unfold v_in; rw [v_adm, hc11, hok]; exact v_adm_fuel ho9 _ _ j (by omega) (by omega) (by omega)) hL hl
      · replace hc11 := gz_f hc11
        refine lv_iconst (v := nI 0) X.1.1 X.1.2.1 d_View_admits_14 (by decide) ?_
        exact g_zret X B (by decide) ⟨by rw [if_neg (by rw [hi2_1]; unfold v_in; rw [v_adm]; simp [hc11])], rfl⟩ hL d_View_admits_15 (by omega) (by omega)
  exact loop2 _ v [] ls (Nat.lt_succ_self _) (Nat.le_refl _) rfl (fun _ h => by cases h) hl
end
section
/-! the class View, 2: printed by wip/specs/view2.py -/
set_option maxHeartbeats 4000000 in
set_option maxRecDepth 100000 in
/-- measure: where the keys of a view begin and end -/
theorem c_View_measure (l : Launch) (D : va_G) (q : Nat → ClassId) (H : Heap) (v : Nat) (ad : Nat → Nat) (org : Nat → Option Nat) (srt bk : Nat → Nat) (bt : Nat → List Nat) (hV : vV D q H v ad org srt bk bt) (mb tn wk f0 t0 : Nat) (hv : va_at D CL (ad v, .inr (2, [.ref mb, va_rf ((org v).map ad), .int (nI (srt v)), .ref (bk v), .int (nI tn), .ref wk, .int (nI f0), .int (nI t0)])) H) (hx : vX v ad bk) (n : Nat) (ks : Nat → List Nat) (vs : Nat → Int32) (chg : Nat) (hm : mA D q H mb n ks vs chg) (hav : ad v < mb ∨ mb + 130 < ad v) : gC l y_View_measure (Cond.code y_View_measure b_View_measure 1 none :: gWS) (gR 4 87 0 0) D CL (gY q) (fun _ => True) [.ref (ad v)] H (fun v1 H1 => ∃ i t : Nat, v1 = none ∧ va_at D CL (ad v, .inr (2, [.ref mb, va_rf ((org v).map ad), .int (nI (srt v)), .ref (bk v), .int (nI tn), .ref wk, .int (nI i), .int (nI t)])) H1 ∧ i ≤ t ∧ t ≤ n ∧ (∀ j, j < i → ¬ v_in org srt bt v (ks j) = true) ∧ (∀ j, t ≤ j → j < n → ¬ v_in org srt bt v (ks j) = true) ∧ (i < t → v_in org srt bt v (ks i) = true) ∧ (i < t → v_in org srt bt v (ks (t - 1)) = true) ∧ H1.size = H.size ∧ ∀ p : Nat, p ≠ ad v → H1[p]? = H[p]?) 0 0 (fun p => p = ad v) := by
  refine gC.ofW R_View "measure" (by decide) rfl rfl ?_
  intro p e s m below meth c hadm X hE hH B hne
  refine g_entry [some (.ref (ad v))] rfl rfl (Nat.le_of_ble_eq_true rfl) (fun ls hl => ?_)
  obtain ⟨ho0, hn, ⟨f, g, hf0, hfg, hg, hgi, hks⟩, hvv⟩ := hm
  have ho := ho0
  have hf := hf0
  refine lv_aload_n X.1.1 X.1.2.1 d_View_measure_0 rfl (gl_at hl rfl) ?_
  refine lv_iconst (v := nI 0) X.1.1 X.1.2.1 d_View_measure_1 (by decide) ?_
  refine g_put (A := (fun p => p = ad v)) X kc_View hv 6 (by decide) lk_View_56 rfl rfl rfl (Nat.le_of_ble_eq_true rfl) d_View_measure_2 rfl (fun _ h => by cases h) (fun H1 locs h2 z3 oq4 hL => ?_)
  replace ho := ho.kept (oq4 _ (by omega))
  replace hf := hf.kept (oq4 _ (by omega))
  have loop5 : ∀ (fu : Nat) (i : Nat) (Hn : Heap) (locs : List Loc) (ls : Array Slot), n - i < fu → (i ≤ n) → (∀ j, j < i → ¬ v_in org srt bt v (ks j) = true) → (va_at D CL (ad v, .inr (2, [.ref mb, va_rf ((org v).map ad), .int (nI (srt v)), .ref (bk v), .int (nI tn), .ref wk, .int (nI i), .int (nI t0)])) Hn) → (∀ p : Nat, p ≠ ad v → Hn[p]? = H[p]?) → (Hn.size = H.size) → (∀ x ∈ locs, (fun p => p = ad v) x.base) → gl ls [some (.ref (ad v))] → W p l e (gR 4 87 0 0) s m ([.ref (ad v)] : List Value).toArray below meth c Hn locs 0 0 (gQ below ([.ref (ad v)] : List Value).toArray s (fun v1 H1 => ∃ i t : Nat, v1 = none ∧ va_at D CL (ad v, .inr (2, [.ref mb, va_rf ((org v).map ad), .int (nI (srt v)), .ref (bk v), .int (nI tn), .ref wk, .int (nI i), .int (nI t)])) H1 ∧ i ≤ t ∧ t ≤ n ∧ (∀ j, j < i → ¬ v_in org srt bt v (ks j) = true) ∧ (∀ j, t ≤ j → j < n → ¬ v_in org srt bt v (ks j) = true) ∧ (i < t → v_in org srt bt v (ks i) = true) ∧ (i < t → v_in org srt bt v (ks (t - 1)) = true) ∧ H1.size = H.size ∧ ∀ p : Nat, p ≠ ad v → H1[p]? = H[p]?) 0 0 (fun p => p = ad v)) (F0 m 5 ls []) := by
    intro fu
    induction fu with
    | zero => intro i Hn locs ls hmu; omega
    | succ fu ih5 =>
      intro i Hn locs ls hmu5 hi5_0 hi5_1 hv fr zz hL hl
      have ho := ho0.kept (fr mb (by omega))
      have hf := va_at.kept hf0 (fr (mb + 1) (by omega))
      refine lv_aload_n X.1.1 X.1.2.1 d_View_measure_5 rfl (gl_at hl rfl) ?_
      refine g_get X kc_View hv 6 (by decide) lk_View_56 rfl d_View_measure_6 ?_
      refine lv_aload_n X.1.1 X.1.2.1 d_View_measure_9 rfl (gl_at hl rfl) ?_
      refine g_get X kc_View hv 0 (by decide) lk_View_9 rfl d_View_measure_10 ?_
      refine g_get X kc_KeyMap ho 2 (by decide) lk_View_59 rfl d_View_measure_13 ?_
      refine gn_ge X.1.1 X.1.2.1 i n (by omega) (by omega) d_View_measure_16 rfl (fun hc16 => ?_) (fun hc16 => ?_)
      · have hin : i < n → v_in org srt bt v (ks i) = true := by first | (intro h9; omega) | exact fun _ => hc35
        refine lv_aload_n X.1.1 X.1.2.1 d_View_measure_51 rfl (gl_at hl rfl) ?_
        refine lv_aload_n X.1.1 X.1.2.1 d_View_measure_52 rfl (gl_at hl rfl) ?_
        refine g_get X kc_View hv 0 (by decide) lk_View_9 rfl d_View_measure_53 ?_
        refine g_get X kc_KeyMap ho 2 (by decide) lk_View_59 rfl d_View_measure_56 ?_
        refine g_put (A := (fun p => p = ad v)) X kc_View hv 7 (by decide) lk_View_71 rfl rfl rfl (Nat.le_of_ble_eq_true rfl) d_View_measure_59 rfl hL (fun H5 locs h6 z7 oq8 hL => ?_)
        replace ho := ho.kept (oq8 _ (by omega))
        replace hf := hf.kept (oq8 _ (by omega))
        have loop62 : ∀ (fu : Nat) (t : Nat) (Hn : Heap) (locs : List Loc) (ls : Array Slot), t < fu → (i ≤ t) → (t ≤ n) → (∀ j, t ≤ j → j < n → ¬ v_in org srt bt v (ks j) = true) → (va_at D CL (ad v, .inr (2, [.ref mb, va_rf ((org v).map ad), .int (nI (srt v)), .ref (bk v), .int (nI tn), .ref wk, .int (nI i), .int (nI t)])) Hn) → (∀ p : Nat, p ≠ ad v → Hn[p]? = H[p]?) → (Hn.size = H.size) → (∀ x ∈ locs, (fun p => p = ad v) x.base) → gl ls [some (.ref (ad v))] → W p l e (gR 4 87 0 0) s m ([.ref (ad v)] : List Value).toArray below meth c Hn locs 0 0 (gQ below ([.ref (ad v)] : List Value).toArray s (fun v1 H1 => ∃ i t : Nat, v1 = none ∧ va_at D CL (ad v, .inr (2, [.ref mb, va_rf ((org v).map ad), .int (nI (srt v)), .ref (bk v), .int (nI tn), .ref wk, .int (nI i), .int (nI t)])) H1 ∧ i ≤ t ∧ t ≤ n ∧ (∀ j, j < i → ¬ v_in org srt bt v (ks j) = true) ∧ (∀ j, t ≤ j → j < n → ¬ v_in org srt bt v (ks j) = true) ∧ (i < t → v_in org srt bt v (ks i) = true) ∧ (i < t → v_in org srt bt v (ks (t - 1)) = true) ∧ H1.size = H.size ∧ ∀ p : Nat, p ≠ ad v → H1[p]? = H[p]?) 0 0 (fun p => p = ad v)) (F0 m 62 ls []) := by
          intro fu
          induction fu with
          | zero => intro t Hn locs ls hmu; omega
          | succ fu ih62 =>
            intro t Hn locs ls hmu62 hi62_0 hi62_1 hi62_2 hv fr zz hL hl
            have ho := ho0.kept (fr mb (by omega))
            have hf := va_at.kept hf0 (fr (mb + 1) (by omega))
            refine lv_aload_n X.1.1 X.1.2.1 d_View_measure_62 rfl (gl_at hl rfl) ?_
            refine g_get X kc_View hv 7 (by decide) lk_View_71 rfl d_View_measure_63 ?_
            refine lv_aload_n X.1.1 X.1.2.1 d_View_measure_66 rfl (gl_at hl rfl) ?_
            refine g_get X kc_View hv 6 (by decide) lk_View_56 rfl d_View_measure_67 ?_
            refine gn_le X.1.1 X.1.2.1 t i (by omega) (by omega) d_View_measure_70 rfl (fun hc70 => ?_) (fun hc70 => ?_)
            · exact g_vret X B ⟨i, t, rfl, hv, hi62_0, hi62_1, hi5_1, hi62_2, fun h => hin (by omega), (by first | (intro h9; omega) | exact fun _ => hc91), zz, fr⟩ hL d_View_measure_107 (by omega) (by omega)
            · obtain ⟨j9, hj9, hgj9⟩ := hg (t - 1) (by omega)
              have hki := (hks (t - 1) (by omega)).kept (fr _ (by omega)) (fr _ (by omega))
              refine lv_aload_n X.1.1 X.1.2.1 d_View_measure_73 rfl (gl_at hl rfl) ?_
              refine lv_aload_n X.1.1 X.1.2.1 d_View_measure_74 rfl (gl_at hl rfl) ?_
              refine g_get X kc_View hv 0 (by decide) lk_View_9 rfl d_View_measure_75 ?_
              refine g_get X kc_KeyMap ho 0 (by decide) lk_View_64 rfl d_View_measure_78 ?_
              refine lv_aload_n X.1.1 X.1.2.1 d_View_measure_81 rfl (gl_at hl rfl) ?_
              refine g_get X kc_View hv 7 (by decide) lk_View_71 rfl d_View_measure_82 ?_
              refine lv_iconst (v := nI 1) X.1.1 X.1.2.1 d_View_measure_85 (by decide) ?_
              refine lv_isub X.1.1 X.1.2.1 d_View_measure_86 ?_
              refine g_top (nI (t - 1)) (pk_sub (by omega)) ?_
              refine g_aald X 3 hf rfl (t - 1) (by omega) (by decide) (v := .ref (g (t - 1))) (by rw [hfg _ (by omega)]; rfl) d_View_measure_87 ?_
              refine g_cv (A := (fun p => p = ad v)) X gWS_good mw_View_68 kc_View hv (c_View_admits l D q Hn v ad org srt bk bt (hV.put hx hv fr) (g (t - 1)) (ks (t - 1)) hki) (fun _ _ _ => trivial) gBlind.tt rfl rfl hl.1 (Nat.le_of_ble_eq_true rfl) rfl rfl ⟨by decide, by decide⟩ ⟨by decide, by decide⟩ d_View_measure_88 (fun _ h => h.elim) hL (fun v9 H10 locs hp11 hL => ?_)
              obtain ⟨rfl, hHe⟩ := hp11
              rw [hHe]
              refine lv_if_ne X.1.1 X.1.2.1 d_View_measure_91 rfl (fun hc91 => ?_) (fun hc91 => ?_)
              · replace hc91 := gz_t hc91
                exact g_vret X B ⟨i, t, rfl, hv, hi62_0, hi62_1, hi5_1, hi62_2, fun h => hin (by omega), (by first | (intro h9; omega) | exact fun _ => hc91), zz, fr⟩ hL d_View_measure_107 (by omega) (by omega)
              · replace hc91 := gz_f hc91
                refine lv_aload_n X.1.1 X.1.2.1 d_View_measure_94 rfl (gl_at hl rfl) ?_
                refine lv_dup X.1.1 X.1.2.1 d_View_measure_95 rfl ?_
                refine g_get X kc_View hv 7 (by decide) lk_View_71 rfl d_View_measure_96 ?_
                refine lv_iconst (v := nI 1) X.1.1 X.1.2.1 d_View_measure_99 (by decide) ?_
                refine lv_isub X.1.1 X.1.2.1 d_View_measure_100 ?_
                refine g_top (nI (t - 1)) (pk_sub (by omega)) ?_
                refine g_put (A := (fun p => p = ad v)) X kc_View hv 7 (by decide) lk_View_71 rfl rfl rfl (Nat.le_of_ble_eq_true rfl) d_View_measure_101 rfl hL (fun H12 locs h13 z14 oq15 hL => ?_)
                replace ho := ho.kept (oq15 _ (by omega))
                replace hf := hf.kept (oq15 _ (by omega))
                refine lv_goto X.1.1 X.1.2.1 d_View_measure_104 rfl ?_
                exact ih62 (t - 1) H12 locs ls (by omega) (by omega) (by omega) (fun j h1 h2 => by
                  by_cases h9 : j = t - 1
                  · rw [h9]
                    exact hc91
                  · exact hi62_2 j (by omega) h2) h13 (fun p hp => ((oq15 p hp).trans (fr p hp))) (z14.trans zz) hL hl
        exact loop62 _ n H5 locs ls (Nat.lt_succ_self _) (by omega) (Nat.le_refl _) (fun j h1 h2 => by omega) h6 (fun p hp => ((oq8 p hp).trans (fr p hp))) (z7.trans zz) hL hl
      · obtain ⟨j9, hj9, hgj9⟩ := hg i (by omega)
        have hki := (hks i (by omega)).kept (fr _ (by omega)) (fr _ (by omega))
        refine lv_aload_n X.1.1 X.1.2.1 d_View_measure_19 rfl (gl_at hl rfl) ?_
        refine lv_aload_n X.1.1 X.1.2.1 d_View_measure_20 rfl (gl_at hl rfl) ?_
        refine g_get X kc_View hv 0 (by decide) lk_View_9 rfl d_View_measure_21 ?_
        refine g_get X kc_KeyMap ho 0 (by decide) lk_View_64 rfl d_View_measure_24 ?_
        refine lv_aload_n X.1.1 X.1.2.1 d_View_measure_27 rfl (gl_at hl rfl) ?_
        refine g_get X kc_View hv 6 (by decide) lk_View_56 rfl d_View_measure_28 ?_
        refine g_aald X 3 hf rfl i (by omega) (by decide) (v := .ref (g i)) (by rw [hfg _ (by omega)]; rfl) d_View_measure_31 ?_
        refine g_cv (A := (fun p => p = ad v)) X gWS_good mw_View_68 kc_View hv (c_View_admits l D q Hn v ad org srt bk bt (hV.put hx hv fr) (g i) (ks i) hki) (fun _ _ _ => trivial) gBlind.tt rfl rfl hl.1 (Nat.le_of_ble_eq_true rfl) rfl rfl ⟨by decide, by decide⟩ ⟨by decide, by decide⟩ d_View_measure_32 (fun _ h => h.elim) hL (fun v16 H17 locs hp18 hL => ?_)
        obtain ⟨rfl, hHe⟩ := hp18
        rw [hHe]
        refine lv_if_ne X.1.1 X.1.2.1 d_View_measure_35 rfl (fun hc35 => ?_) (fun hc35 => ?_)
        · replace hc35 := gz_t hc35
          have hin : i < n → v_in org srt bt v (ks i) = true := by first | (intro h9; omega) | exact fun _ => hc35
          refine lv_aload_n X.1.1 X.1.2.1 d_View_measure_51 rfl (gl_at hl rfl) ?_
          refine lv_aload_n X.1.1 X.1.2.1 d_View_measure_52 rfl (gl_at hl rfl) ?_
          refine g_get X kc_View hv 0 (by decide) lk_View_9 rfl d_View_measure_53 ?_
          refine g_get X kc_KeyMap ho 2 (by decide) lk_View_59 rfl d_View_measure_56 ?_
          refine g_put (A := (fun p => p = ad v)) X kc_View hv 7 (by decide) lk_View_71 rfl rfl rfl (Nat.le_of_ble_eq_true rfl) d_View_measure_59 rfl hL (fun H19 locs h20 z21 oq22 hL => ?_)
          replace ho := ho.kept (oq22 _ (by omega))
          replace hf := hf.kept (oq22 _ (by omega))
          have loop62 : ∀ (fu : Nat) (t : Nat) (Hn : Heap) (locs : List Loc) (ls : Array Slot), t < fu → (i ≤ t) → (t ≤ n) → (∀ j, t ≤ j → j < n → ¬ v_in org srt bt v (ks j) = true) → (va_at D CL (ad v, .inr (2, [.ref mb, va_rf ((org v).map ad), .int (nI (srt v)), .ref (bk v), .int (nI tn), .ref wk, .int (nI i), .int (nI t)])) Hn) → (∀ p : Nat, p ≠ ad v → Hn[p]? = H[p]?) → (Hn.size = H.size) → (∀ x ∈ locs, (fun p => p = ad v) x.base) → gl ls [some (.ref (ad v))] → W p l e (gR 4 87 0 0) s m ([.ref (ad v)] : List Value).toArray below meth c Hn locs 0 0 (gQ below ([.ref (ad v)] : List Value).toArray s (fun v1 H1 => ∃ i t : Nat, v1 = none ∧ va_at D CL (ad v, .inr (2, [.ref mb, va_rf ((org v).map ad), .int (nI (srt v)), .ref (bk v), .int (nI tn), .ref wk, .int (nI i), .int (nI t)])) H1 ∧ i ≤ t ∧ t ≤ n ∧ (∀ j, j < i → ¬ v_in org srt bt v (ks j) = true) ∧ (∀ j, t ≤ j → j < n → ¬ v_in org srt bt v (ks j) = true) ∧ (i < t → v_in org srt bt v (ks i) = true) ∧ (i < t → v_in org srt bt v (ks (t - 1)) = true) ∧ H1.size = H.size ∧ ∀ p : Nat, p ≠ ad v → H1[p]? = H[p]?) 0 0 (fun p => p = ad v)) (F0 m 62 ls []) := by
            intro fu
            induction fu with
            | zero => intro t Hn locs ls hmu; omega
            | succ fu ih62 =>
              intro t Hn locs ls hmu62 hi62_0 hi62_1 hi62_2 hv fr zz hL hl
              have ho := ho0.kept (fr mb (by omega))
              have hf := va_at.kept hf0 (fr (mb + 1) (by omega))
              refine lv_aload_n X.1.1 X.1.2.1 d_View_measure_62 rfl (gl_at hl rfl) ?_
              refine g_get X kc_View hv 7 (by decide) lk_View_71 rfl d_View_measure_63 ?_
              refine lv_aload_n X.1.1 X.1.2.1 d_View_measure_66 rfl (gl_at hl rfl) ?_
              refine g_get X kc_View hv 6 (by decide) lk_View_56 rfl d_View_measure_67 ?_
              refine gn_le X.1.1 X.1.2.1 t i (by omega) (by omega) d_View_measure_70 rfl (fun hc70 => ?_) (fun hc70 => ?_)
              · exact g_vret X B ⟨i, t, rfl, hv, hi62_0, hi62_1, hi5_1, hi62_2, fun h => hin (by omega), (by first | (intro h9; omega) | exact fun _ => hc91), zz, fr⟩ hL d_View_measure_107 (by omega) (by omega)
              · obtain ⟨j9, hj9, hgj9⟩ := hg (t - 1) (by omega)
                have hki := (hks (t - 1) (by omega)).kept (fr _ (by omega)) (fr _ (by omega))
                refine lv_aload_n X.1.1 X.1.2.1 d_View_measure_73 rfl (gl_at hl rfl) ?_
                refine lv_aload_n X.1.1 X.1.2.1 d_View_measure_74 rfl (gl_at hl rfl) ?_
                refine g_get X kc_View hv 0 (by decide) lk_View_9 rfl d_View_measure_75 ?_
                refine g_get X kc_KeyMap ho 0 (by decide) lk_View_64 rfl d_View_measure_78 ?_
                refine lv_aload_n X.1.1 X.1.2.1 d_View_measure_81 rfl (gl_at hl rfl) ?_
                refine g_get X kc_View hv 7 (by decide) lk_View_71 rfl d_View_measure_82 ?_
                refine lv_iconst (v := nI 1) X.1.1 X.1.2.1 d_View_measure_85 (by decide) ?_
                refine lv_isub X.1.1 X.1.2.1 d_View_measure_86 ?_
                refine g_top (nI (t - 1)) (pk_sub (by omega)) ?_
                refine g_aald X 3 hf rfl (t - 1) (by omega) (by decide) (v := .ref (g (t - 1))) (by rw [hfg _ (by omega)]; rfl) d_View_measure_87 ?_
                refine g_cv (A := (fun p => p = ad v)) X gWS_good mw_View_68 kc_View hv (c_View_admits l D q Hn v ad org srt bk bt (hV.put hx hv fr) (g (t - 1)) (ks (t - 1)) hki) (fun _ _ _ => trivial) gBlind.tt rfl rfl hl.1 (Nat.le_of_ble_eq_true rfl) rfl rfl ⟨by decide, by decide⟩ ⟨by decide, by decide⟩ d_View_measure_88 (fun _ h => h.elim) hL (fun v23 H24 locs hp25 hL => ?_)
                obtain ⟨rfl, hHe⟩ := hp25
                rw [hHe]
                refine lv_if_ne X.1.1 X.1.2.1 d_View_measure_91 rfl (fun hc91 => ?_) (fun hc91 => ?_)
                · replace hc91 := gz_t hc91
                  exact g_vret X B ⟨i, t, rfl, hv, hi62_0, hi62_1, hi5_1, hi62_2, fun h => hin (by omega), (by first | (intro h9; omega) | exact fun _ => hc91), zz, fr⟩ hL d_View_measure_107 (by omega) (by omega)
                · replace hc91 := gz_f hc91
                  refine lv_aload_n X.1.1 X.1.2.1 d_View_measure_94 rfl (gl_at hl rfl) ?_
                  refine lv_dup X.1.1 X.1.2.1 d_View_measure_95 rfl ?_
                  refine g_get X kc_View hv 7 (by decide) lk_View_71 rfl d_View_measure_96 ?_
                  refine lv_iconst (v := nI 1) X.1.1 X.1.2.1 d_View_measure_99 (by decide) ?_
                  refine lv_isub X.1.1 X.1.2.1 d_View_measure_100 ?_
                  refine g_top (nI (t - 1)) (pk_sub (by omega)) ?_
                  refine g_put (A := (fun p => p = ad v)) X kc_View hv 7 (by decide) lk_View_71 rfl rfl rfl (Nat.le_of_ble_eq_true rfl) d_View_measure_101 rfl hL (fun H26 locs h27 z28 oq29 hL => ?_)
                  replace ho := ho.kept (oq29 _ (by omega))
                  replace hf := hf.kept (oq29 _ (by omega))
                  refine lv_goto X.1.1 X.1.2.1 d_View_measure_104 rfl ?_
                  exact ih62 (t - 1) H26 locs ls (by omega) (by omega) (by omega) (fun j h1 h2 => by
                    by_cases h9 : j = t - 1
                    · rw [h9]
                      exact hc91
                    · exact hi62_2 j (by omega) h2) h27 (fun p hp => ((oq29 p hp).trans (fr p hp))) (z28.trans zz) hL hl
          exact loop62 _ n H19 locs ls (Nat.lt_succ_self _) (by omega) (Nat.le_refl _) (fun j h1 h2 => by omega) h20 (fun p hp => ((oq22 p hp).trans (fr p hp))) (z21.trans zz) hL hl
        · replace hc35 := gz_f hc35
          refine lv_aload_n X.1.1 X.1.2.1 d_View_measure_38 rfl (gl_at hl rfl) ?_
          refine lv_dup X.1.1 X.1.2.1 d_View_measure_39 rfl ?_
          refine g_get X kc_View hv 6 (by decide) lk_View_56 rfl d_View_measure_40 ?_
          refine lv_iconst (v := nI 1) X.1.1 X.1.2.1 d_View_measure_43 (by decide) ?_
          refine lv_iadd X.1.1 X.1.2.1 d_View_measure_44 ?_
          refine g_top (nI (i + 1)) (nI_add _ _) ?_
          refine g_put (A := (fun p => p = ad v)) X kc_View hv 6 (by decide) lk_View_56 rfl rfl rfl (Nat.le_of_ble_eq_true rfl) d_View_measure_45 rfl hL (fun H30 locs h31 z32 oq33 hL => ?_)
          replace ho := ho.kept (oq33 _ (by omega))
          replace hf := hf.kept (oq33 _ (by omega))
          refine lv_goto X.1.1 X.1.2.1 d_View_measure_48 rfl ?_
          exact ih5 (i + 1) H30 locs ls (by omega) (by omega) (lt_s hi5_1 hc35) h31 (fun p hp => ((oq33 p hp).trans (fr p hp))) (z32.trans zz) hL hl
  exact loop5 _ 0 H1 locs ls (Nat.lt_succ_self _) (Nat.zero_le _) (fun j hj => absurd hj (Nat.not_lt_zero j)) h2 (fun p hp => (oq4 p hp)) z3 hL hl

set_option maxHeartbeats 4000000 in
set_option maxRecDepth 100000 in
theorem c_View_count (l : Launch) (D : va_G) (q : Nat → ClassId) (H : Heap) (vb mb : Nat) (og : Option Nat) (srt bk tn wk f0 t0 : Nat) (hv : va_at D CL (vb, .inr (2, [.ref mb, va_rf og, .int (nI srt), .ref bk, .int (nI tn), .ref wk, .int (nI f0), .int (nI t0)])) H) (hft : f0 ≤ t0) : gC l y_View_count (Cond.code y_View_count b_View_count 1 (some .int) :: gWS) (gR 0 0 0 0) D CL (gY q) (fun _ => True) [.ref vb] H (fun v H1 => v = some (.int (nI (t0 - f0))) ∧ H1 = H) 0 0 (fun _ => False) := by
  refine gC.ofW R_View "count" (by decide) rfl rfl ?_
  intro p e s m below meth c hadm X hE hH B hne
  refine g_entry [some (.ref vb)] rfl rfl (Nat.le_of_ble_eq_true rfl) (fun ls hl => ?_)
  refine lv_aload_n X.1.1 X.1.2.1 d_View_count_0 rfl (gl_at hl rfl) ?_
  refine g_get X kc_View hv 7 (by decide) lk_View_71 rfl d_View_count_1 ?_
  refine lv_aload_n X.1.1 X.1.2.1 d_View_count_4 rfl (gl_at hl rfl) ?_
  refine g_get X kc_View hv 6 (by decide) lk_View_56 rfl d_View_count_5 ?_
  refine lv_isub X.1.1 X.1.2.1 d_View_count_8 ?_
  refine g_top (nI (t0 - f0)) (pk_sub (by omega)) ?_
  exact g_iret X B ⟨rfl, rfl⟩ (fun _ h => by cases h) d_View_count_9 (by omega) (by omega)

set_option maxHeartbeats 4000000 in
set_option maxRecDepth 100000 in
theorem c_View_placeRanked (l : Launch) (D : va_G) (q : Nat → ClassId) (H : Heap) (vb mb : Nat) (og : Option Nat) (srt bk tn wk f0 t0 : Nat) (hv : va_at D CL (vb, .inr (2, [.ref mb, va_rf og, .int (nI srt), .ref bk, .int (nI tn), .ref wk, .int (nI f0), .int (nI t0)])) H) (k : Nat) (htn : tn < 2 ^ 31) (hk : f0 + k < t0) : gC l y_View_placeRanked (Cond.code y_View_placeRanked b_View_placeRanked 2 (some .int) :: gWS) (gR 0 0 0 0) D CL (gY q) (fun _ => True) [.ref vb, .int (nI k)] H (fun v H1 => v = some (.int (nI (if tn ≠ 0 then t0 - 1 - k else f0 + k))) ∧ H1 = H) 0 0 (fun _ => False) := by
  refine gC.ofW R_View "placeRanked" (by decide) rfl rfl ?_
  intro p e s m below meth c hadm X hE hH B hne
  refine g_entry [some (.ref vb), some (.int (nI k))] rfl rfl (Nat.le_of_ble_eq_true rfl) (fun ls hl => ?_)
  refine lv_aload_n X.1.1 X.1.2.1 d_View_placeRanked_0 rfl (gl_at hl rfl) ?_
  refine g_get X kc_View hv 4 (by decide) lk_View_30 rfl d_View_placeRanked_1 ?_
  refine gn_eq0 X.1.1 X.1.2.1 tn (by omega) d_View_placeRanked_4 rfl (fun hc4 => ?_) (fun hc4 => ?_)
  · refine lv_aload_n X.1.1 X.1.2.1 d_View_placeRanked_18 rfl (gl_at hl rfl) ?_
    refine g_get X kc_View hv 6 (by decide) lk_View_56 rfl d_View_placeRanked_19 ?_
    refine lv_iload_n X.1.1 X.1.2.1 d_View_placeRanked_22 rfl (gl_at hl rfl) ?_
    refine lv_iadd X.1.1 X.1.2.1 d_View_placeRanked_23 ?_
    refine g_top (nI (f0 + k)) (nI_add _ _) ?_
    exact g_iret X B ⟨by first | rw [if_pos (by assumption)] | rw [if_neg (fun h => h (by assumption))], rfl⟩ (fun _ h => by cases h) d_View_placeRanked_24 (by omega) (by omega)
  · refine lv_aload_n X.1.1 X.1.2.1 d_View_placeRanked_7 rfl (gl_at hl rfl) ?_
    refine g_get X kc_View hv 7 (by decide) lk_View_71 rfl d_View_placeRanked_8 ?_
    refine lv_iconst (v := nI 1) X.1.1 X.1.2.1 d_View_placeRanked_11 (by decide) ?_
    refine lv_isub X.1.1 X.1.2.1 d_View_placeRanked_12 ?_
    refine g_top (nI (t0 - 1)) (pk_sub (by omega)) ?_
    refine lv_iload_n X.1.1 X.1.2.1 d_View_placeRanked_13 rfl (gl_at hl rfl) ?_
    refine lv_isub X.1.1 X.1.2.1 d_View_placeRanked_14 ?_
    refine g_top (nI ((t0 - 1) - k)) (pk_sub (by omega)) ?_
    refine lv_goto X.1.1 X.1.2.1 d_View_placeRanked_15 rfl ?_
    exact g_iret X B ⟨by first | rw [if_pos (by assumption)] | rw [if_neg (fun h => h (by assumption))], rfl⟩ (fun _ h => by cases h) d_View_placeRanked_24 (by omega) (by omega)
end
section
/-! counting and ranks: pure -/
def v_cnt (p : Nat → Bool) (a : Nat) : Nat → Nat
  | 0 => 0
  | k + 1 => v_cnt p a k + if p (a + k) = true then 1 else 0
theorem v_cnt_le (p : Nat → Bool) (a : Nat) : ∀ k, v_cnt p a k ≤ k
  | 0 => Nat.le_refl 0
  | k + 1 => by
    have h := v_cnt_le p a k
    unfold v_cnt
    split <;> omega
theorem v_cnt_s {p : Nat → Bool} {a i : Nat} (h : a ≤ i) : v_cnt p a (i + 1 - a) = v_cnt p a (i - a) + if p i = true then 1 else 0 := by
  rw [show i + 1 - a = (i - a) + 1 by omega, v_cnt, show a + (i - a) = i by omega]
def v_o (tn : Nat) (ks : Nat → List Nat) (ys : List Nat) (i : Nat) : Int := if tn ≠ 0 then t_ord ys (ks i) else t_ord (ks i) ys
def v_bef (tn sm : Nat) (ks : Nat → List Nat) (ys : List Nat) (i : Nat) : Bool := decide (v_o tn ks ys i < 0 ∨ (sm ≠ 0 ∧ v_o tn ks ys i = 0))
theorem v_bef_t1 {tn sm : Nat} {ks : Nat → List Nat} {ys : List Nat} {i : Nat} {r : Int32} (h : r.toInt = v_o tn ks ys i) (h1 : r < 0) : v_bef tn sm ks ys i = true := by
  unfold v_bef
  rw [decide_eq_true_eq, ← h]
  exact Or.inl (gi_lt h1)
theorem v_bef_t2 {tn sm : Nat} {ks : Nat → List Nat} {ys : List Nat} {i : Nat} {r : Int32} (h : r.toInt = v_o tn ks ys i) (h1 : sm ≠ 0) (h2 : r = 0) : v_bef tn sm ks ys i = true := by
  unfold v_bef
  rw [decide_eq_true_eq, ← h]
  exact Or.inr ⟨h1, gi_eq h2⟩
theorem v_bef_f1 {tn sm : Nat} {ks : Nat → List Nat} {ys : List Nat} {i : Nat} {r : Int32} (h : r.toInt = v_o tn ks ys i) (h0 : ¬ r < 0) (h1 : sm = 0) : v_bef tn sm ks ys i = false := by
  unfold v_bef
  rw [decide_eq_false_iff_not, ← h]
  rintro (h2 | h2)
  · have := gi_nlt h0
    omega
  · exact h2.1 h1
theorem v_bef_f2 {tn sm : Nat} {ks : Nat → List Nat} {ys : List Nat} {i : Nat} {r : Int32} (h : r.toInt = v_o tn ks ys i) (h0 : ¬ r < 0) (h1 : ¬ r = 0) : v_bef tn sm ks ys i = false := by
  unfold v_bef
  rw [decide_eq_false_iff_not, ← h]
  rintro (h2 | h2)
  · have := gi_nlt h0
    omega
  · exact gi_ne h1 h2.2
/-- a number, or -1 for none -/
def gm1 : Option Nat → Int32
  | none => -1
  | some r => nI r
theorem gm1_le_none {a : Nat} (ha : a < 2 ^ 31) : ¬ nI a ≤ gm1 none := by
  intro h
  have h1 := Int32.le_iff_toInt_le.mp h
  rw [nI_toInt ha] at h1
  have h2 : (gm1 none).toInt = -1 := by decide
  omega
theorem gm1_le_some {a b : Nat} (ha : a < 2 ^ 31) (hb : b < 2 ^ 31) : nI a ≤ gm1 (some b) ↔ a ≤ b := nI_leI ha hb
/-- the place of the key of rank k -/
def v_pl (tn f0 t0 k : Nat) : Nat := if tn ≠ 0 then t0 - 1 - k else f0 + k
theorem v_pl_in {tn f0 t0 k : Nat} (h : f0 + k < t0) : f0 ≤ v_pl tn f0 t0 k ∧ v_pl tn f0 t0 k < t0 := by
  unfold v_pl
  split <;> omega
/-- of the first m ranks, the rank of the longest key with which ys begins -/
def v_long (tn f0 t0 : Nat) (ks : Nat → List Nat) (ys : List Nat) (m : Nat) : Option Nat → Prop
  | none => ∀ k, k < m → t_lcp ys (ks (v_pl tn f0 t0 k)) ≠ (ks (v_pl tn f0 t0 k)).length
  | some r => r < m ∧ t_lcp ys (ks (v_pl tn f0 t0 r)) = (ks (v_pl tn f0 t0 r)).length ∧ ∀ k, k < m → t_lcp ys (ks (v_pl tn f0 t0 k)) = (ks (v_pl tn f0 t0 k)).length → (ks (v_pl tn f0 t0 k)).length ≤ (ks (v_pl tn f0 t0 r)).length
theorem v_long_0 {tn f0 t0 : Nat} {ks : Nat → List Nat} {ys : List Nat} : v_long tn f0 t0 ks ys 0 none := fun k h => absurd h (Nat.not_lt_zero k)
theorem v_long_keep {tn f0 t0 m : Nat} {ks : Nat → List Nat} {ys : List Nat} {w : Option Nat} (h : v_long tn f0 t0 ks ys m w) (hk : t_lcp ys (ks (v_pl tn f0 t0 m)) = (ks (v_pl tn f0 t0 m)).length → ∃ r, w = some r ∧ (ks (v_pl tn f0 t0 m)).length ≤ (ks (v_pl tn f0 t0 r)).length) : v_long tn f0 t0 ks ys (m + 1) w := by
  cases w with
  | none =>
    intro k hk1
    by_cases h9 : k = m
    · rw [h9]
      intro h8
      obtain ⟨r, hr, -⟩ := hk h8
      cases hr
    · exact h k (by omega)
  | some r =>
    obtain ⟨h1, h2, h3⟩ := h
    refine ⟨by omega, h2, fun k hk1 hk2 => ?_⟩
    by_cases h9 : k = m
    · rw [h9] at hk2 ⊢
      obtain ⟨r', hr, hle⟩ := hk hk2
      cases hr
      exact hle
    · exact h3 k (by omega) hk2
theorem v_long_new {tn f0 t0 m : Nat} {ks : Nat → List Nat} {ys : List Nat} {w : Option Nat} (h : v_long tn f0 t0 ks ys m w) (hp : t_lcp ys (ks (v_pl tn f0 t0 m)) = (ks (v_pl tn f0 t0 m)).length) (hl : ∀ r, w = some r → (ks (v_pl tn f0 t0 r)).length < (ks (v_pl tn f0 t0 m)).length) : v_long tn f0 t0 ks ys (m + 1) (some m) := by
  refine ⟨by omega, hp, fun k hk1 hk2 => ?_⟩
  by_cases h9 : k = m
  · rw [h9]
    exact Nat.le_refl _
  · cases w with
    | none => exact absurd hk2 (h k (by omega))
    | some r =>
      have h1 := h.2.2 k (by omega) hk2
      have h2 := hl r rfl
      omega
/-- what rankBy answers -/
def v_rk (tn f0 t0 : Nat) (ks : Nat → List Nat) (ys : List Nat) (h : Nat) (r : Int32) : Prop := match h with
  | 0 => r = nI (v_cnt (v_bef tn 1 ks ys) f0 (t0 - f0)) - 1
  | 1 => r = nI (v_cnt (v_bef tn 0 ks ys) f0 (t0 - f0)) - 1
  | 2 => r = nI (v_cnt (v_bef tn 0 ks ys) f0 (t0 - f0))
  | 3 => r = nI (v_cnt (v_bef tn 1 ks ys) f0 (t0 - f0))
  | 4 => r = nI 0
  | 5 => r = nI (t0 - f0) - 1
  | _ => ∃ w, r = gm1 w ∧ v_long tn f0 t0 ks ys (t0 - f0) w
section GN
variable {p : Program} {l : Launch} {e : Env} {R : Room} {s : State} {m : MethodId} {args : Array Value} {below : List Frame} {meth : Method} {c : Code} {H : Heap} {locs : List Loc} {cells slots : Nat} {Q : State → Prop}
variable {cc : ByteArray} {nL pc : Nat} {ls : Array Slot} {rest : List Value} {D : va_G} {cl : List vw_C} {A A1 : Nat → Prop} {tys : List (ClassId × FieldType)} {own host : String} {index : Nat} {Ts : List Cond} {Post' : Option Value → Heap → Prop} {mc ms : Nat} {E : State → Prop}
variable {y : MethodName} {bytes : ByteArray} {maxL n : Nat} {rm : Room} {b : Nat} {As st : List Value}
/-- a nest mate's private constructor -/
theorem g_cin (X : gX p m c cc nL s args own Ts D cl tys) (hG : gGood Ts) (hN : va_Nw (.methodLinkNest own index y host) s) (w2 : Cond.instanceMethod y ∈ Ts) (w3 : Cond.initialized y.cls ∈ Ts) (w4 : Cond.code y bytes maxL none ∈ Ts) (hy : y.name = "<init>") (hd : y.cls ≠ "java/lang/invoke/MethodHandle" ∧ y.cls ≠ "java/lang/invoke/VarHandle" ∧ (parseMethodDescriptor y.desc).map (fun d => d.parameters.length) = some n)
    (hM : gC l y (Cond.code y bytes maxL none :: Ts) rm D cl tys E (.ref b :: As) H Post' mc ms A1) (hE : ∀ U : State, U.heap = H → s.WarmedH U.vm → E U) (hEb : gBlind E)
    (hn : As.length = n) (hst : st = As.reverse ++ .ref b :: rest) (hls : ls.size = nL) (hW : (rest.map fun v => v.category).sum ≤ 8) (hrc : rm.cells = mc) (hrs : rm.slots = ms) (hR : rm.frames + 1 ≤ R.frames ∧ 8 + (maxL + 11) + rm.locals ≤ R.locals) (hf : cells + mc ≤ R.cells ∧ slots + ms ≤ R.slots)
    (hdg : decode cc pc = .ok (.invokespecial index, 3)) (hA : ∀ q, A1 q → A q) (hL : ∀ x ∈ locs, A x.base)
    (kk : ∀ (v : Option Value) (H1 : Heap) (locs1 : List Loc), Post' v H1 → (∀ x ∈ locs1, A x.base) → W p l e R s m args below meth c H1 locs1 (cells + mc) (slots + ms) Q (F0 m (pc + 3) ls (v.toList ++ rest))) : W p l e R s m args below meth c H locs cells slots Q (F0 m pc ls st) := by
  have hin : ∀ w' ∈ (Cond.code y bytes maxL none :: Ts), w' ∈ Ts := by
    intro w' hw'
    rcases List.mem_cons.mp hw' with h | h
    · rw [h]; exact w4
    · exact h
  have cn := va_cnB (R := R) (own := own) (host := host) (index := index) (rm := rm) (mc := mc) (ms := ms) n X.1.2.2.2.2 (hG.in hin) rfl hrc hrs hN (X.1.2.2.2.2 _ w3) hd hR
  exact g_run (va_runIN (As := As) (b := b) (rest := rest) X.1 hM ⟨cn, hy, X.1.2.2.2.2 _ w2⟩ (g_pre (As := .ref b :: As) X.2 hE hEb) rfl hn hls hst (lv_room hW) hdg hf) hA hL kk
end GN
theorem gz_n {x : Nat} (h : x ≤ 1) : narrow .boolean (.int (nI x)) = .int (nI x) := by
  rcases (show x = 0 ∨ x = 1 by omega) with rfl | rfl <;> decide
/-- whether a view made so of another is turned -/
def v_tn (srt otn : Nat) : Nat := if (if srt = 3 then 1 else 0) = otn then 0 else 1
theorem v_tn_le (srt otn : Nat) : v_tn srt otn ≤ 1 := by
  unfold v_tn
  split <;> split <;> omega
theorem gz_fit {x : Nat} (h : x ≤ 1) : fits .boolean (.int (nI x)) = true := by
  rcases (show x = 0 ∨ x = 1 by omega) with rfl | rfl <;> decide
end
section
/-! the class View, 3: printed by wip/specs/view3.py -/
set_option maxHeartbeats 4000000 in
set_option maxRecDepth 100000 in
theorem c_View_countBefore (l : Launch) (D : va_G) (q : Nat → ClassId) (H : Heap) (vb mb : Nat) (og : Option Nat) (srt bk tn wk f0 t0 : Nat) (hv : va_at D CL (vb, .inr (2, [.ref mb, va_rf og, .int (nI srt), .ref bk, .int (nI tn), .ref wk, .int (nI f0), .int (nI t0)])) H) (htn : tn < 2 ^ 31) (n : Nat) (ks : Nat → List Nat) (vs : Nat → Int32) (chg : Nat) (hm : mA D q H mb n ks vs chg) (hft : f0 ≤ t0) (ht0 : t0 ≤ n) (b : Nat) (ys : List Nat) (hys : kA D q H b ys) (sm : Nat) (hsm : sm < 2 ^ 31) : gC l y_View_countBefore (Cond.code y_View_countBefore b_View_countBefore 7 (some .int) :: gWS) (gR 2 44 0 0) D CL (gY q) (fun _ => True) [.ref vb, .ref b, .int (nI sm)] H (fun v H1 => v = some (.int (nI (v_cnt (v_bef tn sm ks ys) f0 (t0 - f0)))) ∧ H1 = H) 0 0 (fun _ => False) := by
  refine gC.ofW R_View "countBefore" (by decide) rfl rfl ?_
  intro p e s m below meth c hadm X hE hH B hne
  refine g_entry [some (.ref vb), some (.ref b), some (.int (nI sm)), none, none, none, none] rfl rfl (Nat.le_of_ble_eq_true rfl) (fun ls hl => ?_)
  have hm0 := hm
  obtain ⟨ho, hn, ⟨f, g, hf, hfg, hg, hgi, hks⟩, hvv⟩ := hm
  have hm := hm0
  refine lv_iconst (v := nI 0) X.1.1 X.1.2.1 d_View_countBefore_0 (by decide) ?_
  refine g_istn X.1.1 X.1.2.1 hl 3 d_View_countBefore_1 rfl (Nat.le_of_ble_eq_true rfl) rfl (fun ls hl => ?_)
  refine lv_aload_n X.1.1 X.1.2.1 d_View_countBefore_2 rfl (gl_at hl rfl) ?_
  refine g_get X kc_View hv 6 (by decide) lk_View_56 rfl d_View_countBefore_3 ?_
  refine g_ist X.1.1 X.1.2.1 hl 4 d_View_countBefore_6 (Nat.le_of_ble_eq_true rfl) rfl (fun ls hl => ?_)
  have loop8 : ∀ (fu : Nat) (i : Nat) (k : Nat) (locs : List Loc) (ls : Array Slot), t0 - i < fu → (f0 ≤ i) → (i ≤ t0) → (k = v_cnt (v_bef tn sm ks ys) f0 (i - f0)) → (∀ x ∈ locs, (fun _ => False) x.base) → gl ls [some (.ref vb), some (.ref b), some (.int (nI sm)), some (.int (nI k)), some (.int (nI i)), none, none] → W p l e (gR 2 44 0 0) s m ([.ref vb, .ref b, .int (nI sm)] : List Value).toArray below meth c H locs 0 0 (gQ below ([.ref vb, .ref b, .int (nI sm)] : List Value).toArray s (fun v H1 => v = some (.int (nI (v_cnt (v_bef tn sm ks ys) f0 (t0 - f0)))) ∧ H1 = H) 0 0 (fun _ => False)) (F0 m 8 ls []) := by
    intro fu
    induction fu with
    | zero => intro i k locs ls hmu; omega
    | succ fu ih8 =>
      intro i k locs ls hmu8 hi8_0 hi8_1 hi8_2 hL hl
      have hk9 := v_cnt_le (v_bef tn sm ks ys) f0 (i - f0)
      refine lv_iload X.1.1 X.1.2.1 d_View_countBefore_8 (gl_at hl rfl) ?_
      refine lv_aload_n X.1.1 X.1.2.1 d_View_countBefore_10 rfl (gl_at hl rfl) ?_
      refine g_get X kc_View hv 7 (by decide) lk_View_71 rfl d_View_countBefore_11 ?_
      refine gn_ge X.1.1 X.1.2.1 i t0 (by omega) (by omega) d_View_countBefore_14 rfl (fun hc14 => ?_) (fun hc14 => ?_)
      · have e9 : t0 = i := by omega
        subst e9
        refine lv_iload_n X.1.1 X.1.2.1 d_View_countBefore_76 rfl (gl_at hl rfl) ?_
        exact g_iret X B ⟨by rw [hi8_2], rfl⟩ hL d_View_countBefore_77 (by omega) (by omega)
      · have hki := hks i (by omega)
        refine lv_aload_n X.1.1 X.1.2.1 d_View_countBefore_17 rfl (gl_at hl rfl) ?_
        refine g_get X kc_View hv 0 (by decide) lk_View_9 rfl d_View_countBefore_18 ?_
        refine g_get X kc_KeyMap ho 0 (by decide) lk_View_64 rfl d_View_countBefore_21 ?_
        refine lv_iload X.1.1 X.1.2.1 d_View_countBefore_24 (gl_at hl rfl) ?_
        refine g_aald X 3 hf rfl i (by omega) (by decide) (v := .ref (g i)) (by rw [hfg _ (by omega)]; rfl) d_View_countBefore_26 ?_
        refine g_ast X.1.1 X.1.2.1 hl 5 d_View_countBefore_27 (Nat.le_of_ble_eq_true rfl) rfl (fun ls hl => ?_)
        refine lv_aload_n X.1.1 X.1.2.1 d_View_countBefore_29 rfl (gl_at hl rfl) ?_
        refine g_get X kc_View hv 4 (by decide) lk_View_30 rfl d_View_countBefore_30 ?_
        refine gn_eq0 X.1.1 X.1.2.1 tn (by omega) d_View_countBefore_33 rfl (fun hc33 => ?_) (fun hc33 => ?_)
        · refine lv_aload X.1.1 X.1.2.1 d_View_countBefore_45 (gl_at hl rfl) ?_
          refine lv_aload_n X.1.1 X.1.2.1 d_View_countBefore_47 rfl (gl_at hl rfl) ?_
          refine g_cv (A := (fun _ => False)) X gWS_good mw_View_52 kc_Key hki.1 (c_Key_order l D q H (g i) b (ks i) ys hki hys) (fun _ _ _ => trivial) gBlind.tt rfl rfl hl.1 (Nat.le_of_ble_eq_true rfl) rfl rfl ⟨by decide, by decide⟩ ⟨by decide, by decide⟩ d_View_countBefore_48 (fun _ h => h.elim) hL (fun v1 H2 locs hp3 hL => ?_)
          obtain ⟨r, rfl, hr, hHe⟩ := hp3
          rw [hHe]
          have hvo : r.toInt = v_o tn ks ys i := by unfold v_o; rw [if_neg (fun h => h hc33)]; exact hr
          refine g_ist X.1.1 X.1.2.1 hl 6 d_View_countBefore_51 (Nat.le_of_ble_eq_true rfl) rfl (fun ls hl => ?_)
          refine lv_iload X.1.1 X.1.2.1 d_View_countBefore_53 (gl_at hl rfl) ?_
          refine lv_if_lt X.1.1 X.1.2.1 d_View_countBefore_55 rfl (fun hc55 => ?_) (fun hc55 => ?_)
          · refine g_iinc X.1.1 X.1.2.1 (nI (k + 1)) hl 3 d_View_countBefore_67 rfl (nI_1 _) rfl (fun ls hl => ?_)
            refine g_iinc X.1.1 X.1.2.1 (nI (i + 1)) hl 4 d_View_countBefore_70 rfl (nI_1 _) rfl (fun ls hl => ?_)
            refine lv_goto X.1.1 X.1.2.1 d_View_countBefore_73 rfl ?_
            exact ih8 (i + 1) (k + 1) locs ls (by omega) (by omega) (by omega) (by rw [v_cnt_s hi8_0]; first | (rw [v_bef_t1 hvo (by assumption), if_pos rfl]; omega) | (rw [v_bef_t2 hvo (by assumption) (by assumption), if_pos rfl]; omega) | (rw [v_bef_f1 hvo (by assumption) (by assumption), if_neg (by decide)]; omega) | (rw [v_bef_f2 hvo (by assumption) (by assumption), if_neg (by decide)]; omega)) hL (gl_forget (gl_forget hl 5) 6)
          · refine lv_iload_n X.1.1 X.1.2.1 d_View_countBefore_58 rfl (gl_at hl rfl) ?_
            refine gn_eq0 X.1.1 X.1.2.1 sm (by omega) d_View_countBefore_59 rfl (fun hc59 => ?_) (fun hc59 => ?_)
            · refine g_iinc X.1.1 X.1.2.1 (nI (i + 1)) hl 4 d_View_countBefore_70 rfl (nI_1 _) rfl (fun ls hl => ?_)
              refine lv_goto X.1.1 X.1.2.1 d_View_countBefore_73 rfl ?_
              exact ih8 (i + 1) k locs ls (by omega) (by omega) (by omega) (by rw [v_cnt_s hi8_0]; first | (rw [v_bef_t1 hvo (by assumption), if_pos rfl]; omega) | (rw [v_bef_t2 hvo (by assumption) (by assumption), if_pos rfl]; omega) | (rw [v_bef_f1 hvo (by assumption) (by assumption), if_neg (by decide)]; omega) | (rw [v_bef_f2 hvo (by assumption) (by assumption), if_neg (by decide)]; omega)) hL (gl_forget (gl_forget hl 5) 6)
            · refine lv_iload X.1.1 X.1.2.1 d_View_countBefore_62 (gl_at hl rfl) ?_
              refine lv_if_ne X.1.1 X.1.2.1 d_View_countBefore_64 rfl (fun hc64 => ?_) (fun hc64 => ?_)
              · refine g_iinc X.1.1 X.1.2.1 (nI (i + 1)) hl 4 d_View_countBefore_70 rfl (nI_1 _) rfl (fun ls hl => ?_)
                refine lv_goto X.1.1 X.1.2.1 d_View_countBefore_73 rfl ?_
                exact ih8 (i + 1) k locs ls (by omega) (by omega) (by omega) (by rw [v_cnt_s hi8_0]; first | (rw [v_bef_t1 hvo (by assumption), if_pos rfl]; omega) | (rw [v_bef_t2 hvo (by assumption) (by assumption), if_pos rfl]; omega) | (rw [v_bef_f1 hvo (by assumption) (by assumption), if_neg (by decide)]; omega) | (rw [v_bef_f2 hvo (by assumption) (by assumption), if_neg (by decide)]; omega)) hL (gl_forget (gl_forget hl 5) 6)
              · refine g_iinc X.1.1 X.1.2.1 (nI (k + 1)) hl 3 d_View_countBefore_67 rfl (nI_1 _) rfl (fun ls hl => ?_)
                refine g_iinc X.1.1 X.1.2.1 (nI (i + 1)) hl 4 d_View_countBefore_70 rfl (nI_1 _) rfl (fun ls hl => ?_)
                refine lv_goto X.1.1 X.1.2.1 d_View_countBefore_73 rfl ?_
                exact ih8 (i + 1) (k + 1) locs ls (by omega) (by omega) (by omega) (by rw [v_cnt_s hi8_0]; first | (rw [v_bef_t1 hvo (by assumption), if_pos rfl]; omega) | (rw [v_bef_t2 hvo (by assumption) (by assumption), if_pos rfl]; omega) | (rw [v_bef_f1 hvo (by assumption) (by assumption), if_neg (by decide)]; omega) | (rw [v_bef_f2 hvo (by assumption) (by assumption), if_neg (by decide)]; omega)) hL (gl_forget (gl_forget hl 5) 6)
        · refine lv_aload_n X.1.1 X.1.2.1 d_View_countBefore_36 rfl (gl_at hl rfl) ?_
          refine lv_aload X.1.1 X.1.2.1 d_View_countBefore_37 (gl_at hl rfl) ?_
          refine g_cv (A := (fun _ => False)) X gWS_good mw_View_52 kc_Key hys.1 (c_Key_order l D q H b (g i) ys (ks i) hys hki) (fun _ _ _ => trivial) gBlind.tt rfl rfl hl.1 (Nat.le_of_ble_eq_true rfl) rfl rfl ⟨by decide, by decide⟩ ⟨by decide, by decide⟩ d_View_countBefore_39 (fun _ h => h.elim) hL (fun v4 H5 locs hp6 hL => ?_)
          obtain ⟨r, rfl, hr, hHe⟩ := hp6
          rw [hHe]
          have hvo : r.toInt = v_o tn ks ys i := by unfold v_o; rw [if_pos hc33]; exact hr
          refine lv_goto X.1.1 X.1.2.1 d_View_countBefore_42 rfl ?_
          refine g_ist X.1.1 X.1.2.1 hl 6 d_View_countBefore_51 (Nat.le_of_ble_eq_true rfl) rfl (fun ls hl => ?_)
          refine lv_iload X.1.1 X.1.2.1 d_View_countBefore_53 (gl_at hl rfl) ?_
          refine lv_if_lt X.1.1 X.1.2.1 d_View_countBefore_55 rfl (fun hc55 => ?_) (fun hc55 => ?_)
          · refine g_iinc X.1.1 X.1.2.1 (nI (k + 1)) hl 3 d_View_countBefore_67 rfl (nI_1 _) rfl (fun ls hl => ?_)
            refine g_iinc X.1.1 X.1.2.1 (nI (i + 1)) hl 4 d_View_countBefore_70 rfl (nI_1 _) rfl (fun ls hl => ?_)
            refine lv_goto X.1.1 X.1.2.1 d_View_countBefore_73 rfl ?_
            exact ih8 (i + 1) (k + 1) locs ls (by omega) (by omega) (by omega) (by rw [v_cnt_s hi8_0]; first | (rw [v_bef_t1 hvo (by assumption), if_pos rfl]; omega) | (rw [v_bef_t2 hvo (by assumption) (by assumption), if_pos rfl]; omega) | (rw [v_bef_f1 hvo (by assumption) (by assumption), if_neg (by decide)]; omega) | (rw [v_bef_f2 hvo (by assumption) (by assumption), if_neg (by decide)]; omega)) hL (gl_forget (gl_forget hl 5) 6)
          · refine lv_iload_n X.1.1 X.1.2.1 d_View_countBefore_58 rfl (gl_at hl rfl) ?_
            refine gn_eq0 X.1.1 X.1.2.1 sm (by omega) d_View_countBefore_59 rfl (fun hc59 => ?_) (fun hc59 => ?_)
            · refine g_iinc X.1.1 X.1.2.1 (nI (i + 1)) hl 4 d_View_countBefore_70 rfl (nI_1 _) rfl (fun ls hl => ?_)
              refine lv_goto X.1.1 X.1.2.1 d_View_countBefore_73 rfl ?_
              exact ih8 (i + 1) k locs ls (by omega) (by omega) (by omega) (by rw [v_cnt_s hi8_0]; first | (rw [v_bef_t1 hvo (by assumption), if_pos rfl]; omega) | (rw [v_bef_t2 hvo (by assumption) (by assumption), if_pos rfl]; omega) | (rw [v_bef_f1 hvo (by assumption) (by assumption), if_neg (by decide)]; omega) | (rw [v_bef_f2 hvo (by assumption) (by assumption), if_neg (by decide)]; omega)) hL (gl_forget (gl_forget hl 5) 6)
            · refine lv_iload X.1.1 X.1.2.1 d_View_countBefore_62 (gl_at hl rfl) ?_
              refine lv_if_ne X.1.1 X.1.2.1 d_View_countBefore_64 rfl (fun hc64 => ?_) (fun hc64 => ?_)
              · refine g_iinc X.1.1 X.1.2.1 (nI (i + 1)) hl 4 d_View_countBefore_70 rfl (nI_1 _) rfl (fun ls hl => ?_)
                refine lv_goto X.1.1 X.1.2.1 d_View_countBefore_73 rfl ?_
                exact ih8 (i + 1) k locs ls (by omega) (by omega) (by omega) (by rw [v_cnt_s hi8_0]; first | (rw [v_bef_t1 hvo (by assumption), if_pos rfl]; omega) | (rw [v_bef_t2 hvo (by assumption) (by assumption), if_pos rfl]; omega) | (rw [v_bef_f1 hvo (by assumption) (by assumption), if_neg (by decide)]; omega) | (rw [v_bef_f2 hvo (by assumption) (by assumption), if_neg (by decide)]; omega)) hL (gl_forget (gl_forget hl 5) 6)
              · refine g_iinc X.1.1 X.1.2.1 (nI (k + 1)) hl 3 d_View_countBefore_67 rfl (nI_1 _) rfl (fun ls hl => ?_)
                refine g_iinc X.1.1 X.1.2.1 (nI (i + 1)) hl 4 d_View_countBefore_70 rfl (nI_1 _) rfl (fun ls hl => ?_)
                refine lv_goto X.1.1 X.1.2.1 d_View_countBefore_73 rfl ?_
                exact ih8 (i + 1) (k + 1) locs ls (by omega) (by omega) (by omega) (by rw [v_cnt_s hi8_0]; first | (rw [v_bef_t1 hvo (by assumption), if_pos rfl]; omega) | (rw [v_bef_t2 hvo (by assumption) (by assumption), if_pos rfl]; omega) | (rw [v_bef_f1 hvo (by assumption) (by assumption), if_neg (by decide)]; omega) | (rw [v_bef_f2 hvo (by assumption) (by assumption), if_neg (by decide)]; omega)) hL (gl_forget (gl_forget hl 5) 6)
  exact loop8 _ f0 0 [] ls (Nat.lt_succ_self _) (Nat.le_refl _) hft (by rw [Nat.sub_self]; rfl) (fun _ h => by cases h) hl

set_option maxHeartbeats 4000000 in
set_option maxRecDepth 100000 in
theorem c_View_rankOfLongestStart (l : Launch) (D : va_G) (q : Nat → ClassId) (H : Heap) (vb mb : Nat) (og : Option Nat) (srt bk tn wk f0 t0 : Nat) (hv : va_at D CL (vb, .inr (2, [.ref mb, va_rf og, .int (nI srt), .ref bk, .int (nI tn), .ref wk, .int (nI f0), .int (nI t0)])) H) (htn : tn < 2 ^ 31) (n : Nat) (ks : Nat → List Nat) (vs : Nat → Int32) (chg : Nat) (hm : mA D q H mb n ks vs chg) (hft : f0 ≤ t0) (ht0 : t0 ≤ n) (b : Nat) (ys : List Nat) (hys : kA D q H b ys) : gC l y_View_rankOfLongestStart (Cond.code y_View_rankOfLongestStart b_View_rankOfLongestStart 6 (some .int) :: gWS) (gR 2 43 0 0) D CL (gY q) (fun _ => True) [.ref vb, .ref b] H (fun v H1 => (∃ w, v = some (.int (gm1 w)) ∧ v_long tn f0 t0 ks ys (t0 - f0) w) ∧ H1 = H) 0 0 (fun _ => False) := by
  refine gC.ofW R_View "rankOfLongestStart" (by decide) rfl rfl ?_
  intro p e s m below meth c hadm X hE hH B hne
  refine g_entry [some (.ref vb), some (.ref b), none, none, none, none] rfl rfl (Nat.le_of_ble_eq_true rfl) (fun ls hl => ?_)
  have hm0 := hm
  obtain ⟨ho, hn, ⟨f, g, hf, hfg, hg, hgi, hks⟩, hvv⟩ := hm
  have hm := hm0
  refine lv_iconst (v := (-1)) X.1.1 X.1.2.1 d_View_rankOfLongestStart_0 (by decide) ?_
  refine g_istn X.1.1 X.1.2.1 hl 2 d_View_rankOfLongestStart_1 rfl (Nat.le_of_ble_eq_true rfl) rfl (fun ls hl => ?_)
  refine lv_iconst (v := (-1)) X.1.1 X.1.2.1 d_View_rankOfLongestStart_2 (by decide) ?_
  refine g_istn X.1.1 X.1.2.1 hl 3 d_View_rankOfLongestStart_3 rfl (Nat.le_of_ble_eq_true rfl) rfl (fun ls hl => ?_)
  refine lv_iconst (v := nI 0) X.1.1 X.1.2.1 d_View_rankOfLongestStart_4 (by decide) ?_
  refine g_ist X.1.1 X.1.2.1 hl 4 d_View_rankOfLongestStart_5 (Nat.le_of_ble_eq_true rfl) rfl (fun ls hl => ?_)
  have loop7 : ∀ (fu : Nat) (i : Nat) (w : Option Nat) (locs : List Loc) (ls : Array Slot), t0 - f0 - i < fu → (i ≤ t0 - f0) → (v_long tn f0 t0 ks ys i w) → (∀ x ∈ locs, (fun _ => False) x.base) → gl ls [some (.ref vb), some (.ref b), some (.int (gm1 w)), some (.int (gm1 (w.map (fun r => (ks (v_pl tn f0 t0 r)).length)))), some (.int (nI i)), none] → W p l e (gR 2 43 0 0) s m ([.ref vb, .ref b] : List Value).toArray below meth c H locs 0 0 (gQ below ([.ref vb, .ref b] : List Value).toArray s (fun v H1 => (∃ w, v = some (.int (gm1 w)) ∧ v_long tn f0 t0 ks ys (t0 - f0) w) ∧ H1 = H) 0 0 (fun _ => False)) (F0 m 7 ls []) := by
    intro fu
    induction fu with
    | zero => intro i w locs ls hmu; omega
    | succ fu ih7 =>
      intro i w locs ls hmu7 hi7_0 hi7_1 hL hl
      refine lv_iload X.1.1 X.1.2.1 d_View_rankOfLongestStart_7 (gl_at hl rfl) ?_
      refine lv_aload_n X.1.1 X.1.2.1 d_View_rankOfLongestStart_9 rfl (gl_at hl rfl) ?_
      refine g_cv (A := (fun _ => False)) X gWS_good mw_View_81 kc_View hv (c_View_count l D q H vb mb og srt bk tn wk f0 t0 hv hft) (fun _ _ _ => trivial) gBlind.tt rfl rfl hl.1 (Nat.le_of_ble_eq_true rfl) rfl rfl ⟨by decide, by decide⟩ ⟨by decide, by decide⟩ d_View_rankOfLongestStart_10 (fun _ h => h.elim) hL (fun v1 H2 locs hp3 hL => ?_)
      obtain ⟨rfl, hHe⟩ := hp3
      rw [hHe]
      refine gn_ge X.1.1 X.1.2.1 i (t0 - f0) (by omega) (by omega) d_View_rankOfLongestStart_13 rfl (fun hc13 => ?_) (fun hc13 => ?_)
      · have e9 : i = t0 - f0 := by omega
        refine lv_iload_n X.1.1 X.1.2.1 d_View_rankOfLongestStart_65 rfl (gl_at hl rfl) ?_
        exact g_iret X B ⟨⟨w, rfl, by rw [← e9]; exact hi7_1⟩, rfl⟩ hL d_View_rankOfLongestStart_66 (by omega) (by omega)
      · refine lv_aload_n X.1.1 X.1.2.1 d_View_rankOfLongestStart_16 rfl (gl_at hl rfl) ?_
        refine g_get X kc_View hv 0 (by decide) lk_View_9 rfl d_View_rankOfLongestStart_17 ?_
        refine g_get X kc_KeyMap ho 0 (by decide) lk_View_64 rfl d_View_rankOfLongestStart_20 ?_
        refine lv_aload_n X.1.1 X.1.2.1 d_View_rankOfLongestStart_23 rfl (gl_at hl rfl) ?_
        refine lv_iload X.1.1 X.1.2.1 d_View_rankOfLongestStart_24 (gl_at hl rfl) ?_
        refine g_cv (A := (fun _ => False)) X gWS_good mw_View_87 kc_View hv (c_View_placeRanked l D q H vb mb og srt bk tn wk f0 t0 hv i htn (by omega)) (fun _ _ _ => trivial) gBlind.tt rfl rfl hl.1 (Nat.le_of_ble_eq_true rfl) rfl rfl ⟨by decide, by decide⟩ ⟨by decide, by decide⟩ d_View_rankOfLongestStart_26 (fun _ h => h.elim) hL (fun v4 H5 locs hp6 hL => ?_)
        obtain ⟨rfl, hHe⟩ := hp6
        rw [hHe]
        refine g_top (nI (v_pl tn f0 t0 i)) rfl ?_
        have hpl := v_pl_in (tn := tn) (show f0 + i < t0 by omega)
        have hki := hks (v_pl tn f0 t0 i) (by omega)
        have hli := hki.2.2.1
        have hkc := hki.1
        refine g_aald X 3 hf rfl (v_pl tn f0 t0 i) (by omega) (by decide) (v := .ref (g (v_pl tn f0 t0 i))) (by rw [hfg _ (by omega)]; rfl) d_View_rankOfLongestStart_29 ?_
        refine g_ast X.1.1 X.1.2.1 hl 5 d_View_rankOfLongestStart_30 (Nat.le_of_ble_eq_true rfl) rfl (fun ls hl => ?_)
        refine lv_aload X.1.1 X.1.2.1 d_View_rankOfLongestStart_32 (gl_at hl rfl) ?_
        refine g_get X kc_Key hkc 1 (by decide) lk_View_91 rfl d_View_rankOfLongestStart_34 ?_
        refine lv_iload_n X.1.1 X.1.2.1 d_View_rankOfLongestStart_37 rfl (gl_at hl rfl) ?_
        refine lv_icmp_le X.1.1 X.1.2.1 d_View_rankOfLongestStart_38 rfl (fun hc38 => ?_) (fun hc38 => ?_)
        · refine g_iinc X.1.1 X.1.2.1 (nI (i + 1)) hl 4 d_View_rankOfLongestStart_59 rfl (nI_1 _) rfl (fun ls hl => ?_)
          refine lv_goto X.1.1 X.1.2.1 d_View_rankOfLongestStart_62 rfl ?_
          exact ih7 (i + 1) w locs ls (by omega) (by omega) (v_long_keep hi7_1 (fun h => by
            cases w with
            | none => exact absurd hc38 (gm1_le_none (by omega))
            | some r => exact ⟨r, rfl, (gm1_le_some (by omega) (by have h7 := (hks (v_pl tn f0 t0 r) (by have h8 := v_pl_in (tn := tn) (show f0 + r < t0 by have h6 := hi7_1.1; omega); omega)).2.2.1; omega)).mp hc38⟩)) hL (gl_forget hl 5)
        · refine lv_aload_n X.1.1 X.1.2.1 d_View_rankOfLongestStart_41 rfl (gl_at hl rfl) ?_
          refine lv_aload X.1.1 X.1.2.1 d_View_rankOfLongestStart_42 (gl_at hl rfl) ?_
          refine g_cv (A := (fun _ => False)) X gWS_good mw_View_49 kc_Key hys.1 (c_Key_beginsWith l D q H b (g (v_pl tn f0 t0 i)) ys (ks (v_pl tn f0 t0 i)) hys hki) (fun _ _ _ => trivial) gBlind.tt rfl rfl hl.1 (Nat.le_of_ble_eq_true rfl) rfl rfl ⟨by decide, by decide⟩ ⟨by decide, by decide⟩ d_View_rankOfLongestStart_44 (fun _ h => h.elim) hL (fun v7 H8 locs hp9 hL => ?_)
          obtain ⟨rfl, hHe⟩ := hp9
          rw [hHe]
          refine lv_if_eq X.1.1 X.1.2.1 d_View_rankOfLongestStart_47 rfl (fun hc47 => ?_) (fun hc47 => ?_)
          · replace hc47 := gz_f hc47
            refine g_iinc X.1.1 X.1.2.1 (nI (i + 1)) hl 4 d_View_rankOfLongestStart_59 rfl (nI_1 _) rfl (fun ls hl => ?_)
            refine lv_goto X.1.1 X.1.2.1 d_View_rankOfLongestStart_62 rfl ?_
            exact ih7 (i + 1) w locs ls (by omega) (by omega) (v_long_keep hi7_1 (fun h => absurd h hc47)) hL (gl_forget hl 5)
          · replace hc47 := gz_t hc47
            refine lv_aload X.1.1 X.1.2.1 d_View_rankOfLongestStart_50 (gl_at hl rfl) ?_
            refine g_get X kc_Key hkc 1 (by decide) lk_View_91 rfl d_View_rankOfLongestStart_52 ?_
            refine g_istn X.1.1 X.1.2.1 hl 3 d_View_rankOfLongestStart_55 rfl (Nat.le_of_ble_eq_true rfl) rfl (fun ls hl => ?_)
            refine lv_iload X.1.1 X.1.2.1 d_View_rankOfLongestStart_56 (gl_at hl rfl) ?_
            refine g_istn X.1.1 X.1.2.1 hl 2 d_View_rankOfLongestStart_58 rfl (Nat.le_of_ble_eq_true rfl) rfl (fun ls hl => ?_)
            refine g_iinc X.1.1 X.1.2.1 (nI (i + 1)) hl 4 d_View_rankOfLongestStart_59 rfl (nI_1 _) rfl (fun ls hl => ?_)
            refine lv_goto X.1.1 X.1.2.1 d_View_rankOfLongestStart_62 rfl ?_
            exact ih7 (i + 1) (some i) locs ls (by omega) (by omega) (v_long_new hi7_1 hc47 (fun r hr => by
              subst hr
              have h5 : ¬ nI (ks (v_pl tn f0 t0 i)).length ≤ gm1 (some (ks (v_pl tn f0 t0 r)).length) := hc38
              have h4 := mt (gm1_le_some (by omega) (by have h7 := (hks (v_pl tn f0 t0 r) (by have h8 := v_pl_in (tn := tn) (show f0 + r < t0 by have h6 := hi7_1.1; omega); omega)).2.2.1; omega)).mpr h5
              omega)) hL (gl_forget hl 5)
  exact loop7 _ 0 none [] ls (Nat.lt_succ_self _) (Nat.zero_le _) v_long_0 (fun _ h => by cases h) hl

set_option maxHeartbeats 4000000 in
set_option maxRecDepth 100000 in
theorem c_View_rankBy (l : Launch) (D : va_G) (q : Nat → ClassId) (H : Heap) (vb mb : Nat) (og : Option Nat) (srt bk tn wk f0 t0 : Nat) (hv : va_at D CL (vb, .inr (2, [.ref mb, va_rf og, .int (nI srt), .ref bk, .int (nI tn), .ref wk, .int (nI f0), .int (nI t0)])) H) (htn : tn < 2 ^ 31) (n : Nat) (ks : Nat → List Nat) (vs : Nat → Int32) (chg : Nat) (hm : mA D q H mb n ks vs chg) (hft : f0 ≤ t0) (ht0 : t0 ≤ n) (b : Nat) (ys : List Nat) (hys : kA D q H b ys) (h : Nat) (hh : h ≤ 6) : gC l y_View_rankBy (Cond.code y_View_rankBy b_View_rankBy 3 (some .int) :: gWS) (gR 3 70 0 0) D CL (gY q) (fun _ => True) [.ref vb, .int (nI h), .ref b] H (fun v H1 => (∃ r : Int32, v = some (.int r) ∧ v_rk tn f0 t0 ks ys h r) ∧ H1 = H) 0 0 (fun _ => False) := by
  refine gC.ofW R_View "rankBy" (by decide) rfl rfl ?_
  intro p e s m below meth c hadm X hE hH B hne
  refine g_entry [some (.ref vb), some (.int (nI h)), some (.ref b)] rfl rfl (Nat.le_of_ble_eq_true rfl) (fun ls hl => ?_)
  have hm0 := hm
  obtain ⟨ho, hn, ⟨f, g, hf, hfg, hg, hgi, hks⟩, hvv⟩ := hm
  have hm := hm0
  refine lv_iload_n X.1.1 X.1.2.1 d_View_rankBy_0 rfl (gl_at hl rfl) ?_
  rcases (show h = 0 ∨ h = 1 ∨ h = 2 ∨ h = 3 ∨ h = 4 ∨ h = 5 ∨ 6 ≤ h by omega) with hs1 | hs1 | hs1 | hs1 | hs1 | hs1 | hs1
  · subst hs1
    refine lv_tableIn X.1.1 X.1.2.1 d_View_rankBy_1 (x := nI 0) (by decide) (by decide) rfl rfl ?_
    refine lv_aload_n X.1.1 X.1.2.1 d_View_rankBy_40 rfl (gl_at hl rfl) ?_
    refine lv_aload_n X.1.1 X.1.2.1 d_View_rankBy_41 rfl (gl_at hl rfl) ?_
    refine lv_iconst (v := nI 1) X.1.1 X.1.2.1 d_View_rankBy_42 (by decide) ?_
    refine g_cv (A := (fun _ => False)) X gWS_good mw_View_77 kc_View hv (c_View_countBefore l D q H vb mb og srt bk tn wk f0 t0 hv htn n ks vs chg hm hft ht0 b ys hys 1 (by decide)) (fun _ _ _ => trivial) gBlind.tt rfl rfl hl.1 (Nat.le_of_ble_eq_true rfl) rfl rfl ⟨by decide, by decide⟩ ⟨by decide, by decide⟩ d_View_rankBy_43 (fun _ h => h.elim) (fun _ h => by cases h) (fun v1 H2 locs hp3 hL => ?_)
    obtain ⟨rfl, hHe⟩ := hp3
    rw [hHe]
    refine lv_iconst (v := nI 1) X.1.1 X.1.2.1 d_View_rankBy_46 (by decide) ?_
    refine lv_isub X.1.1 X.1.2.1 d_View_rankBy_47 ?_
    exact g_iret X B ⟨⟨_, rfl, rfl⟩, rfl⟩ hL d_View_rankBy_48 (by omega) (by omega)
  · subst hs1
    refine lv_tableIn X.1.1 X.1.2.1 d_View_rankBy_1 (x := nI 1) (by decide) (by decide) rfl rfl ?_
    refine lv_aload_n X.1.1 X.1.2.1 d_View_rankBy_49 rfl (gl_at hl rfl) ?_
    refine lv_aload_n X.1.1 X.1.2.1 d_View_rankBy_50 rfl (gl_at hl rfl) ?_
    refine lv_iconst (v := nI 0) X.1.1 X.1.2.1 d_View_rankBy_51 (by decide) ?_
    refine g_cv (A := (fun _ => False)) X gWS_good mw_View_77 kc_View hv (c_View_countBefore l D q H vb mb og srt bk tn wk f0 t0 hv htn n ks vs chg hm hft ht0 b ys hys 0 (by decide)) (fun _ _ _ => trivial) gBlind.tt rfl rfl hl.1 (Nat.le_of_ble_eq_true rfl) rfl rfl ⟨by decide, by decide⟩ ⟨by decide, by decide⟩ d_View_rankBy_52 (fun _ h => h.elim) (fun _ h => by cases h) (fun v4 H5 locs hp6 hL => ?_)
    obtain ⟨rfl, hHe⟩ := hp6
    rw [hHe]
    refine lv_iconst (v := nI 1) X.1.1 X.1.2.1 d_View_rankBy_55 (by decide) ?_
    refine lv_isub X.1.1 X.1.2.1 d_View_rankBy_56 ?_
    exact g_iret X B ⟨⟨_, rfl, rfl⟩, rfl⟩ hL d_View_rankBy_57 (by omega) (by omega)
  · subst hs1
    refine lv_tableIn X.1.1 X.1.2.1 d_View_rankBy_1 (x := nI 2) (by decide) (by decide) rfl rfl ?_
    refine lv_aload_n X.1.1 X.1.2.1 d_View_rankBy_58 rfl (gl_at hl rfl) ?_
    refine lv_aload_n X.1.1 X.1.2.1 d_View_rankBy_59 rfl (gl_at hl rfl) ?_
    refine lv_iconst (v := nI 0) X.1.1 X.1.2.1 d_View_rankBy_60 (by decide) ?_
    refine g_cv (A := (fun _ => False)) X gWS_good mw_View_77 kc_View hv (c_View_countBefore l D q H vb mb og srt bk tn wk f0 t0 hv htn n ks vs chg hm hft ht0 b ys hys 0 (by decide)) (fun _ _ _ => trivial) gBlind.tt rfl rfl hl.1 (Nat.le_of_ble_eq_true rfl) rfl rfl ⟨by decide, by decide⟩ ⟨by decide, by decide⟩ d_View_rankBy_61 (fun _ h => h.elim) (fun _ h => by cases h) (fun v7 H8 locs hp9 hL => ?_)
    obtain ⟨rfl, hHe⟩ := hp9
    rw [hHe]
    exact g_iret X B ⟨⟨_, rfl, rfl⟩, rfl⟩ hL d_View_rankBy_64 (by omega) (by omega)
  · subst hs1
    refine lv_tableIn X.1.1 X.1.2.1 d_View_rankBy_1 (x := nI 3) (by decide) (by decide) rfl rfl ?_
    refine lv_aload_n X.1.1 X.1.2.1 d_View_rankBy_65 rfl (gl_at hl rfl) ?_
    refine lv_aload_n X.1.1 X.1.2.1 d_View_rankBy_66 rfl (gl_at hl rfl) ?_
    refine lv_iconst (v := nI 1) X.1.1 X.1.2.1 d_View_rankBy_67 (by decide) ?_
    refine g_cv (A := (fun _ => False)) X gWS_good mw_View_77 kc_View hv (c_View_countBefore l D q H vb mb og srt bk tn wk f0 t0 hv htn n ks vs chg hm hft ht0 b ys hys 1 (by decide)) (fun _ _ _ => trivial) gBlind.tt rfl rfl hl.1 (Nat.le_of_ble_eq_true rfl) rfl rfl ⟨by decide, by decide⟩ ⟨by decide, by decide⟩ d_View_rankBy_68 (fun _ h => h.elim) (fun _ h => by cases h) (fun v10 H11 locs hp12 hL => ?_)
    obtain ⟨rfl, hHe⟩ := hp12
    rw [hHe]
    exact g_iret X B ⟨⟨_, rfl, rfl⟩, rfl⟩ hL d_View_rankBy_71 (by omega) (by omega)
  · subst hs1
    refine lv_tableIn X.1.1 X.1.2.1 d_View_rankBy_1 (x := nI 4) (by decide) (by decide) rfl rfl ?_
    refine lv_iconst (v := nI 0) X.1.1 X.1.2.1 d_View_rankBy_72 (by decide) ?_
    exact g_iret X B ⟨⟨_, rfl, rfl⟩, rfl⟩ (fun _ h => by cases h) d_View_rankBy_73 (by omega) (by omega)
  · subst hs1
    refine lv_tableIn X.1.1 X.1.2.1 d_View_rankBy_1 (x := nI 5) (by decide) (by decide) rfl rfl ?_
    refine lv_aload_n X.1.1 X.1.2.1 d_View_rankBy_74 rfl (gl_at hl rfl) ?_
    refine g_cv (A := (fun _ => False)) X gWS_good mw_View_81 kc_View hv (c_View_count l D q H vb mb og srt bk tn wk f0 t0 hv hft) (fun _ _ _ => trivial) gBlind.tt rfl rfl hl.1 (Nat.le_of_ble_eq_true rfl) rfl rfl ⟨by decide, by decide⟩ ⟨by decide, by decide⟩ d_View_rankBy_75 (fun _ h => h.elim) (fun _ h => by cases h) (fun v13 H14 locs hp15 hL => ?_)
    obtain ⟨rfl, hHe⟩ := hp15
    rw [hHe]
    refine lv_iconst (v := nI 1) X.1.1 X.1.2.1 d_View_rankBy_78 (by decide) ?_
    refine lv_isub X.1.1 X.1.2.1 d_View_rankBy_79 ?_
    exact g_iret X B ⟨⟨_, rfl, rfl⟩, rfl⟩ hL d_View_rankBy_80 (by omega) (by omega)
  · refine lv_tableOut X.1.1 X.1.2.1 d_View_rankBy_1 (Or.inr (by rw [nI_toInt (by omega)]; omega)) rfl ?_
    have e6 : 6 = h := by omega
    subst e6
    refine lv_aload_n X.1.1 X.1.2.1 d_View_rankBy_81 rfl (gl_at hl rfl) ?_
    refine lv_aload_n X.1.1 X.1.2.1 d_View_rankBy_82 rfl (gl_at hl rfl) ?_
    refine g_cv (A := (fun _ => False)) X gWS_good mw_View_84 kc_View hv (c_View_rankOfLongestStart l D q H vb mb og srt bk tn wk f0 t0 hv htn n ks vs chg hm hft ht0 b ys hys) (fun _ _ _ => trivial) gBlind.tt rfl rfl hl.1 (Nat.le_of_ble_eq_true rfl) rfl rfl ⟨by decide, by decide⟩ ⟨by decide, by decide⟩ d_View_rankBy_83 (fun _ h => h.elim) (fun _ h => by cases h) (fun v16 H17 locs hp18 hL => ?_)
    obtain ⟨⟨w, rfl, hw⟩, hHe⟩ := hp18
    rw [hHe]
    exact g_iret X B ⟨⟨_, rfl, ⟨w, rfl, hw⟩⟩, rfl⟩ hL d_View_rankBy_86 (by omega) (by omega)

set_option maxHeartbeats 4000000 in
set_option maxRecDepth 100000 in
theorem c_View_placeOf (l : Launch) (D : va_G) (q : Nat → ClassId) (H : Heap) (v : Nat) (ad : Nat → Nat) (org : Nat → Option Nat) (srt bk : Nat → Nat) (bt : Nat → List Nat) (hV : vV D q H v ad org srt bk bt) (mb tn wk f0 t0 : Nat) (hv : va_at D CL (ad v, .inr (2, [.ref mb, va_rf ((org v).map ad), .int (nI (srt v)), .ref (bk v), .int (nI tn), .ref wk, .int (nI f0), .int (nI t0)])) H) (n : Nat) (ks : Nat → List Nat) (vs : Nat → Int32) (chg : Nat) (hm : mA D q H mb n ks vs chg) (hs : mS n ks) (b : Nat) (xs : List Nat) (hxs : kA D q H b xs) : gC l y_View_placeOf (Cond.code y_View_placeOf b_View_placeOf 2 (some .int) :: gWS) (gR 4 88 0 0) D CL (gY q) (fun _ => True) [.ref (ad v), .ref b] H (fun v1 H1 => (∃ w, v1 = some (.int (gm1 w)) ∧ (match w with | none => ¬ v_in org srt bt v xs = true ∨ ∀ j, j < n → ks j ≠ xs | some r => v_in org srt bt v xs = true ∧ r < n ∧ ks r = xs)) ∧ H1 = H) 0 0 (fun _ => False) := by
  refine gC.ofW R_View "placeOf" (by decide) rfl rfl ?_
  intro p e s m below meth c hadm X hE hH B hne
  refine g_entry [some (.ref (ad v)), some (.ref b)] rfl rfl (Nat.le_of_ble_eq_true rfl) (fun ls hl => ?_)
  have hm0 := hm
  obtain ⟨ho, hn, ⟨f, g, hf, hfg, hg, hgi, hks⟩, hvv⟩ := hm
  have hm := hm0
  refine lv_aload_n X.1.1 X.1.2.1 d_View_placeOf_0 rfl (gl_at hl rfl) ?_
  refine lv_aload_n X.1.1 X.1.2.1 d_View_placeOf_1 rfl (gl_at hl rfl) ?_
  refine g_cv (A := (fun _ => False)) X gWS_good mw_View_68 kc_View hv (c_View_admits l D q H v ad org srt bk bt hV b xs hxs) (fun _ _ _ => trivial) gBlind.tt rfl rfl hl.1 (Nat.le_of_ble_eq_true rfl) rfl rfl ⟨by decide, by decide⟩ ⟨by decide, by decide⟩ d_View_placeOf_2 (fun _ h => h.elim) (fun _ h => by cases h) (fun v1 H2 locs hp3 hL => ?_)
  obtain ⟨rfl, hHe⟩ := hp3
  rw [hHe]
  refine lv_if_eq X.1.1 X.1.2.1 d_View_placeOf_5 rfl (fun hc5 => ?_) (fun hc5 => ?_)
  · replace hc5 := gz_f hc5
    refine lv_iconst (v := (-1)) X.1.1 X.1.2.1 d_View_placeOf_19 (by decide) ?_
    exact g_iret X B ⟨⟨none, rfl, Or.inl hc5⟩, rfl⟩ hL d_View_placeOf_20 (by omega) (by omega)
  · replace hc5 := gz_t hc5
    refine lv_aload_n X.1.1 X.1.2.1 d_View_placeOf_8 rfl (gl_at hl rfl) ?_
    refine g_get X kc_View hv 0 (by decide) lk_View_9 rfl d_View_placeOf_9 ?_
    refine lv_aload_n X.1.1 X.1.2.1 d_View_placeOf_12 rfl (gl_at hl rfl) ?_
    refine g_cv (A := (fun _ => False)) X gWS_good mw_View_74 kc_KeyMap ho (c_KeyMap_placeOf l D q H mb n ks vs chg hm hs b xs hxs) (fun _ _ _ => trivial) gBlind.tt rfl rfl hl.1 (Nat.le_of_ble_eq_true rfl) rfl rfl ⟨by decide, by decide⟩ ⟨by decide, by decide⟩ d_View_placeOf_13 (fun _ h => h.elim) hL (fun v4 H5 locs hp6 hL => ?_)
    obtain ⟨hres, hHe⟩ := hp6
    rw [hHe]
    obtain ⟨w, rfl, hw⟩ : ∃ w, v4 = some (.int (gm1 w)) ∧ (match w with | none => ∀ j, j < n → ks j ≠ xs | some r => r < n ∧ ks r = xs) := by
      rcases hres with ⟨r, h1, h2, h3⟩ | ⟨h1, h2⟩
      · exact ⟨some r, h2, h1, h3⟩
      · exact ⟨none, h1, h2⟩
    refine lv_goto X.1.1 X.1.2.1 d_View_placeOf_16 rfl ?_
    exact g_iret X B ⟨⟨w, rfl, by cases w with
      | none => exact Or.inr hw
      | some r => exact ⟨hc5, hw⟩⟩, rfl⟩ hL d_View_placeOf_20 (by omega) (by omega)
end
section
/-! the class View, 4: printed by wip/specs/view4.py -/
set_option maxHeartbeats 4000000 in
set_option maxRecDepth 100000 in
theorem c_View_init (l : Launch) (D : va_G) (q : Nat → ClassId) (H : Heap) (vb mb z : Nat) (hz : H.size = z) (hvz : vb < z) (hv : va_at D CL (vb, .inr (2, [.null, .null, .int 0, .null, .int 0, .null, .int 0, .int 0])) H) : gC l y_View_init (Cond.code y_View_init b_View_init 2 none :: gWS) (gR 2 32 4 14) D CL (gY q) (fun U => va_Nw (.methodLinkNest R_View 36 y_Walker_init "KeyHall") U) [.ref vb, .ref mb] H (fun v H1 => v = none ∧ va_at D CL (vb, .inr (2, [.ref mb, .null, .int (nI 4), .ref z, .int (nI 0), .ref (z + 2), .int 0, .int 0])) H1 ∧ kA D q H1 z [] ∧ va_at D CL (z + 2, .inr (3, [.int 0, .int 0, .int 0, .int 0])) H1 ∧ H1.size = z + 3 ∧ ∀ p : Nat, p < z → p ≠ vb → H1[p]? = H[p]?) 4 14 (fun p => p = vb ∨ z ≤ p) := by
  refine gC.ofW R_View "<init>" (by decide) rfl rfl ?_
  intro p e s m below meth c hadm X hE hH B hne
  refine g_entry [some (.ref vb), some (.ref mb)] rfl rfl (Nat.le_of_ble_eq_true rfl) (fun ls hl => ?_)
  refine lv_aload_n X.1.1 X.1.2.1 d_View_init_0 rfl (gl_at hl rfl) ?_
  refine W.objInit X.1.1 X.1.2.1 X.1.2.2.2.1 (X.1.2.2.2.2 _ mo_View_3.1) (X.1.2.2.2.2 _ mo_View_3.2.1) (X.1.2.2.2.2 _ mo_View_3.2.2) rfl (by rw [X.1.2.2.1]; exact hl.1) rfl d_View_init_1 (Nat.le_of_ble_eq_true rfl) (Nat.le_of_ble_eq_true rfl) ?_
  refine W.eq (g2 := F0 m 4 ls []) rfl ?_
  refine lv_aload_n X.1.1 X.1.2.1 d_View_init_4 rfl (gl_at hl rfl) ?_
  refine lv_aload_n X.1.1 X.1.2.1 d_View_init_5 rfl (gl_at hl rfl) ?_
  refine g_putF (A := (fun p => p = vb ∨ z ≤ p)) X B.2.2 kc_View hv 0 (by decide) lk_View_9 rfl rfl rfl rfl (Nat.le_of_ble_eq_true rfl) d_View_init_6 (show _ ∨ _ by omega) (fun _ h => by cases h) (fun H1 locs h2 z3 oq4 hL => ?_)
  have hz5 := z3.trans hz
  refine lv_aload_n X.1.1 X.1.2.1 d_View_init_9 rfl (gl_at hl rfl) ?_
  refine lv_null X.1.1 X.1.2.1 d_View_init_10 ?_
  refine g_putF (A := (fun p => p = vb ∨ z ≤ p)) X B.2.2 kc_View h2 1 (by decide) lk_View_15 rfl rfl rfl rfl (Nat.le_of_ble_eq_true rfl) d_View_init_11 (show _ ∨ _ by omega) hL (fun H6 locs h7 z8 oq9 hL => ?_)
  have hz10 := z8.trans hz5
  refine lv_aload_n X.1.1 X.1.2.1 d_View_init_14 rfl (gl_at hl rfl) ?_
  refine lv_iconst (v := nI 4) X.1.1 X.1.2.1 d_View_init_15 (by decide) ?_
  refine g_putF (A := (fun p => p = vb ∨ z ≤ p)) X B.2.2 kc_View h7 2 (by decide) lk_View_19 rfl rfl rfl rfl (Nat.le_of_ble_eq_true rfl) d_View_init_16 (show _ ∨ _ by omega) hL (fun H11 locs h12 z13 oq14 hL => ?_)
  have hz15 := z13.trans hz10
  refine lv_aload_n X.1.1 X.1.2.1 d_View_init_19 rfl (gl_at hl rfl) ?_
  refine g_new X kc_Key lk_View_23 ki_Key.1 ki_Key.2 (fs := [.null, .int 0]) kf_Key (Nat.le_of_ble_eq_true rfl) (Nat.le_of_ble_eq_true rfl) d_View_init_20 (fun H16 h17 z18 o19 => ?_)
  rw [hz15] at h17 z18 o19 ⊢
  replace h12 := h12.kept (o19 _ (by omega))
  refine lv_dup X.1.1 X.1.2.1 d_View_init_23 rfl ?_
  refine g_ci (A := (fun p => p = vb ∨ z ≤ p)) X gWS_good mw_View_25 (c_Key_init l D q H16 (z) (by omega) h17) (fun _ _ _ => trivial) gBlind.tt rfl rfl hl.1 (Nat.le_of_ble_eq_true rfl) rfl rfl ⟨by decide, by decide⟩ ⟨by decide, by decide⟩ d_View_init_24 (fun p (h : _ ≤ p) => show _ ∨ _ by omega) hL (fun v20 H21 locs hp22 hL => ?_)
  obtain ⟨rfl, hkz, hzk, frk⟩ := hp22
  replace h12 := va_at.kept h12 (frk _ (by omega))
  refine g_putF (A := (fun p => p = vb ∨ z ≤ p)) X B.2.2 kc_View h12 3 (by decide) lk_View_26 rfl rfl rfl rfl (Nat.le_of_ble_eq_true rfl) d_View_init_27 (show _ ∨ _ by omega) hL (fun H23 locs h24 z25 oq26 hL => ?_)
  replace hkz := hkz.kept (oq26 _ (by omega)) (oq26 _ (by omega))
  have hz27 := z25.trans hzk
  refine lv_aload_n X.1.1 X.1.2.1 d_View_init_30 rfl (gl_at hl rfl) ?_
  refine lv_iconst (v := nI 0) X.1.1 X.1.2.1 d_View_init_31 (by decide) ?_
  refine g_putF (A := (fun p => p = vb ∨ z ≤ p)) X B.2.2 kc_View h24 4 (by decide) lk_View_30 rfl rfl rfl rfl (Nat.le_of_ble_eq_true rfl) d_View_init_32 (show _ ∨ _ by omega) hL (fun H28 locs h29 z30 oq31 hL => ?_)
  replace hkz := hkz.kept (oq31 _ (by omega)) (oq31 _ (by omega))
  have hz32 := z30.trans hz27
  refine lv_aload_n X.1.1 X.1.2.1 d_View_init_35 rfl (gl_at hl rfl) ?_
  refine g_new X kc_Walker lk_View_34 ki_Walker.1 ki_Walker.2 (fs := [.int 0, .int 0, .int 0, .int 0]) kf_Walker (Nat.le_of_ble_eq_true rfl) (Nat.le_of_ble_eq_true rfl) d_View_init_36 (fun H33 h34 z35 o36 => ?_)
  rw [hz32] at h34 z35 o36 ⊢
  replace h29 := h29.kept (o36 _ (by omega))
  replace hkz := hkz.kept (o36 _ (by omega)) (o36 _ (by omega))
  refine lv_dup X.1.1 X.1.2.1 d_View_init_39 rfl ?_
  refine g_cin (A := (fun p => p = vb ∨ z ≤ p)) (host := "KeyHall") X gWS_good hE mi_Walker_init.1 mi_Walker_init.2 mc_Walker_init rfl (by decide +kernel) (c_Walker_init l D q H33 (z + 2)) (fun _ _ _ => trivial) gBlind.tt rfl rfl hl.1 (Nat.le_of_ble_eq_true rfl) rfl rfl ⟨by decide, by decide⟩ ⟨Nat.le_of_ble_eq_true rfl, Nat.le_of_ble_eq_true rfl⟩ d_View_init_40 (fun _ h => h.elim) hL (fun v37 H38 locs hp39 hL => ?_)
  obtain ⟨rfl, hHe⟩ := hp39
  rw [hHe]
  refine g_putF (A := (fun p => p = vb ∨ z ≤ p)) X B.2.2 kc_View h29 5 (by decide) lk_View_37 rfl rfl rfl rfl (Nat.le_of_ble_eq_true rfl) d_View_init_43 (show _ ∨ _ by omega) hL (fun H40 locs h41 z42 oq43 hL => ?_)
  replace h34 := h34.kept (oq43 _ (by omega))
  replace hkz := hkz.kept (oq43 _ (by omega)) (oq43 _ (by omega))
  have hz44 := z42.trans z35
  exact g_vret X B ⟨rfl, h41, hkz, h34, by omega, fun p hp hv9 => ((oq43 p (by omega)).trans ((o36 p (by omega)).trans ((oq31 p (by omega)).trans ((oq26 p (by omega)).trans ((frk p (by omega)).trans ((o19 p (by omega)).trans ((oq14 p (by omega)).trans ((oq9 p (by omega)).trans (oq4 p (by omega))))))))))⟩ hL d_View_init_46 (by omega) (by omega)

set_option maxHeartbeats 4000000 in
set_option maxRecDepth 100000 in
theorem c_View_init2 (l : Launch) (D : va_G) (q : Nat → ClassId) (H : Heap) (vb : Nat) (hz : H.size = vb + 1) (hv : va_at D CL (vb, .inr (2, [.null, .null, .int 0, .null, .int 0, .null, .int 0, .int 0])) H) (ob mb : Nat) (oog : Option Nat) (osrt obk otn owk of0 ot0 : Nat) (hob : va_at D CL (ob, .inr (2, [.ref mb, va_rf oog, .int (nI osrt), .ref obk, .int (nI otn), .ref owk, .int (nI of0), .int (nI ot0)])) H) (hob1 : ob < vb) (hot : otn ≤ 1) (srt : Nat) (hsrt : srt ≤ 3) (b : Nat) (xs : List Nat) (hxs : kA D q H b xs) (hb1 : b + 1 < vb) : gC l y_View_init2 (Cond.code y_View_init2 b_View_init2 4 none :: gWS) (gR 2 39 4 14) D CL (gY q) (fun U => va_Nw (.methodLinkNest R_View 36 y_Walker_init "KeyHall") U) [.ref vb, .ref ob, .int (nI srt), .ref b] H (fun v H1 => v = none ∧ va_at D CL (vb, .inr (2, [.ref mb, .ref ob, .int (nI srt), .ref (vb + 1), .int (nI (v_tn srt otn)), .ref (vb + 3), .int 0, .int 0])) H1 ∧ kA D q H1 (vb + 1) xs ∧ va_at D CL (vb + 3, .inr (3, [.int 0, .int 0, .int 0, .int 0])) H1 ∧ H1.size = vb + 4 ∧ ∀ p : Nat, p < vb → H1[p]? = H[p]?) 4 14 (fun p => p = vb ∨ vb ≤ p) := by
  refine gC.ofW R_View "<init>" (by decide) rfl rfl ?_
  intro p e s m below meth c hadm X hE hH B hne
  refine g_entry [some (.ref vb), some (.ref ob), some (.int (nI srt)), some (.ref b)] rfl rfl (Nat.le_of_ble_eq_true rfl) (fun ls hl => ?_)
  refine lv_aload_n X.1.1 X.1.2.1 d_View_init2_0 rfl (gl_at hl rfl) ?_
  refine W.objInit X.1.1 X.1.2.1 X.1.2.2.2.1 (X.1.2.2.2.2 _ mo_View_3.1) (X.1.2.2.2.2 _ mo_View_3.2.1) (X.1.2.2.2.2 _ mo_View_3.2.2) rfl (by rw [X.1.2.2.1]; exact hl.1) rfl d_View_init2_1 (Nat.le_of_ble_eq_true rfl) (Nat.le_of_ble_eq_true rfl) ?_
  refine W.eq (g2 := F0 m 4 ls []) rfl ?_
  refine lv_aload_n X.1.1 X.1.2.1 d_View_init2_4 rfl (gl_at hl rfl) ?_
  refine lv_aload_n X.1.1 X.1.2.1 d_View_init2_5 rfl (gl_at hl rfl) ?_
  refine g_get X kc_View hob 0 (by decide) lk_View_9 rfl d_View_init2_6 ?_
  refine g_putF (A := (fun p => p = vb ∨ vb ≤ p)) X B.2.2 kc_View hv 0 (by decide) lk_View_9 rfl rfl rfl rfl (Nat.le_of_ble_eq_true rfl) d_View_init2_9 (show _ ∨ _ by omega) (fun _ h => by cases h) (fun H1 locs h2 z3 oq4 hL => ?_)
  replace hob := hob.kept (oq4 _ (by omega))
  replace hxs := hxs.kept (oq4 _ (by omega)) (oq4 _ (by omega))
  have hz5 := z3.trans hz
  refine lv_aload_n X.1.1 X.1.2.1 d_View_init2_12 rfl (gl_at hl rfl) ?_
  refine lv_aload_n X.1.1 X.1.2.1 d_View_init2_13 rfl (gl_at hl rfl) ?_
  refine g_putF (A := (fun p => p = vb ∨ vb ≤ p)) X B.2.2 kc_View h2 1 (by decide) lk_View_15 rfl rfl rfl rfl (Nat.le_of_ble_eq_true rfl) d_View_init2_14 (show _ ∨ _ by omega) hL (fun H6 locs h7 z8 oq9 hL => ?_)
  replace hob := hob.kept (oq9 _ (by omega))
  replace hxs := hxs.kept (oq9 _ (by omega)) (oq9 _ (by omega))
  have hz10 := z8.trans hz5
  refine lv_aload_n X.1.1 X.1.2.1 d_View_init2_17 rfl (gl_at hl rfl) ?_
  refine lv_iload_n X.1.1 X.1.2.1 d_View_init2_18 rfl (gl_at hl rfl) ?_
  refine g_putF (A := (fun p => p = vb ∨ vb ≤ p)) X B.2.2 kc_View h7 2 (by decide) lk_View_19 rfl rfl rfl rfl (Nat.le_of_ble_eq_true rfl) d_View_init2_19 (show _ ∨ _ by omega) hL (fun H11 locs h12 z13 oq14 hL => ?_)
  replace hob := hob.kept (oq14 _ (by omega))
  replace hxs := hxs.kept (oq14 _ (by omega)) (oq14 _ (by omega))
  have hz15 := z13.trans hz10
  refine lv_aload_n X.1.1 X.1.2.1 d_View_init2_22 rfl (gl_at hl rfl) ?_
  refine g_new X kc_Key lk_View_23 ki_Key.1 ki_Key.2 (fs := [.null, .int 0]) kf_Key (Nat.le_of_ble_eq_true rfl) (Nat.le_of_ble_eq_true rfl) d_View_init2_23 (fun H16 h17 z18 o19 => ?_)
  rw [hz15] at h17 z18 o19 ⊢
  replace h12 := h12.kept (o19 _ (by omega))
  replace hob := hob.kept (o19 _ (by omega))
  replace hxs := hxs.kept (o19 _ (by omega)) (o19 _ (by omega))
  refine lv_dup X.1.1 X.1.2.1 d_View_init2_26 rfl ?_
  refine g_ci (A := (fun p => p = vb ∨ vb ≤ p)) X gWS_good mw_View_25 (c_Key_init l D q H16 (vb + 1) (by omega) h17) (fun _ _ _ => trivial) gBlind.tt rfl rfl hl.1 (Nat.le_of_ble_eq_true rfl) rfl rfl ⟨by decide, by decide⟩ ⟨by decide, by decide⟩ d_View_init2_27 (fun p (h : _ ≤ p) => show _ ∨ _ by omega) hL (fun v20 H21 locs hp22 hL => ?_)
  obtain ⟨rfl, hkz, hzk, frk⟩ := hp22
  replace h12 := va_at.kept h12 (frk _ (by omega))
  replace hob := va_at.kept hob (frk _ (by omega))
  replace hxs := hxs.kept (frk _ (by omega)) (frk _ (by omega))
  refine g_putF (A := (fun p => p = vb ∨ vb ≤ p)) X B.2.2 kc_View h12 3 (by decide) lk_View_26 rfl rfl rfl rfl (Nat.le_of_ble_eq_true rfl) d_View_init2_30 (show _ ∨ _ by omega) hL (fun H23 locs h24 z25 oq26 hL => ?_)
  replace hob := hob.kept (oq26 _ (by omega))
  replace hxs := hxs.kept (oq26 _ (by omega)) (oq26 _ (by omega))
  replace hkz := hkz.kept (oq26 _ (by omega)) (oq26 _ (by omega))
  have hz27 := z25.trans hzk
  refine lv_aload_n X.1.1 X.1.2.1 d_View_init2_33 rfl (gl_at hl rfl) ?_
  refine g_get X kc_View h24 3 (by decide) lk_View_26 rfl d_View_init2_34 ?_
  refine lv_aload_n X.1.1 X.1.2.1 d_View_init2_37 rfl (gl_at hl rfl) ?_
  refine g_cv (A := (fun p => p = vb ∨ vb ≤ p)) X gWS_good mw_View_41 kc_Key hkz.1 (c_Key_become l D q H23 (vb + 1) b [] xs hkz hxs (by omega)) (fun _ _ _ => trivial) gBlind.tt rfl rfl hl.1 (Nat.le_of_ble_eq_true rfl) rfl rfl ⟨by decide, by decide⟩ ⟨by decide, by decide⟩ d_View_init2_38 (fun p h => show _ ∨ _ by omega) hL (fun v28 H29 locs hp30 hL => ?_)
  obtain ⟨rfl, hkz2, hz2, fr2⟩ := hp30
  replace h24 := va_at.kept h24 (fr2 _ (by omega))
  replace hob := va_at.kept hob (fr2 _ (by omega))
  replace hxs := hxs.kept (fr2 _ (by omega)) (fr2 _ (by omega))
  replace hkz := hkz2
  have hz5 : H29.size = vb + 1 + 2 := by omega
  refine lv_aload_n X.1.1 X.1.2.1 d_View_init2_41 rfl (gl_at hl rfl) ?_
  refine lv_iload_n X.1.1 X.1.2.1 d_View_init2_42 rfl (gl_at hl rfl) ?_
  refine lv_iconst (v := nI 3) X.1.1 X.1.2.1 d_View_init2_43 (by decide) ?_
  refine gn_ne X.1.1 X.1.2.1 srt 3 (by omega) (by omega) d_View_init2_44 rfl (fun hc44 => ?_) (fun hc44 => ?_)
  · refine lv_iconst (v := nI 0) X.1.1 X.1.2.1 d_View_init2_51 (by decide) ?_
    refine lv_aload_n X.1.1 X.1.2.1 d_View_init2_52 rfl (gl_at hl rfl) ?_
    refine g_get X kc_View hob 4 (by decide) lk_View_30 rfl d_View_init2_53 ?_
    refine gn_eq X.1.1 X.1.2.1 0 otn (by omega) (by omega) d_View_init2_56 rfl (fun hc56 => ?_) (fun hc56 => ?_)
    · refine lv_iconst (v := nI 0) X.1.1 X.1.2.1 d_View_init2_63 (by decide) ?_
      refine g_top (nI (v_tn srt otn)) (by unfold v_tn; have h1 := hc44; have h2 := hc56; first | (rw [if_pos h1]; first | rw [if_pos h2] | rw [if_neg h2]) | (rw [if_neg h1]; first | rw [if_pos h2] | rw [if_neg h2])) ?_
      refine g_putF (A := (fun p => p = vb ∨ vb ≤ p)) X B.2.2 kc_View h24 4 (by decide) lk_View_30 rfl rfl (gz_n (v_tn_le _ _)) (gz_fit (v_tn_le _ _)) (Nat.le_of_ble_eq_true rfl) d_View_init2_64 (show _ ∨ _ by omega) hL (fun H31 locs h32 z33 oq34 hL => ?_)
      replace hob := hob.kept (oq34 _ (by omega))
      replace hxs := hxs.kept (oq34 _ (by omega)) (oq34 _ (by omega))
      replace hkz := hkz.kept (oq34 _ (by omega)) (oq34 _ (by omega))
      have hz35 := z33.trans hz5
      refine lv_aload_n X.1.1 X.1.2.1 d_View_init2_67 rfl (gl_at hl rfl) ?_
      refine g_new X kc_Walker lk_View_34 ki_Walker.1 ki_Walker.2 (fs := [.int 0, .int 0, .int 0, .int 0]) kf_Walker (Nat.le_of_ble_eq_true rfl) (Nat.le_of_ble_eq_true rfl) d_View_init2_68 (fun H36 h37 z38 o39 => ?_)
      rw [hz35] at h37 z38 o39 ⊢
      replace h32 := h32.kept (o39 _ (by omega))
      replace hob := hob.kept (o39 _ (by omega))
      replace hxs := hxs.kept (o39 _ (by omega)) (o39 _ (by omega))
      replace hkz := hkz.kept (o39 _ (by omega)) (o39 _ (by omega))
      refine lv_dup X.1.1 X.1.2.1 d_View_init2_71 rfl ?_
      refine g_cin (A := (fun p => p = vb ∨ vb ≤ p)) (host := "KeyHall") X gWS_good hE mi_Walker_init.1 mi_Walker_init.2 mc_Walker_init rfl (by decide +kernel) (c_Walker_init l D q H36 (vb + 1 + 2)) (fun _ _ _ => trivial) gBlind.tt rfl rfl hl.1 (Nat.le_of_ble_eq_true rfl) rfl rfl ⟨by decide, by decide⟩ ⟨Nat.le_of_ble_eq_true rfl, Nat.le_of_ble_eq_true rfl⟩ d_View_init2_72 (fun _ h => h.elim) hL (fun v40 H41 locs hp42 hL => ?_)
      obtain ⟨rfl, hHe⟩ := hp42
      rw [hHe]
      refine g_putF (A := (fun p => p = vb ∨ vb ≤ p)) X B.2.2 kc_View h32 5 (by decide) lk_View_37 rfl rfl rfl rfl (Nat.le_of_ble_eq_true rfl) d_View_init2_75 (show _ ∨ _ by omega) hL (fun H43 locs h44 z45 oq46 hL => ?_)
      replace hob := hob.kept (oq46 _ (by omega))
      replace h37 := h37.kept (oq46 _ (by omega))
      replace hxs := hxs.kept (oq46 _ (by omega)) (oq46 _ (by omega))
      replace hkz := hkz.kept (oq46 _ (by omega)) (oq46 _ (by omega))
      have hz47 := z45.trans z38
      exact g_vret X B ⟨rfl, h44, hkz, h37, by omega, fun p hp => ((oq46 p (by omega)).trans ((o39 p (by omega)).trans ((oq34 p (by omega)).trans ((fr2 p (by omega)).trans ((oq26 p (by omega)).trans ((frk p (by omega)).trans ((o19 p (by omega)).trans ((oq14 p (by omega)).trans ((oq9 p (by omega)).trans (oq4 p (by omega)))))))))))⟩ hL d_View_init2_78 (by omega) (by omega)
    · refine lv_iconst (v := nI 1) X.1.1 X.1.2.1 d_View_init2_59 (by decide) ?_
      refine lv_goto X.1.1 X.1.2.1 d_View_init2_60 rfl ?_
      refine g_top (nI (v_tn srt otn)) (by unfold v_tn; have h1 := hc44; have h2 := hc56; first | (rw [if_pos h1]; first | rw [if_pos h2] | rw [if_neg h2]) | (rw [if_neg h1]; first | rw [if_pos h2] | rw [if_neg h2])) ?_
      refine g_putF (A := (fun p => p = vb ∨ vb ≤ p)) X B.2.2 kc_View h24 4 (by decide) lk_View_30 rfl rfl (gz_n (v_tn_le _ _)) (gz_fit (v_tn_le _ _)) (Nat.le_of_ble_eq_true rfl) d_View_init2_64 (show _ ∨ _ by omega) hL (fun H48 locs h49 z50 oq51 hL => ?_)
      replace hob := hob.kept (oq51 _ (by omega))
      replace hxs := hxs.kept (oq51 _ (by omega)) (oq51 _ (by omega))
      replace hkz := hkz.kept (oq51 _ (by omega)) (oq51 _ (by omega))
      have hz52 := z50.trans hz5
      refine lv_aload_n X.1.1 X.1.2.1 d_View_init2_67 rfl (gl_at hl rfl) ?_
      refine g_new X kc_Walker lk_View_34 ki_Walker.1 ki_Walker.2 (fs := [.int 0, .int 0, .int 0, .int 0]) kf_Walker (Nat.le_of_ble_eq_true rfl) (Nat.le_of_ble_eq_true rfl) d_View_init2_68 (fun H53 h54 z55 o56 => ?_)
      rw [hz52] at h54 z55 o56 ⊢
      replace h49 := h49.kept (o56 _ (by omega))
      replace hob := hob.kept (o56 _ (by omega))
      replace hxs := hxs.kept (o56 _ (by omega)) (o56 _ (by omega))
      replace hkz := hkz.kept (o56 _ (by omega)) (o56 _ (by omega))
      refine lv_dup X.1.1 X.1.2.1 d_View_init2_71 rfl ?_
      refine g_cin (A := (fun p => p = vb ∨ vb ≤ p)) (host := "KeyHall") X gWS_good hE mi_Walker_init.1 mi_Walker_init.2 mc_Walker_init rfl (by decide +kernel) (c_Walker_init l D q H53 (vb + 1 + 2)) (fun _ _ _ => trivial) gBlind.tt rfl rfl hl.1 (Nat.le_of_ble_eq_true rfl) rfl rfl ⟨by decide, by decide⟩ ⟨Nat.le_of_ble_eq_true rfl, Nat.le_of_ble_eq_true rfl⟩ d_View_init2_72 (fun _ h => h.elim) hL (fun v57 H58 locs hp59 hL => ?_)
      obtain ⟨rfl, hHe⟩ := hp59
      rw [hHe]
      refine g_putF (A := (fun p => p = vb ∨ vb ≤ p)) X B.2.2 kc_View h49 5 (by decide) lk_View_37 rfl rfl rfl rfl (Nat.le_of_ble_eq_true rfl) d_View_init2_75 (show _ ∨ _ by omega) hL (fun H60 locs h61 z62 oq63 hL => ?_)
      replace hob := hob.kept (oq63 _ (by omega))
      replace h54 := h54.kept (oq63 _ (by omega))
      replace hxs := hxs.kept (oq63 _ (by omega)) (oq63 _ (by omega))
      replace hkz := hkz.kept (oq63 _ (by omega)) (oq63 _ (by omega))
      have hz64 := z62.trans z55
      exact g_vret X B ⟨rfl, h61, hkz, h54, by omega, fun p hp => ((oq63 p (by omega)).trans ((o56 p (by omega)).trans ((oq51 p (by omega)).trans ((fr2 p (by omega)).trans ((oq26 p (by omega)).trans ((frk p (by omega)).trans ((o19 p (by omega)).trans ((oq14 p (by omega)).trans ((oq9 p (by omega)).trans (oq4 p (by omega)))))))))))⟩ hL d_View_init2_78 (by omega) (by omega)
  · refine lv_iconst (v := nI 1) X.1.1 X.1.2.1 d_View_init2_47 (by decide) ?_
    refine lv_goto X.1.1 X.1.2.1 d_View_init2_48 rfl ?_
    refine lv_aload_n X.1.1 X.1.2.1 d_View_init2_52 rfl (gl_at hl rfl) ?_
    refine g_get X kc_View hob 4 (by decide) lk_View_30 rfl d_View_init2_53 ?_
    refine gn_eq X.1.1 X.1.2.1 1 otn (by omega) (by omega) d_View_init2_56 rfl (fun hc56 => ?_) (fun hc56 => ?_)
    · refine lv_iconst (v := nI 0) X.1.1 X.1.2.1 d_View_init2_63 (by decide) ?_
      refine g_top (nI (v_tn srt otn)) (by unfold v_tn; have h1 := hc44; have h2 := hc56; first | (rw [if_pos h1]; first | rw [if_pos h2] | rw [if_neg h2]) | (rw [if_neg h1]; first | rw [if_pos h2] | rw [if_neg h2])) ?_
      refine g_putF (A := (fun p => p = vb ∨ vb ≤ p)) X B.2.2 kc_View h24 4 (by decide) lk_View_30 rfl rfl (gz_n (v_tn_le _ _)) (gz_fit (v_tn_le _ _)) (Nat.le_of_ble_eq_true rfl) d_View_init2_64 (show _ ∨ _ by omega) hL (fun H65 locs h66 z67 oq68 hL => ?_)
      replace hob := hob.kept (oq68 _ (by omega))
      replace hxs := hxs.kept (oq68 _ (by omega)) (oq68 _ (by omega))
      replace hkz := hkz.kept (oq68 _ (by omega)) (oq68 _ (by omega))
      have hz69 := z67.trans hz5
      refine lv_aload_n X.1.1 X.1.2.1 d_View_init2_67 rfl (gl_at hl rfl) ?_
      refine g_new X kc_Walker lk_View_34 ki_Walker.1 ki_Walker.2 (fs := [.int 0, .int 0, .int 0, .int 0]) kf_Walker (Nat.le_of_ble_eq_true rfl) (Nat.le_of_ble_eq_true rfl) d_View_init2_68 (fun H70 h71 z72 o73 => ?_)
      rw [hz69] at h71 z72 o73 ⊢
      replace h66 := h66.kept (o73 _ (by omega))
      replace hob := hob.kept (o73 _ (by omega))
      replace hxs := hxs.kept (o73 _ (by omega)) (o73 _ (by omega))
      replace hkz := hkz.kept (o73 _ (by omega)) (o73 _ (by omega))
      refine lv_dup X.1.1 X.1.2.1 d_View_init2_71 rfl ?_
      refine g_cin (A := (fun p => p = vb ∨ vb ≤ p)) (host := "KeyHall") X gWS_good hE mi_Walker_init.1 mi_Walker_init.2 mc_Walker_init rfl (by decide +kernel) (c_Walker_init l D q H70 (vb + 1 + 2)) (fun _ _ _ => trivial) gBlind.tt rfl rfl hl.1 (Nat.le_of_ble_eq_true rfl) rfl rfl ⟨by decide, by decide⟩ ⟨Nat.le_of_ble_eq_true rfl, Nat.le_of_ble_eq_true rfl⟩ d_View_init2_72 (fun _ h => h.elim) hL (fun v74 H75 locs hp76 hL => ?_)
      obtain ⟨rfl, hHe⟩ := hp76
      rw [hHe]
      refine g_putF (A := (fun p => p = vb ∨ vb ≤ p)) X B.2.2 kc_View h66 5 (by decide) lk_View_37 rfl rfl rfl rfl (Nat.le_of_ble_eq_true rfl) d_View_init2_75 (show _ ∨ _ by omega) hL (fun H77 locs h78 z79 oq80 hL => ?_)
      replace hob := hob.kept (oq80 _ (by omega))
      replace h71 := h71.kept (oq80 _ (by omega))
      replace hxs := hxs.kept (oq80 _ (by omega)) (oq80 _ (by omega))
      replace hkz := hkz.kept (oq80 _ (by omega)) (oq80 _ (by omega))
      have hz81 := z79.trans z72
      exact g_vret X B ⟨rfl, h78, hkz, h71, by omega, fun p hp => ((oq80 p (by omega)).trans ((o73 p (by omega)).trans ((oq68 p (by omega)).trans ((fr2 p (by omega)).trans ((oq26 p (by omega)).trans ((frk p (by omega)).trans ((o19 p (by omega)).trans ((oq14 p (by omega)).trans ((oq9 p (by omega)).trans (oq4 p (by omega)))))))))))⟩ hL d_View_init2_78 (by omega) (by omega)
    · refine lv_iconst (v := nI 1) X.1.1 X.1.2.1 d_View_init2_59 (by decide) ?_
      refine lv_goto X.1.1 X.1.2.1 d_View_init2_60 rfl ?_
      refine g_top (nI (v_tn srt otn)) (by unfold v_tn; have h1 := hc44; have h2 := hc56; first | (rw [if_pos h1]; first | rw [if_pos h2] | rw [if_neg h2]) | (rw [if_neg h1]; first | rw [if_pos h2] | rw [if_neg h2])) ?_
      refine g_putF (A := (fun p => p = vb ∨ vb ≤ p)) X B.2.2 kc_View h24 4 (by decide) lk_View_30 rfl rfl (gz_n (v_tn_le _ _)) (gz_fit (v_tn_le _ _)) (Nat.le_of_ble_eq_true rfl) d_View_init2_64 (show _ ∨ _ by omega) hL (fun H82 locs h83 z84 oq85 hL => ?_)
      replace hob := hob.kept (oq85 _ (by omega))
      replace hxs := hxs.kept (oq85 _ (by omega)) (oq85 _ (by omega))
      replace hkz := hkz.kept (oq85 _ (by omega)) (oq85 _ (by omega))
      have hz86 := z84.trans hz5
      refine lv_aload_n X.1.1 X.1.2.1 d_View_init2_67 rfl (gl_at hl rfl) ?_
      refine g_new X kc_Walker lk_View_34 ki_Walker.1 ki_Walker.2 (fs := [.int 0, .int 0, .int 0, .int 0]) kf_Walker (Nat.le_of_ble_eq_true rfl) (Nat.le_of_ble_eq_true rfl) d_View_init2_68 (fun H87 h88 z89 o90 => ?_)
      rw [hz86] at h88 z89 o90 ⊢
      replace h83 := h83.kept (o90 _ (by omega))
      replace hob := hob.kept (o90 _ (by omega))
      replace hxs := hxs.kept (o90 _ (by omega)) (o90 _ (by omega))
      replace hkz := hkz.kept (o90 _ (by omega)) (o90 _ (by omega))
      refine lv_dup X.1.1 X.1.2.1 d_View_init2_71 rfl ?_
      refine g_cin (A := (fun p => p = vb ∨ vb ≤ p)) (host := "KeyHall") X gWS_good hE mi_Walker_init.1 mi_Walker_init.2 mc_Walker_init rfl (by decide +kernel) (c_Walker_init l D q H87 (vb + 1 + 2)) (fun _ _ _ => trivial) gBlind.tt rfl rfl hl.1 (Nat.le_of_ble_eq_true rfl) rfl rfl ⟨by decide, by decide⟩ ⟨Nat.le_of_ble_eq_true rfl, Nat.le_of_ble_eq_true rfl⟩ d_View_init2_72 (fun _ h => h.elim) hL (fun v91 H92 locs hp93 hL => ?_)
      obtain ⟨rfl, hHe⟩ := hp93
      rw [hHe]
      refine g_putF (A := (fun p => p = vb ∨ vb ≤ p)) X B.2.2 kc_View h83 5 (by decide) lk_View_37 rfl rfl rfl rfl (Nat.le_of_ble_eq_true rfl) d_View_init2_75 (show _ ∨ _ by omega) hL (fun H94 locs h95 z96 oq97 hL => ?_)
      replace hob := hob.kept (oq97 _ (by omega))
      replace h88 := h88.kept (oq97 _ (by omega))
      replace hxs := hxs.kept (oq97 _ (by omega)) (oq97 _ (by omega))
      replace hkz := hkz.kept (oq97 _ (by omega)) (oq97 _ (by omega))
      have hz98 := z96.trans z89
      exact g_vret X B ⟨rfl, h95, hkz, h88, by omega, fun p hp => ((oq97 p (by omega)).trans ((o90 p (by omega)).trans ((oq85 p (by omega)).trans ((fr2 p (by omega)).trans ((oq26 p (by omega)).trans ((frk p (by omega)).trans ((o19 p (by omega)).trans ((oq14 p (by omega)).trans ((oq9 p (by omega)).trans (oq4 p (by omega)))))))))))⟩ hL d_View_init2_78 (by omega) (by omega)
end
section
/-! the edited text and what was kept of it: pictures -/
theorem gn_min {a b : Nat} (ha : a < 2 ^ 31) (hb : b < 2 ^ 31) : (if nI b < nI a then nI b else nI a) = nI (if b < a then b else a) := by
  by_cases h : b < a
  · rw [if_pos h, if_pos ((nI_ltI hb ha).mpr h)]
  · rw [if_neg h, if_neg (fun h9 => h ((nI_ltI hb ha).mp h9))]
theorem gn_max {a b : Nat} (ha : a < 2 ^ 31) (hb : b < 2 ^ 31) : (if nI a < nI b then nI b else nI a) = nI (if a < b then b else a) := by
  by_cases h : a < b
  · rw [if_pos h, if_pos ((nI_ltI ha hb).mpr h)]
  · rw [if_neg h, if_neg (fun h9 => h ((nI_ltI ha hb).mp h9))]
/-- an int array that begins with the text xs -/
def tX (f : Nat → Int32) (xs : List Nat) : Prop := ∀ j, j < xs.length → f j = nI (xs.getD j 0)
def hisA (D : va_G) (q : Nat → ClassId) (H : Heap) (hb : Nat) (us : List (List Nat)) : Prop := ∃ (nw : Nat) (h ln : Nat → Int32),
  va_at D CL (hb, .inr (7, [.ref (hb + 1), .ref (hb + 2), .int (nI nw), .int (nI us.length)])) H ∧ va_at D CL (hb + 1, .inl (q 0, 2400, .inl h)) H ∧ va_at D CL (hb + 2, .inl (q 0, 20, .inl ln)) H ∧ nw < 20 ∧ us.length ≤ 20 ∧
  ∀ i, i < us.length → (us.getD i []).length ≤ 120 ∧ (∀ x ∈ us.getD i [], x < 65536) ∧ ln ((nw + 20 - i) % 20) = nI (us.getD i []).length ∧ ∀ j, j < (us.getD i []).length → h ((nw + 20 - i) % 20 * 120 + j) = nI ((us.getD i []).getD j 0)
theorem hisA.kept {D : va_G} {q : Nat → ClassId} {H H1 : Heap} {hb : Nat} {us : List (List Nat)} (hh : hisA D q H hb us) (hk : ∀ p : Nat, hb ≤ p → p ≤ hb + 2 → H1[p]? = H[p]?) : hisA D q H1 hb us := by
  obtain ⟨nw, h, ln, h1, h2, h3, h4⟩ := hh
  exact ⟨nw, h, ln, h1.kept (hk _ (by omega) (by omega)), va_at.kept h2 (hk _ (by omega) (by omega)), va_at.kept h3 (hk _ (by omega) (by omega)), h4⟩
/-- the rows of the ring behind a new one -/
theorem his_push {nw n : Nat} {h ln f : Nat → Int32} {us : List (List Nat)} {xs : List Nat} (hnw : nw < 20) (hus : us.length ≤ 20) (hn : n = xs.length) (hx : xs.length ≤ 120) (hxc : ∀ x ∈ xs, x < 65536) (hf : tX f xs)
    (hr : ∀ i, i < us.length → (us.getD i []).length ≤ 120 ∧ (∀ x ∈ us.getD i [], x < 65536) ∧ ln ((nw + 20 - i) % 20) = nI (us.getD i []).length ∧ ∀ j, j < (us.getD i []).length → h ((nw + 20 - i) % 20 * 120 + j) = nI ((us.getD i []).getD j 0))
    (nw' : Nat) (hnw' : nw' = (nw + 1) % 20) : ∀ i, i < ((xs :: us).take 20).length → (((xs :: us).take 20).getD i []).length ≤ 120 ∧ (∀ x ∈ ((xs :: us).take 20).getD i [], x < 65536) ∧ upd ln nw' (nI n) ((nw' + 20 - i) % 20) = nI (((xs :: us).take 20).getD i []).length ∧ ∀ j, j < (((xs :: us).take 20).getD i []).length → va_cpy f h 0 (nw' * 120) n ((nw' + 20 - i) % 20 * 120 + j) = nI ((((xs :: us).take 20).getD i []).getD j 0) := by
  intro i hi
  have hi20 : i < 20 := by simp at hi; omega
  cases i with
  | zero =>
    have e0 : ((xs :: us).take 20).getD 0 [] = xs := rfl
    rw [e0, show (nw' + 20 - 0) % 20 = nw' by omega]
    refine ⟨hx, hxc, ?_, fun j hj => ?_⟩
    · rw [pk_us, hn]
    · rw [pk_cpy_in (by omega) (by omega), show 0 + (nw' * 120 + j - nw' * 120) = j by omega]
      exact hf j hj
  | succ i =>
    have hlen : i < us.length := by simp at hi; omega
    have e1 : ((xs :: us).take 20).getD (i + 1) [] = us.getD i [] := by
      rw [List.getD_eq_getElem?_getD, List.getD_eq_getElem?_getD, List.getElem?_take_of_lt (by omega), List.getElem?_cons_succ]
    obtain ⟨a1, a2, a3, a4⟩ := hr i hlen
    have er : (nw' + 20 - (i + 1)) % 20 = (nw + 20 - i) % 20 := by omega
    have hne : (nw + 20 - i) % 20 ≠ nw' := by omega
    rw [e1, er]
    refine ⟨a1, a2, ?_, fun j hj => ?_⟩
    · rw [pk_un hne, a3]
    · rw [pk_cpy_out (by omega)]
      exact a4 j hj
theorem his_len {xs : List Nat} {us : List (List Nat)} : ((xs :: us).take 20).length = if 20 < us.length + 1 then 20 else us.length + 1 := by
  simp only [List.length_take, List.length_cons]
  split <;> omega
theorem his_pop {nw : Nat} {h ln : Nat → Int32} {u : List Nat} {us : List (List Nat)} (hnw : nw < 20) (hus : (u :: us).length ≤ 20)
    (hr : ∀ i, i < (u :: us).length → ((u :: us).getD i []).length ≤ 120 ∧ (∀ x ∈ (u :: us).getD i [], x < 65536) ∧ ln ((nw + 20 - i) % 20) = nI ((u :: us).getD i []).length ∧ ∀ j, j < ((u :: us).getD i []).length → h ((nw + 20 - i) % 20 * 120 + j) = nI (((u :: us).getD i []).getD j 0))
    (nw' : Nat) (hnw' : nw' = (nw + 19) % 20) : ∀ i, i < us.length → (us.getD i []).length ≤ 120 ∧ (∀ x ∈ us.getD i [], x < 65536) ∧ ln ((nw' + 20 - i) % 20) = nI (us.getD i []).length ∧ ∀ j, j < (us.getD i []).length → h ((nw' + 20 - i) % 20 * 120 + j) = nI ((us.getD i []).getD j 0) := by
  intro i hi
  have h1 := hr (i + 1) (by simp; omega)
  have e1 : (u :: us).getD (i + 1) [] = us.getD i [] := rfl
  have hl : (u :: us).length = us.length + 1 := rfl
  rw [e1, show (nw + 20 - (i + 1)) % 20 = (nw' + 20 - i) % 20 by omega] at h1
  exact h1
/-- the order of suffixes: starts and ranks as far as they are sorted -/
theorem kf_more : True := trivial
end
section
/-! the classes History, SuffixOrder, EditedText: printed by wip/specs/text.py -/
set_option maxHeartbeats 4000000 in
set_option maxRecDepth 100000 in
theorem c_History_keep (l : Launch) (D : va_G) (q : Nat → ClassId) (H : Heap) (hb : Nat) (us : List (List Nat)) (hh : hisA D q H hb us) (ca : Nat) (f : Nat → Int32) (hca : va_at D CL (ca, .inl (q 0, 120, .inl f)) H) (hcb : ca < hb ∨ hb + 2 < ca) (xs : List Nat) (hx : xs.length ≤ 120) (hxc : ∀ x ∈ xs, x < 65536) (hf : tX f xs) : gC l y_History_keep (Cond.code y_History_keep b_History_keep 3 none :: gWS) (gR 1 18 0 0) D CL (gY q) (fun _ => True) [.ref hb, .ref ca, .int (nI xs.length)] H (fun v H1 => v = none ∧ hisA D q H1 hb ((xs :: us).take 20) ∧ H1.size = H.size ∧ ∀ p : Nat, ¬ (hb ≤ p ∧ p ≤ hb + 2) → H1[p]? = H[p]?) 0 0 (fun p => hb ≤ p ∧ p ≤ hb + 2) := by
  refine gC.ofW R_History "keep" (by decide) rfl rfl ?_
  intro p e s m below meth c hadm X hE hH B hne
  refine g_entry [some (.ref hb), some (.ref ca), some (.int (nI xs.length))] rfl rfl (Nat.le_of_ble_eq_true rfl) (fun ls hl => ?_)
  obtain ⟨nw, h, ln, ho, hlt, hln, hnw, hus, hr⟩ := hh
  refine lv_aload_n X.1.1 X.1.2.1 d_History_keep_0 rfl (gl_at hl rfl) ?_
  refine lv_aload_n X.1.1 X.1.2.1 d_History_keep_1 rfl (gl_at hl rfl) ?_
  refine g_get X kc_History ho 2 (by decide) lk_History_18 rfl d_History_keep_2 ?_
  refine lv_iconst (v := nI 1) X.1.1 X.1.2.1 d_History_keep_5 (by decide) ?_
  refine lv_iadd X.1.1 X.1.2.1 d_History_keep_6 ?_
  refine g_top (nI (nw + 1)) (nI_add _ _) ?_
  refine lv_bipush (v := nI 20) X.1.1 X.1.2.1 d_History_keep_7 (by decide) ?_
  refine gn_ge X.1.1 X.1.2.1 (nw + 1) 20 (by omega) (by omega) d_History_keep_9 rfl (fun hc9 => ?_) (fun hc9 => ?_)
  · refine lv_iconst (v := nI 0) X.1.1 X.1.2.1 d_History_keep_21 (by decide) ?_
    obtain ⟨nw1, hnw1⟩ : ∃ z, z = (nw + 1) % 20 := ⟨_, rfl⟩
    refine g_top (nI nw1) (by rw [hnw1]; congr 1; omega) ?_
    have hnw2 : nw1 < 20 := by omega
    refine g_put (A := (fun p => hb ≤ p ∧ p ≤ hb + 2)) X kc_History ho 2 (by decide) lk_History_18 rfl rfl rfl (Nat.le_of_ble_eq_true rfl) d_History_keep_22 (show _ ∧ _ by omega) (fun _ h => by cases h) (fun H1 locs h2 z3 oq4 hL => ?_)
    replace hlt := hlt.kept (oq4 _ (by omega))
    replace hln := hln.kept (oq4 _ (by omega))
    replace hca := hca.kept (oq4 _ (by omega))
    refine lv_aload_n X.1.1 X.1.2.1 d_History_keep_25 rfl (gl_at hl rfl) ?_
    refine lv_iconst (v := nI 0) X.1.1 X.1.2.1 d_History_keep_26 (by decide) ?_
    refine lv_aload_n X.1.1 X.1.2.1 d_History_keep_27 rfl (gl_at hl rfl) ?_
    refine g_get X kc_History h2 0 (by decide) lk_History_9 rfl d_History_keep_28 ?_
    refine lv_aload_n X.1.1 X.1.2.1 d_History_keep_31 rfl (gl_at hl rfl) ?_
    refine g_get X kc_History h2 2 (by decide) lk_History_18 rfl d_History_keep_32 ?_
    refine lv_bipush (v := nI 120) X.1.1 X.1.2.1 d_History_keep_35 (by decide) ?_
    refine lv_imul X.1.1 X.1.2.1 d_History_keep_37 ?_
    refine g_top (nI (nw1 * 120)) (pk_mul _ _) ?_
    refine lv_iload_n X.1.1 X.1.2.1 d_History_keep_38 rfl (gl_at hl rfl) ?_
    refine g_copyi (A := (fun p => hb ≤ p ∧ p ≤ hb + 2)) X hl.1 mq_History_22.1 mq_History_22.2.1 mq_History_22.2.2.1 mq_History_22.2.2.2 0 hca hlt rfl 0 (nw1 * 120) xs.length (by omega) (by omega) (by decide) (by decide) (by decide) (by decide) d_History_keep_39 (show _ ∧ _ by omega) hL (fun H5 locs h6 z7 oq8 hL => ?_)
    replace h2 := h2.kept (oq8 _ (by omega))
    replace hln := hln.kept (oq8 _ (by omega))
    replace hca := hca.kept (oq8 _ (by omega))
    refine lv_aload_n X.1.1 X.1.2.1 d_History_keep_42 rfl (gl_at hl rfl) ?_
    refine g_get X kc_History h2 1 (by decide) lk_History_15 rfl d_History_keep_43 ?_
    refine lv_aload_n X.1.1 X.1.2.1 d_History_keep_46 rfl (gl_at hl rfl) ?_
    refine g_get X kc_History h2 2 (by decide) lk_History_18 rfl d_History_keep_47 ?_
    refine lv_iload_n X.1.1 X.1.2.1 d_History_keep_50 rfl (gl_at hl rfl) ?_
    refine g_iast (A := (fun p => hb ≤ p ∧ p ≤ hb + 2)) X 0 hln rfl nw1 (by omega) (by decide) d_History_keep_51 (show _ ∧ _ by omega) hL (fun H9 locs h10 z11 oq12 hL => ?_)
    replace h2 := h2.kept (oq12 _ (by omega))
    replace h6 := h6.kept (oq12 _ (by omega))
    replace hca := hca.kept (oq12 _ (by omega))
    refine lv_aload_n X.1.1 X.1.2.1 d_History_keep_52 rfl (gl_at hl rfl) ?_
    refine lv_aload_n X.1.1 X.1.2.1 d_History_keep_53 rfl (gl_at hl rfl) ?_
    refine g_get X kc_History h2 3 (by decide) lk_History_28 rfl d_History_keep_54 ?_
    refine lv_iconst (v := nI 1) X.1.1 X.1.2.1 d_History_keep_57 (by decide) ?_
    refine lv_iadd X.1.1 X.1.2.1 d_History_keep_58 ?_
    refine g_top (nI (us.length + 1)) (nI_add _ _) ?_
    refine lv_bipush (v := nI 20) X.1.1 X.1.2.1 d_History_keep_59 (by decide) ?_
    refine va_mmin X.1.1 X.1.2.1 (by rw [X.1.2.2.1]; exact hl.1.symm) X.1.2.2.2.1 (X.1.2.2.2.2 _ mm_History_31.1) (X.1.2.2.2.2 _ mm_History_31.2.1) (X.1.2.2.2.2 _ mm_History_31.2.2.1) (X.1.2.2.2.2 _ mm_History_31.2.2.2) (by decide) (Nat.le_of_ble_eq_true rfl) (by decide) (by decide) d_History_keep_61 ?_
    refine g_top (nI (if 20 < us.length + 1 then 20 else us.length + 1)) (gn_min (by omega) (by omega)) ?_
    refine g_put (A := (fun p => hb ≤ p ∧ p ≤ hb + 2)) X kc_History h2 3 (by decide) lk_History_28 rfl rfl rfl (Nat.le_of_ble_eq_true rfl) d_History_keep_64 (show _ ∧ _ by omega) hL (fun H13 locs h14 z15 oq16 hL => ?_)
    replace h6 := h6.kept (oq16 _ (by omega))
    replace h10 := h10.kept (oq16 _ (by omega))
    replace hca := hca.kept (oq16 _ (by omega))
    exact g_vret X B ⟨rfl, ⟨nw1, _, _, (by rw [his_len]; exact h14), h6, h10, hnw2, by rw [his_len]; split <;> omega, his_push hnw hus rfl hx hxc hf hr nw1 hnw1⟩, (z15.trans (z11.trans (z7.trans z3))), fun p hp => ((oq16 p (by omega)).trans ((oq12 p (by omega)).trans ((oq8 p (by omega)).trans (oq4 p (by omega)))))⟩ hL d_History_keep_67 (by omega) (by omega)
  · refine lv_aload_n X.1.1 X.1.2.1 d_History_keep_12 rfl (gl_at hl rfl) ?_
    refine g_get X kc_History ho 2 (by decide) lk_History_18 rfl d_History_keep_13 ?_
    refine lv_iconst (v := nI 1) X.1.1 X.1.2.1 d_History_keep_16 (by decide) ?_
    refine lv_iadd X.1.1 X.1.2.1 d_History_keep_17 ?_
    refine g_top (nI (nw + 1)) (nI_add _ _) ?_
    refine lv_goto X.1.1 X.1.2.1 d_History_keep_18 rfl ?_
    obtain ⟨nw1, hnw1⟩ : ∃ z, z = (nw + 1) % 20 := ⟨_, rfl⟩
    refine g_top (nI nw1) (by rw [hnw1]; congr 1; omega) ?_
    have hnw2 : nw1 < 20 := by omega
    refine g_put (A := (fun p => hb ≤ p ∧ p ≤ hb + 2)) X kc_History ho 2 (by decide) lk_History_18 rfl rfl rfl (Nat.le_of_ble_eq_true rfl) d_History_keep_22 (show _ ∧ _ by omega) (fun _ h => by cases h) (fun H17 locs h18 z19 oq20 hL => ?_)
    replace hlt := hlt.kept (oq20 _ (by omega))
    replace hln := hln.kept (oq20 _ (by omega))
    replace hca := hca.kept (oq20 _ (by omega))
    refine lv_aload_n X.1.1 X.1.2.1 d_History_keep_25 rfl (gl_at hl rfl) ?_
    refine lv_iconst (v := nI 0) X.1.1 X.1.2.1 d_History_keep_26 (by decide) ?_
    refine lv_aload_n X.1.1 X.1.2.1 d_History_keep_27 rfl (gl_at hl rfl) ?_
    refine g_get X kc_History h18 0 (by decide) lk_History_9 rfl d_History_keep_28 ?_
    refine lv_aload_n X.1.1 X.1.2.1 d_History_keep_31 rfl (gl_at hl rfl) ?_
    refine g_get X kc_History h18 2 (by decide) lk_History_18 rfl d_History_keep_32 ?_
    refine lv_bipush (v := nI 120) X.1.1 X.1.2.1 d_History_keep_35 (by decide) ?_
    refine lv_imul X.1.1 X.1.2.1 d_History_keep_37 ?_
    refine g_top (nI (nw1 * 120)) (pk_mul _ _) ?_
    refine lv_iload_n X.1.1 X.1.2.1 d_History_keep_38 rfl (gl_at hl rfl) ?_
    refine g_copyi (A := (fun p => hb ≤ p ∧ p ≤ hb + 2)) X hl.1 mq_History_22.1 mq_History_22.2.1 mq_History_22.2.2.1 mq_History_22.2.2.2 0 hca hlt rfl 0 (nw1 * 120) xs.length (by omega) (by omega) (by decide) (by decide) (by decide) (by decide) d_History_keep_39 (show _ ∧ _ by omega) hL (fun H21 locs h22 z23 oq24 hL => ?_)
    replace h18 := h18.kept (oq24 _ (by omega))
    replace hln := hln.kept (oq24 _ (by omega))
    replace hca := hca.kept (oq24 _ (by omega))
    refine lv_aload_n X.1.1 X.1.2.1 d_History_keep_42 rfl (gl_at hl rfl) ?_
    refine g_get X kc_History h18 1 (by decide) lk_History_15 rfl d_History_keep_43 ?_
    refine lv_aload_n X.1.1 X.1.2.1 d_History_keep_46 rfl (gl_at hl rfl) ?_
    refine g_get X kc_History h18 2 (by decide) lk_History_18 rfl d_History_keep_47 ?_
    refine lv_iload_n X.1.1 X.1.2.1 d_History_keep_50 rfl (gl_at hl rfl) ?_
    refine g_iast (A := (fun p => hb ≤ p ∧ p ≤ hb + 2)) X 0 hln rfl nw1 (by omega) (by decide) d_History_keep_51 (show _ ∧ _ by omega) hL (fun H25 locs h26 z27 oq28 hL => ?_)
    replace h18 := h18.kept (oq28 _ (by omega))
    replace h22 := h22.kept (oq28 _ (by omega))
    replace hca := hca.kept (oq28 _ (by omega))
    refine lv_aload_n X.1.1 X.1.2.1 d_History_keep_52 rfl (gl_at hl rfl) ?_
    refine lv_aload_n X.1.1 X.1.2.1 d_History_keep_53 rfl (gl_at hl rfl) ?_
    refine g_get X kc_History h18 3 (by decide) lk_History_28 rfl d_History_keep_54 ?_
    refine lv_iconst (v := nI 1) X.1.1 X.1.2.1 d_History_keep_57 (by decide) ?_
    refine lv_iadd X.1.1 X.1.2.1 d_History_keep_58 ?_
    refine g_top (nI (us.length + 1)) (nI_add _ _) ?_
    refine lv_bipush (v := nI 20) X.1.1 X.1.2.1 d_History_keep_59 (by decide) ?_
    refine va_mmin X.1.1 X.1.2.1 (by rw [X.1.2.2.1]; exact hl.1.symm) X.1.2.2.2.1 (X.1.2.2.2.2 _ mm_History_31.1) (X.1.2.2.2.2 _ mm_History_31.2.1) (X.1.2.2.2.2 _ mm_History_31.2.2.1) (X.1.2.2.2.2 _ mm_History_31.2.2.2) (by decide) (Nat.le_of_ble_eq_true rfl) (by decide) (by decide) d_History_keep_61 ?_
    refine g_top (nI (if 20 < us.length + 1 then 20 else us.length + 1)) (gn_min (by omega) (by omega)) ?_
    refine g_put (A := (fun p => hb ≤ p ∧ p ≤ hb + 2)) X kc_History h18 3 (by decide) lk_History_28 rfl rfl rfl (Nat.le_of_ble_eq_true rfl) d_History_keep_64 (show _ ∧ _ by omega) hL (fun H29 locs h30 z31 oq32 hL => ?_)
    replace h22 := h22.kept (oq32 _ (by omega))
    replace h26 := h26.kept (oq32 _ (by omega))
    replace hca := hca.kept (oq32 _ (by omega))
    exact g_vret X B ⟨rfl, ⟨nw1, _, _, (by rw [his_len]; exact h30), h22, h26, hnw2, by rw [his_len]; split <;> omega, his_push hnw hus rfl hx hxc hf hr nw1 hnw1⟩, (z31.trans (z27.trans (z23.trans z19))), fun p hp => ((oq32 p (by omega)).trans ((oq28 p (by omega)).trans ((oq24 p (by omega)).trans (oq20 p (by omega)))))⟩ hL d_History_keep_67 (by omega) (by omega)

set_option maxHeartbeats 4000000 in
set_option maxRecDepth 100000 in
theorem c_History_giveBack (l : Launch) (D : va_G) (q : Nat → ClassId) (H : Heap) (hb : Nat) (u : List Nat) (us : List (List Nat)) (hh : hisA D q H hb (u :: us)) (ca : Nat) (f : Nat → Int32) (hca : va_at D CL (ca, .inl (q 0, 120, .inl f)) H) (hcb : ca < hb ∨ hb + 2 < ca) : gC l y_History_giveBack (Cond.code y_History_giveBack b_History_giveBack 3 (some .int) :: gWS) (gR 1 18 0 0) D CL (gY q) (fun _ => True) [.ref hb, .ref ca] H (fun v H1 => v = some (.int (nI u.length)) ∧ u.length ≤ 120 ∧ (∀ x ∈ u, x < 65536) ∧ (∃ f1, va_at D CL (ca, .inl (q 0, 120, .inl f1)) H1 ∧ tX f1 u) ∧ hisA D q H1 hb us ∧ H1.size = H.size ∧ ∀ p : Nat, ¬ ((hb ≤ p ∧ p ≤ hb + 2) ∨ p = ca) → H1[p]? = H[p]?) 0 0 (fun p => (hb ≤ p ∧ p ≤ hb + 2) ∨ p = ca) := by
  refine gC.ofW R_History "giveBack" (by decide) rfl rfl ?_
  intro p e s m below meth c hadm X hE hH B hne
  refine g_entry [some (.ref hb), some (.ref ca), none] rfl rfl (Nat.le_of_ble_eq_true rfl) (fun ls hl => ?_)
  obtain ⟨nw, h, ln, ho, hlt, hln, hnw, hus, hr⟩ := hh
  obtain ⟨u1, u2, u3, u4⟩ := hr 0 (by simp)
  have e0 : (u :: us).getD 0 [] = u := rfl
  rw [e0] at u1 u2 u3 u4
  rw [show (nw + 20 - 0) % 20 = nw by omega] at u3 u4
  have ho : va_at D CL (hb, .inr (7, [.ref (hb + 1), .ref (hb + 2), .int (nI nw), .int (nI (us.length + 1))])) H := ho
  have hus1 : us.length + 1 ≤ 20 := hus
  refine lv_aload_n X.1.1 X.1.2.1 d_History_giveBack_0 rfl (gl_at hl rfl) ?_
  refine g_get X kc_History ho 1 (by decide) lk_History_15 rfl d_History_giveBack_1 ?_
  refine lv_aload_n X.1.1 X.1.2.1 d_History_giveBack_4 rfl (gl_at hl rfl) ?_
  refine g_get X kc_History ho 2 (by decide) lk_History_18 rfl d_History_giveBack_5 ?_
  refine g_iald X 0 hln rfl nw (by omega) (by decide) d_History_giveBack_8 ?_
  refine g_top (nI u.length) u3 ?_
  refine g_istn X.1.1 X.1.2.1 hl 2 d_History_giveBack_9 rfl (Nat.le_of_ble_eq_true rfl) rfl (fun ls hl => ?_)
  refine lv_aload_n X.1.1 X.1.2.1 d_History_giveBack_10 rfl (gl_at hl rfl) ?_
  refine g_get X kc_History ho 0 (by decide) lk_History_9 rfl d_History_giveBack_11 ?_
  refine lv_aload_n X.1.1 X.1.2.1 d_History_giveBack_14 rfl (gl_at hl rfl) ?_
  refine g_get X kc_History ho 2 (by decide) lk_History_18 rfl d_History_giveBack_15 ?_
  refine lv_bipush (v := nI 120) X.1.1 X.1.2.1 d_History_giveBack_18 (by decide) ?_
  refine lv_imul X.1.1 X.1.2.1 d_History_giveBack_20 ?_
  refine g_top (nI (nw * 120)) (pk_mul _ _) ?_
  refine lv_aload_n X.1.1 X.1.2.1 d_History_giveBack_21 rfl (gl_at hl rfl) ?_
  refine lv_iconst (v := nI 0) X.1.1 X.1.2.1 d_History_giveBack_22 (by decide) ?_
  refine lv_iload_n X.1.1 X.1.2.1 d_History_giveBack_23 rfl (gl_at hl rfl) ?_
  refine g_copyi (A := (fun p => (hb ≤ p ∧ p ≤ hb + 2) ∨ p = ca)) X hl.1 mq_History_22.1 mq_History_22.2.1 mq_History_22.2.2.1 mq_History_22.2.2.2 0 hlt hca rfl (nw * 120) 0 u.length (by omega) (by omega) (by decide) (by decide) (by decide) (by decide) d_History_giveBack_24 (Or.inr rfl) (fun _ h => by cases h) (fun H1 locs h2 z3 oq4 hL => ?_)
  replace ho := ho.kept (oq4 _ (by omega))
  replace hlt := hlt.kept (oq4 _ (by omega))
  replace hln := hln.kept (oq4 _ (by omega))
  refine lv_aload_n X.1.1 X.1.2.1 d_History_giveBack_27 rfl (gl_at hl rfl) ?_
  refine lv_aload_n X.1.1 X.1.2.1 d_History_giveBack_28 rfl (gl_at hl rfl) ?_
  refine g_get X kc_History ho 2 (by decide) lk_History_18 rfl d_History_giveBack_29 ?_
  refine gn_le0 X.1.1 X.1.2.1 nw (by omega) d_History_giveBack_32 rfl (fun hc32 => ?_) (fun hc32 => ?_)
  · refine lv_bipush (v := nI 19) X.1.1 X.1.2.1 d_History_giveBack_44 (by decide) ?_
    obtain ⟨nw1, hnw1⟩ : ∃ z, z = (nw + 19) % 20 := ⟨_, rfl⟩
    refine g_top (nI nw1) (by rw [hnw1]; congr 1; omega) ?_
    have hnw2 : nw1 < 20 := by omega
    refine g_put (A := (fun p => (hb ≤ p ∧ p ≤ hb + 2) ∨ p = ca)) X kc_History ho 2 (by decide) lk_History_18 rfl rfl rfl (Nat.le_of_ble_eq_true rfl) d_History_giveBack_46 (Or.inl (show _ ∧ _ by omega)) hL (fun H5 locs h6 z7 oq8 hL => ?_)
    replace hlt := hlt.kept (oq8 _ (by omega))
    replace hln := hln.kept (oq8 _ (by omega))
    replace h2 := h2.kept (oq8 _ (by omega))
    refine lv_aload_n X.1.1 X.1.2.1 d_History_giveBack_49 rfl (gl_at hl rfl) ?_
    refine lv_dup X.1.1 X.1.2.1 d_History_giveBack_50 rfl ?_
    refine g_get X kc_History h6 3 (by decide) lk_History_28 rfl d_History_giveBack_51 ?_
    refine lv_iconst (v := nI 1) X.1.1 X.1.2.1 d_History_giveBack_54 (by decide) ?_
    refine lv_isub X.1.1 X.1.2.1 d_History_giveBack_55 ?_
    refine g_top (nI ((us.length + 1) - 1)) (pk_sub (by omega)) ?_
    refine g_top (nI us.length) rfl ?_
    refine g_put (A := (fun p => (hb ≤ p ∧ p ≤ hb + 2) ∨ p = ca)) X kc_History h6 3 (by decide) lk_History_28 rfl rfl rfl (Nat.le_of_ble_eq_true rfl) d_History_giveBack_56 (Or.inl (show _ ∧ _ by omega)) hL (fun H9 locs h10 z11 oq12 hL => ?_)
    replace hlt := hlt.kept (oq12 _ (by omega))
    replace hln := hln.kept (oq12 _ (by omega))
    replace h2 := h2.kept (oq12 _ (by omega))
    refine lv_iload_n X.1.1 X.1.2.1 d_History_giveBack_59 rfl (gl_at hl rfl) ?_
    exact g_iret X B ⟨rfl, u1, u2, ⟨_, h2, fun j hj => by rw [pk_cpy_in (Nat.zero_le _) (by omega), Nat.sub_zero]; exact u4 j hj⟩, ⟨nw1, h, ln, h10, hlt, hln, hnw2, by (have h9 : (u :: us).length = us.length + 1 := rfl); omega, his_pop hnw hus hr nw1 hnw1⟩, (z11.trans (z7.trans z3)), fun p hp => ((oq12 p (by omega)).trans ((oq8 p (by omega)).trans (oq4 p (by omega))))⟩ hL d_History_giveBack_60 (by omega) (by omega)
  · refine lv_aload_n X.1.1 X.1.2.1 d_History_giveBack_35 rfl (gl_at hl rfl) ?_
    refine g_get X kc_History ho 2 (by decide) lk_History_18 rfl d_History_giveBack_36 ?_
    refine lv_iconst (v := nI 1) X.1.1 X.1.2.1 d_History_giveBack_39 (by decide) ?_
    refine lv_isub X.1.1 X.1.2.1 d_History_giveBack_40 ?_
    refine g_top (nI (nw - 1)) (pk_sub (by omega)) ?_
    refine lv_goto X.1.1 X.1.2.1 d_History_giveBack_41 rfl ?_
    obtain ⟨nw1, hnw1⟩ : ∃ z, z = (nw + 19) % 20 := ⟨_, rfl⟩
    refine g_top (nI nw1) (by rw [hnw1]; congr 1; omega) ?_
    have hnw2 : nw1 < 20 := by omega
    refine g_put (A := (fun p => (hb ≤ p ∧ p ≤ hb + 2) ∨ p = ca)) X kc_History ho 2 (by decide) lk_History_18 rfl rfl rfl (Nat.le_of_ble_eq_true rfl) d_History_giveBack_46 (Or.inl (show _ ∧ _ by omega)) hL (fun H13 locs h14 z15 oq16 hL => ?_)
    replace hlt := hlt.kept (oq16 _ (by omega))
    replace hln := hln.kept (oq16 _ (by omega))
    replace h2 := h2.kept (oq16 _ (by omega))
    refine lv_aload_n X.1.1 X.1.2.1 d_History_giveBack_49 rfl (gl_at hl rfl) ?_
    refine lv_dup X.1.1 X.1.2.1 d_History_giveBack_50 rfl ?_
    refine g_get X kc_History h14 3 (by decide) lk_History_28 rfl d_History_giveBack_51 ?_
    refine lv_iconst (v := nI 1) X.1.1 X.1.2.1 d_History_giveBack_54 (by decide) ?_
    refine lv_isub X.1.1 X.1.2.1 d_History_giveBack_55 ?_
    refine g_top (nI ((us.length + 1) - 1)) (pk_sub (by omega)) ?_
    refine g_top (nI us.length) rfl ?_
    refine g_put (A := (fun p => (hb ≤ p ∧ p ≤ hb + 2) ∨ p = ca)) X kc_History h14 3 (by decide) lk_History_28 rfl rfl rfl (Nat.le_of_ble_eq_true rfl) d_History_giveBack_56 (Or.inl (show _ ∧ _ by omega)) hL (fun H17 locs h18 z19 oq20 hL => ?_)
    replace hlt := hlt.kept (oq20 _ (by omega))
    replace hln := hln.kept (oq20 _ (by omega))
    replace h2 := h2.kept (oq20 _ (by omega))
    refine lv_iload_n X.1.1 X.1.2.1 d_History_giveBack_59 rfl (gl_at hl rfl) ?_
    exact g_iret X B ⟨rfl, u1, u2, ⟨_, h2, fun j hj => by rw [pk_cpy_in (Nat.zero_le _) (by omega), Nat.sub_zero]; exact u4 j hj⟩, ⟨nw1, h, ln, h18, hlt, hln, hnw2, by (have h9 : (u :: us).length = us.length + 1 := rfl); omega, his_pop hnw hus hr nw1 hnw1⟩, (z19.trans (z15.trans z3)), fun p hp => ((oq20 p (by omega)).trans ((oq16 p (by omega)).trans (oq4 p (by omega))))⟩ hL d_History_giveBack_60 (by omega) (by omega)

set_option maxHeartbeats 4000000 in
set_option maxRecDepth 100000 in
theorem c_History_init (l : Launch) (D : va_G) (q : Nat → ClassId) (H : Heap) (hb : Nat) (hz : H.size = hb + 1) (ho : va_at D CL (hb, .inr (7, [.null, .null, .int 0, .int 0])) H) : gC l y_History_init (Cond.code y_History_init b_History_init 1 none :: gWS) (gR 1 12 2 2420) D CL (gY q) (fun _ => True) [.ref hb] H (fun v H1 => v = none ∧ hisA D q H1 hb [] ∧ H1.size = hb + 3 ∧ ∀ p : Nat, p < hb → H1[p]? = H[p]?) 2 2420 (fun p => hb ≤ p) := by
  refine gC.ofW R_History "<init>" (by decide) rfl rfl ?_
  intro p e s m below meth c hadm X hE hH B hne
  refine g_entry [some (.ref hb)] rfl rfl (Nat.le_of_ble_eq_true rfl) (fun ls hl => ?_)
  refine lv_aload_n X.1.1 X.1.2.1 d_History_init_0 rfl (gl_at hl rfl) ?_
  refine W.objInit X.1.1 X.1.2.1 X.1.2.2.2.1 (X.1.2.2.2.2 _ mo_History_3.1) (X.1.2.2.2.2 _ mo_History_3.2.1) (X.1.2.2.2.2 _ mo_History_3.2.2) rfl (by rw [X.1.2.2.1]; exact hl.1) rfl d_History_init_1 (Nat.le_of_ble_eq_true rfl) (Nat.le_of_ble_eq_true rfl) ?_
  refine W.eq (g2 := F0 m 4 ls []) rfl ?_
  refine lv_aload_n X.1.1 X.1.2.1 d_History_init_4 rfl (gl_at hl rfl) ?_
  refine lv_sipush (v := nI 2400) X.1.1 X.1.2.1 d_History_init_5 (by decide) ?_
  refine g_newi X 0 rfl ka_int 2400 (by decide) (Nat.le_of_ble_eq_true rfl) (Nat.le_of_ble_eq_true rfl) d_History_init_8 (fun H1 h2 z3 o4 => ?_)
  rw [hz] at h2 z3 o4 ⊢
  replace ho := ho.kept (o4 _ (by omega))
  refine g_putF (A := (fun p => hb ≤ p)) X B.2.2 kc_History ho 0 (by decide) lk_History_9 rfl rfl rfl rfl (Nat.le_of_ble_eq_true rfl) d_History_init_10 (show hb ≤ _ by omega) (fun _ h => by cases h) (fun H5 locs h6 z7 oq8 hL => ?_)
  replace h2 := h2.kept (oq8 _ (by omega))
  have hz9 := z7.trans z3
  refine lv_aload_n X.1.1 X.1.2.1 d_History_init_13 rfl (gl_at hl rfl) ?_
  refine lv_bipush (v := nI 20) X.1.1 X.1.2.1 d_History_init_14 (by decide) ?_
  refine g_newi X 0 rfl ka_int 20 (by decide) (Nat.le_of_ble_eq_true rfl) (Nat.le_of_ble_eq_true rfl) d_History_init_16 (fun H10 h11 z12 o13 => ?_)
  rw [hz9] at h11 z12 o13 ⊢
  replace h6 := h6.kept (o13 _ (by omega))
  replace h2 := h2.kept (o13 _ (by omega))
  refine g_putF (A := (fun p => hb ≤ p)) X B.2.2 kc_History h6 1 (by decide) lk_History_15 rfl rfl rfl rfl (Nat.le_of_ble_eq_true rfl) d_History_init_18 (show hb ≤ _ by omega) hL (fun H14 locs h15 z16 oq17 hL => ?_)
  replace h2 := h2.kept (oq17 _ (by omega))
  replace h11 := h11.kept (oq17 _ (by omega))
  have hz18 := z16.trans z12
  exact g_vret X B ⟨rfl, ⟨0, _, _, h15, h2, h11, by omega, by simp, fun i hi => absurd hi (Nat.not_lt_zero i)⟩, by omega, fun p hp => ((oq17 p (by omega)).trans ((o13 p (by omega)).trans ((oq8 p (by omega)).trans (o4 p (by omega)))))⟩ hL d_History_init_21 (by omega) (by omega)
end
section
/-! sorting suffixes: pure -/
/-- the suffixes from n - m on, in order -/
def sfP (xs : List Nat) (n m : Nat) (st : Nat → Nat) : Prop := (∀ i, i < m → n - m ≤ st i ∧ st i < n) ∧ (∀ p, n - m ≤ p → p < n → ∃ i, i < m ∧ st i = p) ∧ ∀ i j, i < j → j < m → t_ord (xs.drop (st i)) (xs.drop (st j)) < 0
/-- the two arrays while a suffix is put in at r -/
def sfI (F K : Nat → Int32) (n m r : Nat) (st : Nat → Nat) : Prop := (∀ j, j < r → F j = nI (st j)) ∧ (∀ j, r ≤ j → j < m → F (j + 1) = nI (st j)) ∧ (∀ i, i < m → K (st i) = nI (if r ≤ i then i + 1 else i)) ∧ K n = -1
def sf_ins (st : Nat → Nat) (r a : Nat) : Nat → Nat := fun j => if j < r then st j else if j = r then a else st (j - 1)
theorem sfP_0 (xs : List Nat) (n : Nat) (st : Nat → Nat) : sfP xs n 0 st := ⟨fun i h => absurd h (Nat.not_lt_zero i), fun p h1 h2 => by omega, fun i j _ h => absurd h (Nat.not_lt_zero j)⟩
theorem sfP_inj {xs : List Nat} {n m : Nat} {st : Nat → Nat} (h : sfP xs n m st) {i j : Nat} (hi : i < m) (hj : j < m) (e : st i = st j) : i = j := by
  rcases Nat.lt_trichotomy i j with h1 | h1 | h1
  · have := h.2.2 i j h1 hj
    rw [e, t_ord_refl] at this
    omega
  · exact h1
  · have := h.2.2 j i h1 hi
    rw [e, t_ord_refl] at this
    omega
theorem sfP_lt {xs : List Nat} {n m : Nat} {st : Nat → Nat} (h : sfP xs n m st) {i j : Nat} (hi : i < m) (hj : j < m) : i < j ↔ t_ord (xs.drop (st i)) (xs.drop (st j)) < 0 := by
  constructor
  · intro h1
    exact h.2.2 i j h1 hj
  · intro h1
    rcases Nat.lt_trichotomy i j with h2 | h2 | h2
    · exact h2
    · subst h2
      rw [t_ord_refl] at h1
      omega
    · have h3 := h.2.2 j i h2 hi
      have h4 := t_ord_anti (xs.drop (st i)) (xs.drop (st j))
      omega
theorem sf_drop {xs : List Nat} {i : Nat} (h : i < xs.length) : xs.drop i = xs.getD i 0 :: xs.drop (i + 1) := by
  rw [List.drop_eq_getElem_cons h, List.getD_eq_getElem?_getD, List.getElem?_eq_getElem h]
  rfl
/-- what isLess compares -/
def sf_less (xs : List Nat) (K : Nat → Int32) (i j : Nat) : Prop := if xs.getD i 0 = xs.getD j 0 then K (i + 1) < K (j + 1) else xs.getD i 0 < xs.getD j 0
theorem sf_neg1 {k : Nat} (h : k < 2 ^ 31) : (-1 : Int32) < nI k ∧ ¬ nI k < (-1 : Int32) := by
  have e : ((-1 : Int32)).toInt = -1 := by decide
  rw [Int32.lt_iff_toInt_lt, Int32.lt_iff_toInt_lt, nI_toInt h, e]
  omega
theorem sf_less_iff {xs : List Nat} {F K : Nat → Int32} {n m r : Nat} {st : Nat → Nat} (hn : n = xs.length) (hn2 : n < 2 ^ 30) (hP : sfP xs n m st) (hI : sfI F K n m r st) (hm : m < n) {i : Nat} (hi : i < m) : sf_less xs K (n - m - 1) (st i) ↔ t_ord (xs.drop (n - m - 1)) (xs.drop (st i)) < 0 := by
  obtain ⟨b1, b2⟩ := hP.1 i hi
  rw [sf_drop (xs := xs) (i := n - m - 1) (by omega), sf_drop (xs := xs) (i := st i) (by omega), t_ord]
  unfold sf_less
  by_cases he : xs.getD (n - m - 1) 0 = xs.getD (st i) 0
  · rw [if_pos he, if_pos he, show n - m - 1 + 1 = n - m by omega]
    obtain ⟨a, ha, ea⟩ := hP.2.1 (n - m) (Nat.le_refl _) (by omega)
    have ka := hI.2.2.1 a ha
    by_cases hj : st i + 1 = n
    · rw [hj, hI.2.2.2, ← ea, ka, show xs.drop n = [] by rw [hn]; exact List.drop_length]
      constructor
      · intro h9
        exact absurd h9 (sf_neg1 (by split <;> omega)).2
      · intro h9
        rw [sf_drop (xs := xs) (i := st a) (by omega)] at h9
        simp [t_ord] at h9
        omega
    · obtain ⟨d, hd, ed⟩ := hP.2.1 (st i + 1) (by omega) (by omega)
      have kd := hI.2.2.1 d hd
      rw [← ea, ← ed, ka, kd, ← sfP_lt hP ha hd, nI_ltI (by split <;> omega) (by split <;> omega)]
      by_cases h1 : r ≤ a <;> by_cases h2 : r ≤ d <;> simp only [h1, h2, if_true, if_false] <;> omega
  · rw [if_neg he, if_neg he]
    omega
theorem sfI_step {xs : List Nat} {F K : Nat → Int32} {n m r : Nat} {st : Nat → Nat} (hP : sfP xs n m st) (hI : sfI F K n m r st) (h0 : 0 < r) (hr : r ≤ m) : sfI (upd F r (nI (st (r - 1)))) (upd K (st (r - 1)) (nI r)) n m (r - 1) st := by
  obtain ⟨i1, i2, i3, i4⟩ := hI
  refine ⟨fun j hj => ?_, fun j h1 h2 => ?_, fun i hi => ?_, ?_⟩
  · rw [pk_un (by omega)]
    exact i1 j (by omega)
  · by_cases h9 : j + 1 = r
    · rw [h9, pk_us, show r - 1 = j by omega]
    · rw [pk_un h9]
      exact i2 j (by omega) h2
  · by_cases h9 : i = r - 1
    · rw [h9, pk_us, if_pos (by omega)]
      congr 1
      omega
    · rw [pk_un (fun h8 => h9 (sfP_inj hP hi (by omega) h8)), i3 i hi]
      by_cases h8 : r ≤ i
      · rw [if_pos h8, if_pos (by omega)]
      · rw [if_neg h8, if_neg (by omega)]
  · rw [pk_un (fun h8 => by have := (hP.1 (r - 1) (by omega)).2; omega)]
    exact i4
theorem sfI_new {xs : List Nat} {F K : Nat → Int32} {n m r : Nat} {st : Nat → Nat} (hP : sfP xs n m st) (hI : sfI F K n m r st) (hr : r ≤ m) (hm : m < n) : sfI (upd F r (nI (n - m - 1))) (upd K (n - m - 1) (nI r)) n (m + 1) (m + 1) (sf_ins st r (n - m - 1)) := by
  obtain ⟨i1, i2, i3, i4⟩ := hI
  refine ⟨fun j hj => ?_, fun j h1 h2 => by omega, fun i hi => ?_, ?_⟩
  · unfold sf_ins
    by_cases h1 : j < r
    · rw [if_pos h1, pk_un (by omega)]
      exact i1 j h1
    · rw [if_neg h1]
      by_cases h2 : j = r
      · rw [if_pos h2, h2, pk_us]
      · rw [if_neg h2, pk_un h2]
        have := i2 (j - 1) (by omega) (by omega)
        rw [show j - 1 + 1 = j by omega] at this
        exact this
  · rw [if_neg (by omega)]
    unfold sf_ins
    by_cases h1 : i < r
    · rw [if_pos h1, pk_un (by have := (hP.1 i (by omega)).1; omega), i3 i (by omega), if_neg (by omega)]
    · rw [if_neg h1]
      by_cases h2 : i = r
      · rw [if_pos h2, pk_us, h2]
      · rw [if_neg h2, pk_un (by have := (hP.1 (i - 1) (by omega)).1; omega), i3 (i - 1) (by omega), if_pos (by omega)]
        congr 1
        omega
  · rw [pk_un (by omega)]
    exact i4
theorem sfP_new {xs : List Nat} {n m r : Nat} {st : Nat → Nat} (hn : n = xs.length) (hP : sfP xs n m st) (hr : r ≤ m) (hm : m < n) (h1 : ∀ i, r ≤ i → i < m → t_ord (xs.drop (n - m - 1)) (xs.drop (st i)) < 0) (h2 : 0 < r → ¬ t_ord (xs.drop (n - m - 1)) (xs.drop (st (r - 1))) < 0) : sfP xs n (m + 1) (sf_ins st r (n - m - 1)) := by
  have hlow : ∀ i, i < r → t_ord (xs.drop (st i)) (xs.drop (n - m - 1)) < 0 := by
    intro i hi
    have a1 := h2 (by omega)
    have a2 := t_ord_anti (xs.drop (n - m - 1)) (xs.drop (st (r - 1)))
    have a3 : t_ord (xs.drop (n - m - 1)) (xs.drop (st (r - 1))) ≠ 0 := by
      intro h9
      have h8 := congrArg List.length (t_ord_eq _ _ h9)
      have h7 := hP.1 (r - 1) (by omega)
      simp at h8
      omega
    have a4 : t_ord (xs.drop (st (r - 1))) (xs.drop (n - m - 1)) < 0 := by omega
    by_cases h9 : i = r - 1
    · rw [h9]
      exact a4
    · exact t_ord_trans _ _ _ (hP.2.2 i (r - 1) (by omega) (by omega)) a4
  refine ⟨fun i hi => ?_, fun p hp1 hp2 => ?_, fun i j hij hj => ?_⟩
  · unfold sf_ins
    by_cases h3 : i < r
    · rw [if_pos h3]
      have := hP.1 i (by omega)
      omega
    · rw [if_neg h3]
      by_cases h4 : i = r
      · rw [if_pos h4]
        omega
      · rw [if_neg h4]
        have := hP.1 (i - 1) (by omega)
        omega
  · by_cases h3 : p = n - m - 1
    · exact ⟨r, by omega, by unfold sf_ins; rw [if_neg (by omega), if_pos rfl, h3]⟩
    · obtain ⟨i, hi, ei⟩ := hP.2.1 p (by omega) hp2
      by_cases h4 : i < r
      · exact ⟨i, by omega, by unfold sf_ins; rw [if_pos h4, ei]⟩
      · exact ⟨i + 1, by omega, by unfold sf_ins; rw [if_neg (by omega), if_neg (by omega), show i + 1 - 1 = i by omega, ei]⟩
  · unfold sf_ins
    by_cases h3 : i < r
    · rw [if_pos h3]
      by_cases h4 : j < r
      · rw [if_pos h4]
        exact hP.2.2 i j hij (by omega)
      · rw [if_neg h4]
        by_cases h5 : j = r
        · rw [if_pos h5]
          exact hlow i h3
        · rw [if_neg h5]
          exact hP.2.2 i (j - 1) (by omega) (by omega)
    · rw [if_neg h3]
      by_cases h6 : i = r
      · rw [if_pos h6, if_neg (by omega), if_neg (by omega)]
        exact h1 (j - 1) (by omega) (by omega)
      · rw [if_neg h6, if_neg (by omega), if_neg (by omega)]
        exact hP.2.2 (i - 1) (j - 1) (by omega) (by omega)
theorem gs_pos {k : Nat} (h : 0 < k) : nI k - 1 = nI (k - 1) := pk_sub (a := k) (b := 1) h
theorem gs_lt {k : Nat} (hk : k < 2 ^ 30) (h : nI k - 1 < 0) : k = 0 := by
  rcases Nat.eq_zero_or_pos k with h9 | h9
  · exact h9
  · rw [gs_pos h9] at h
    exact absurd h (nI_pos (by omega))
theorem gs_nlt {k : Nat} (h : ¬ nI k - 1 < 0) : 0 < k := by
  rcases Nat.eq_zero_or_pos k with h9 | h9
  · rw [h9] at h
    exact absurd (by decide) h
  · exact h9
theorem gs_inc (x : Int32) : x + Int32.ofInt (-1) = x - 1 := by
  rw [Int32.sub_eq_add_neg]
  rfl
end
section
/-! the class SuffixOrder: printed by wip/specs/suffix.py -/
set_option maxHeartbeats 4000000 in
set_option maxRecDepth 100000 in
theorem c_SuffixOrder_init (l : Launch) (D : va_G) (q : Nat → ClassId) (H : Heap) (sb : Nat) (hz : H.size = sb + 1) (ho : va_at D CL (sb, .inr (8, [.null, .null])) H) : gC l y_SuffixOrder_init (Cond.code y_SuffixOrder_init b_SuffixOrder_init 1 none :: gWS) (gR 1 12 2 241) D CL (gY q) (fun _ => True) [.ref sb] H (fun v H1 => v = none ∧ va_at D CL (sb, .inr (8, [.ref (sb + 1), .ref (sb + 2)])) H1 ∧ (∃ F, va_at D CL (sb + 1, .inl (q 0, 120, .inl F)) H1) ∧ (∃ K, va_at D CL (sb + 2, .inl (q 0, 121, .inl K)) H1) ∧ H1.size = sb + 3 ∧ ∀ p : Nat, p < sb → H1[p]? = H[p]?) 2 241 (fun p => sb ≤ p) := by
  refine gC.ofW R_SuffixOrder "<init>" (by decide) rfl rfl ?_
  intro p e s m below meth c hadm X hE hH B hne
  refine g_entry [some (.ref sb)] rfl rfl (Nat.le_of_ble_eq_true rfl) (fun ls hl => ?_)
  refine lv_aload_n X.1.1 X.1.2.1 d_SuffixOrder_init_0 rfl (gl_at hl rfl) ?_
  refine W.objInit X.1.1 X.1.2.1 X.1.2.2.2.1 (X.1.2.2.2.2 _ mo_SuffixOrder_3.1) (X.1.2.2.2.2 _ mo_SuffixOrder_3.2.1) (X.1.2.2.2.2 _ mo_SuffixOrder_3.2.2) rfl (by rw [X.1.2.2.1]; exact hl.1) rfl d_SuffixOrder_init_1 (Nat.le_of_ble_eq_true rfl) (Nat.le_of_ble_eq_true rfl) ?_
  refine W.eq (g2 := F0 m 4 ls []) rfl ?_
  refine lv_aload_n X.1.1 X.1.2.1 d_SuffixOrder_init_4 rfl (gl_at hl rfl) ?_
  refine lv_bipush (v := nI 120) X.1.1 X.1.2.1 d_SuffixOrder_init_5 (by decide) ?_
  refine g_newi X 0 rfl ka_int 120 (by decide) (Nat.le_of_ble_eq_true rfl) (Nat.le_of_ble_eq_true rfl) d_SuffixOrder_init_7 (fun H1 h2 z3 o4 => ?_)
  rw [hz] at h2 z3 o4 ⊢
  replace ho := ho.kept (o4 _ (by omega))
  refine g_putF (A := (fun p => sb ≤ p)) X B.2.2 kc_SuffixOrder ho 0 (by decide) lk_SuffixOrder_9 rfl rfl rfl rfl (Nat.le_of_ble_eq_true rfl) d_SuffixOrder_init_9 (show sb ≤ _ by omega) (fun _ h => by cases h) (fun H5 locs h6 z7 oq8 hL => ?_)
  replace h2 := h2.kept (oq8 _ (by omega))
  have hz9 := z7.trans z3
  refine lv_aload_n X.1.1 X.1.2.1 d_SuffixOrder_init_12 rfl (gl_at hl rfl) ?_
  refine lv_bipush (v := nI 121) X.1.1 X.1.2.1 d_SuffixOrder_init_13 (by decide) ?_
  refine g_newi X 0 rfl ka_int 121 (by decide) (Nat.le_of_ble_eq_true rfl) (Nat.le_of_ble_eq_true rfl) d_SuffixOrder_init_15 (fun H10 h11 z12 o13 => ?_)
  rw [hz9] at h11 z12 o13 ⊢
  replace h6 := h6.kept (o13 _ (by omega))
  replace h2 := h2.kept (o13 _ (by omega))
  refine g_putF (A := (fun p => sb ≤ p)) X B.2.2 kc_SuffixOrder h6 1 (by decide) lk_SuffixOrder_15 rfl rfl rfl rfl (Nat.le_of_ble_eq_true rfl) d_SuffixOrder_init_17 (show sb ≤ _ by omega) hL (fun H14 locs h15 z16 oq17 hL => ?_)
  replace h2 := h2.kept (oq17 _ (by omega))
  replace h11 := h11.kept (oq17 _ (by omega))
  have hz18 := z16.trans z12
  exact g_vret X B ⟨rfl, h15, ⟨_, h2⟩, ⟨_, h11⟩, by omega, fun p hp => ((oq17 p (by omega)).trans ((o13 p (by omega)).trans ((oq8 p (by omega)).trans (o4 p (by omega)))))⟩ hL d_SuffixOrder_init_20 (by omega) (by omega)

noncomputable def sf_dec (xs : List Nat) (K : Nat → Int32) (i j : Nat) : Decidable (sf_less xs K i j) := Classical.propDecidable _

set_option maxHeartbeats 4000000 in
set_option maxRecDepth 100000 in
theorem c_SuffixOrder_isLess (l : Launch) (D : va_G) (q : Nat → ClassId) (H : Heap) (sb : Nat) (K : Nat → Int32) (ho : va_at D CL (sb, .inr (8, [.ref (sb + 1), .ref (sb + 2)])) H) (hK : va_at D CL (sb + 2, .inl (q 0, 121, .inl K)) H) (ca : Nat) (f : Nat → Int32) (hca : va_at D CL (ca, .inl (q 0, 120, .inl f)) H) (xs : List Nat) (hxl : xs.length ≤ 120) (hxc : ∀ x ∈ xs, x < 65536) (hf : tX f xs) (i j : Nat) (hi : i < xs.length) (hj : j < xs.length) : gC l y_SuffixOrder_isLess (Cond.code y_SuffixOrder_isLess b_SuffixOrder_isLess 4 (some .boolean) :: gWS) (gR 0 0 0 0) D CL (gY q) (fun _ => True) [.ref sb, .ref ca, .int (nI i), .int (nI j)] H (fun v H1 => v = some (.int (nI (@ite _ (sf_less xs K i j) (sf_dec xs K i j) 1 0))) ∧ H1 = H) 0 0 (fun _ => False) := by
  refine gC.ofW R_SuffixOrder "isLess" (by decide) rfl rfl ?_
  intro p e s m below meth c hadm X hE hH B hne
  refine g_entry [some (.ref sb), some (.ref ca), some (.int (nI i)), some (.int (nI j))] rfl rfl (Nat.le_of_ble_eq_true rfl) (fun ls hl => ?_)
  have e1 := t_lt hxc i
  have e2 := t_lt hxc j
  refine lv_aload_n X.1.1 X.1.2.1 d_SuffixOrder_isLess_0 rfl (gl_at hl rfl) ?_
  refine lv_iload_n X.1.1 X.1.2.1 d_SuffixOrder_isLess_1 rfl (gl_at hl rfl) ?_
  refine g_iald X 0 hca rfl i (by omega) (by decide) d_SuffixOrder_isLess_2 ?_
  refine g_top (nI (xs.getD i 0)) (hf _ (by omega)) ?_
  refine lv_aload_n X.1.1 X.1.2.1 d_SuffixOrder_isLess_3 rfl (gl_at hl rfl) ?_
  refine lv_iload_n X.1.1 X.1.2.1 d_SuffixOrder_isLess_4 rfl (gl_at hl rfl) ?_
  refine g_iald X 0 hca rfl j (by omega) (by decide) d_SuffixOrder_isLess_5 ?_
  refine g_top (nI (xs.getD j 0)) (hf _ (by omega)) ?_
  refine gn_eq X.1.1 X.1.2.1 (xs.getD i 0) (xs.getD j 0) (by omega) (by omega) d_SuffixOrder_isLess_6 rfl (fun hc6 => ?_) (fun hc6 => ?_)
  · refine lv_aload_n X.1.1 X.1.2.1 d_SuffixOrder_isLess_24 rfl (gl_at hl rfl) ?_
    refine g_get X kc_SuffixOrder ho 1 (by decide) lk_SuffixOrder_15 rfl d_SuffixOrder_isLess_25 ?_
    refine lv_iload_n X.1.1 X.1.2.1 d_SuffixOrder_isLess_28 rfl (gl_at hl rfl) ?_
    refine lv_iconst (v := nI 1) X.1.1 X.1.2.1 d_SuffixOrder_isLess_29 (by decide) ?_
    refine lv_iadd X.1.1 X.1.2.1 d_SuffixOrder_isLess_30 ?_
    refine g_top (nI (i + 1)) (nI_add _ _) ?_
    refine g_iald X 0 hK rfl (i + 1) (by omega) (by decide) d_SuffixOrder_isLess_31 ?_
    refine lv_aload_n X.1.1 X.1.2.1 d_SuffixOrder_isLess_32 rfl (gl_at hl rfl) ?_
    refine g_get X kc_SuffixOrder ho 1 (by decide) lk_SuffixOrder_15 rfl d_SuffixOrder_isLess_33 ?_
    refine lv_iload_n X.1.1 X.1.2.1 d_SuffixOrder_isLess_36 rfl (gl_at hl rfl) ?_
    refine lv_iconst (v := nI 1) X.1.1 X.1.2.1 d_SuffixOrder_isLess_37 (by decide) ?_
    refine lv_iadd X.1.1 X.1.2.1 d_SuffixOrder_isLess_38 ?_
    refine g_top (nI (j + 1)) (nI_add _ _) ?_
    refine g_iald X 0 hK rfl (j + 1) (by omega) (by decide) d_SuffixOrder_isLess_39 ?_
    refine lv_icmp_ge X.1.1 X.1.2.1 d_SuffixOrder_isLess_40 rfl (fun hc40 => ?_) (fun hc40 => ?_)
    · refine lv_iconst (v := nI 0) X.1.1 X.1.2.1 d_SuffixOrder_isLess_47 (by decide) ?_
      exact g_zret X B (by decide) ⟨by rw [if_neg (by unfold sf_less; rw [if_pos hc6]; exact Int32.not_lt.mpr hc40)], rfl⟩ (fun _ h => by cases h) d_SuffixOrder_isLess_48 (by omega) (by omega)
    · refine lv_iconst (v := nI 1) X.1.1 X.1.2.1 d_SuffixOrder_isLess_43 (by decide) ?_
      refine lv_goto X.1.1 X.1.2.1 d_SuffixOrder_isLess_44 rfl ?_
      exact g_zret X B (by decide) ⟨by rw [if_pos (by unfold sf_less; rw [if_pos hc6]; exact Int32.not_le.mp hc40)], rfl⟩ (fun _ h => by cases h) d_SuffixOrder_isLess_48 (by omega) (by omega)
  · refine lv_aload_n X.1.1 X.1.2.1 d_SuffixOrder_isLess_9 rfl (gl_at hl rfl) ?_
    refine lv_iload_n X.1.1 X.1.2.1 d_SuffixOrder_isLess_10 rfl (gl_at hl rfl) ?_
    refine g_iald X 0 hca rfl i (by omega) (by decide) d_SuffixOrder_isLess_11 ?_
    refine g_top (nI (xs.getD i 0)) (hf _ (by omega)) ?_
    refine lv_aload_n X.1.1 X.1.2.1 d_SuffixOrder_isLess_12 rfl (gl_at hl rfl) ?_
    refine lv_iload_n X.1.1 X.1.2.1 d_SuffixOrder_isLess_13 rfl (gl_at hl rfl) ?_
    refine g_iald X 0 hca rfl j (by omega) (by decide) d_SuffixOrder_isLess_14 ?_
    refine g_top (nI (xs.getD j 0)) (hf _ (by omega)) ?_
    refine gn_ge X.1.1 X.1.2.1 (xs.getD i 0) (xs.getD j 0) (by omega) (by omega) d_SuffixOrder_isLess_15 rfl (fun hc15 => ?_) (fun hc15 => ?_)
    · refine lv_iconst (v := nI 0) X.1.1 X.1.2.1 d_SuffixOrder_isLess_22 (by decide) ?_
      exact g_zret X B (by decide) ⟨by rw [if_neg (by unfold sf_less; rw [if_neg hc6]; omega)], rfl⟩ (fun _ h => by cases h) d_SuffixOrder_isLess_23 (by omega) (by omega)
    · refine lv_iconst (v := nI 1) X.1.1 X.1.2.1 d_SuffixOrder_isLess_18 (by decide) ?_
      refine lv_goto X.1.1 X.1.2.1 d_SuffixOrder_isLess_19 rfl ?_
      exact g_zret X B (by decide) ⟨by rw [if_pos (by unfold sf_less; rw [if_neg hc6]; exact hc15)], rfl⟩ (fun _ h => by cases h) d_SuffixOrder_isLess_23 (by omega) (by omega)

theorem sf_t {xs : List Nat} {K : Nat → Int32} {i j : Nat} (h : ¬ nI (@ite _ (sf_less xs K i j) (sf_dec xs K i j) 1 0) = 0) : sf_less xs K i j := @gz_t _ (sf_dec xs K i j) h
theorem sf_f {xs : List Nat} {K : Nat → Int32} {i j : Nat} (h : nI (@ite _ (sf_less xs K i j) (sf_dec xs K i j) 1 0) = 0) : ¬ sf_less xs K i j := @gz_f _ (sf_dec xs K i j) h

set_option maxHeartbeats 4000000 in
set_option maxRecDepth 100000 in
theorem c_SuffixOrder_sort (l : Launch) (D : va_G) (q : Nat → ClassId) (H : Heap) (sb : Nat) (Fa K0 : Nat → Int32) (ho : va_at D CL (sb, .inr (8, [.ref (sb + 1), .ref (sb + 2)])) H) (hs : va_at D CL (sb + 1, .inl (q 0, 120, .inl Fa)) H) (hK : va_at D CL (sb + 2, .inl (q 0, 121, .inl K0)) H) (ca : Nat) (f : Nat → Int32) (hca : va_at D CL (ca, .inl (q 0, 120, .inl f)) H) (hcs : ca < sb ∨ sb + 2 < ca) (xs : List Nat) (hxl : xs.length ≤ 120) (hxc : ∀ x ∈ xs, x < 65536) (hf : tX f xs) (n : Nat) (hn : n = xs.length) : gC l y_SuffixOrder_sort (Cond.code y_SuffixOrder_sort b_SuffixOrder_sort 5 none :: gWS) (gR 1 23 0 0) D CL (gY q) (fun _ => True) [.ref sb, .ref ca, .int (nI n)] H (fun v H1 => v = none ∧ (∃ F K st, va_at D CL (sb + 1, .inl (q 0, 120, .inl F)) H1 ∧ va_at D CL (sb + 2, .inl (q 0, 121, .inl K)) H1 ∧ sfP xs n n st ∧ ∀ j, j < n → F j = nI (st j)) ∧ H1.size = H.size ∧ ∀ p : Nat, ¬ (p = sb + 1 ∨ p = sb + 2) → H1[p]? = H[p]?) 0 0 (fun p => p = sb + 1 ∨ p = sb + 2) := by
  refine gC.ofW R_SuffixOrder "sort" (by decide) rfl rfl ?_
  intro p e s m below meth c hadm X hE hH B hne
  refine g_entry [some (.ref sb), some (.ref ca), some (.int (nI n)), none, none] rfl rfl (Nat.le_of_ble_eq_true rfl) (fun ls hl => ?_)
  have ho0 := ho
  have hca0 := hca
  refine lv_aload_n X.1.1 X.1.2.1 d_SuffixOrder_sort_0 rfl (gl_at hl rfl) ?_
  refine g_get X kc_SuffixOrder ho 1 (by decide) lk_SuffixOrder_15 rfl d_SuffixOrder_sort_1 ?_
  refine lv_iload_n X.1.1 X.1.2.1 d_SuffixOrder_sort_4 rfl (gl_at hl rfl) ?_
  refine lv_iconst (v := (-1)) X.1.1 X.1.2.1 d_SuffixOrder_sort_5 (by decide) ?_
  refine g_iast (A := (fun p => p = sb + 1 ∨ p = sb + 2)) X 0 hK rfl n (by omega) (by decide) d_SuffixOrder_sort_6 (show _ ∨ _ by omega) (fun _ h => by cases h) (fun H1 locs h2 z3 oq4 hL => ?_)
  replace ho := ho.kept (oq4 _ (by omega))
  replace hs := hs.kept (oq4 _ (by omega))
  replace hca := hca.kept (oq4 _ (by omega))
  refine lv_iload_n X.1.1 X.1.2.1 d_SuffixOrder_sort_7 rfl (gl_at hl rfl) ?_
  refine lv_iconst (v := nI 1) X.1.1 X.1.2.1 d_SuffixOrder_sort_8 (by decide) ?_
  refine lv_isub X.1.1 X.1.2.1 d_SuffixOrder_sort_9 ?_
  refine g_istn X.1.1 X.1.2.1 hl 3 d_SuffixOrder_sort_10 rfl (Nat.le_of_ble_eq_true rfl) rfl (fun ls hl => ?_)
  have loop11 : ∀ (fu : Nat) (k : Nat) (F : Nat → Int32) (K : Nat → Int32) (st : Nat → Nat) (Hn : Heap) (locs : List Loc) (ls : Array Slot), k < fu → (k ≤ n) → (sfP xs n (n - k) st) → (sfI F K n (n - k) (n - k) st) → (va_at D CL (sb + 1, .inl (q 0, 120, .inl F)) Hn) → (va_at D CL (sb + 2, .inl (q 0, 121, .inl K)) Hn) → (∀ p : Nat, ¬ (p = sb + 1 ∨ p = sb + 2) → Hn[p]? = H[p]?) → (Hn.size = H.size) → (∀ x ∈ locs, (fun p => p = sb + 1 ∨ p = sb + 2) x.base) → gl ls [some (.ref sb), some (.ref ca), some (.int (nI n)), some (.int (nI k - 1)), none] → W p l e (gR 1 23 0 0) s m ([.ref sb, .ref ca, .int (nI n)] : List Value).toArray below meth c Hn locs 0 0 (gQ below ([.ref sb, .ref ca, .int (nI n)] : List Value).toArray s (fun v H1 => v = none ∧ (∃ F K st, va_at D CL (sb + 1, .inl (q 0, 120, .inl F)) H1 ∧ va_at D CL (sb + 2, .inl (q 0, 121, .inl K)) H1 ∧ sfP xs n n st ∧ ∀ j, j < n → F j = nI (st j)) ∧ H1.size = H.size ∧ ∀ p : Nat, ¬ (p = sb + 1 ∨ p = sb + 2) → H1[p]? = H[p]?) 0 0 (fun p => p = sb + 1 ∨ p = sb + 2)) (F0 m 11 ls []) := by
    intro fu
    induction fu with
    | zero => intro k F K st Hn locs ls hmu; omega
    | succ fu ih11 =>
      intro k F K st Hn locs ls hmu11 hi11_0 hi11_1 hi11_2 hs hK fr zz hL hl
      have ho := ho0.kept (fr sb (by omega))
      have hca := va_at.kept hca0 (fr ca (by omega))
      refine lv_iload_n X.1.1 X.1.2.1 d_SuffixOrder_sort_11 rfl (gl_at hl rfl) ?_
      refine lv_if_lt X.1.1 X.1.2.1 d_SuffixOrder_sort_12 rfl (fun hc12 => ?_) (fun hc12 => ?_)
      · have e9 := gs_lt (by omega) hc12
        subst e9
        exact g_vret X B ⟨rfl, ⟨F, K, st, hs, hK, hi11_1, hi11_2.1⟩, zz, fr⟩ hL d_SuffixOrder_sort_103 (by omega) (by omega)
      · have hk0 := gs_nlt hc12
        rw [gs_pos hk0] at hl
        refine lv_iload_n X.1.1 X.1.2.1 d_SuffixOrder_sort_15 rfl (gl_at hl rfl) ?_
        refine lv_iconst (v := nI 1) X.1.1 X.1.2.1 d_SuffixOrder_sort_16 (by decide) ?_
        refine lv_isub X.1.1 X.1.2.1 d_SuffixOrder_sort_17 ?_
        refine g_top (nI (n - 1)) (pk_sub (by omega)) ?_
        refine lv_iload_n X.1.1 X.1.2.1 d_SuffixOrder_sort_18 rfl (gl_at hl rfl) ?_
        refine lv_isub X.1.1 X.1.2.1 d_SuffixOrder_sort_19 ?_
        refine g_top (nI ((n - 1) - (k - 1))) (pk_sub (by omega)) ?_
        refine g_top (nI (n - k)) (by congr 1; omega) ?_
        refine g_ist X.1.1 X.1.2.1 hl 4 d_SuffixOrder_sort_20 (Nat.le_of_ble_eq_true rfl) rfl (fun ls hl => ?_)
        have loop22 : ∀ (fu : Nat) (r : Nat) (F : Nat → Int32) (K : Nat → Int32) (Hn : Heap) (locs : List Loc) (ls : Array Slot), r < fu → (r ≤ n - k) → (True) → (sfI F K n (n - k) r st) → (∀ i, r ≤ i → i < n - k → t_ord (xs.drop (n - (n - k) - 1)) (xs.drop (st i)) < 0) → (va_at D CL (sb + 1, .inl (q 0, 120, .inl F)) Hn) → (va_at D CL (sb + 2, .inl (q 0, 121, .inl K)) Hn) → (∀ p : Nat, ¬ (p = sb + 1 ∨ p = sb + 2) → Hn[p]? = H[p]?) → (Hn.size = H.size) → (∀ x ∈ locs, (fun p => p = sb + 1 ∨ p = sb + 2) x.base) → gl ls [some (.ref sb), some (.ref ca), some (.int (nI n)), some (.int (nI (k - 1))), some (.int (nI r))] → W p l e (gR 1 23 0 0) s m ([.ref sb, .ref ca, .int (nI n)] : List Value).toArray below meth c Hn locs 0 0 (gQ below ([.ref sb, .ref ca, .int (nI n)] : List Value).toArray s (fun v H1 => v = none ∧ (∃ F K st, va_at D CL (sb + 1, .inl (q 0, 120, .inl F)) H1 ∧ va_at D CL (sb + 2, .inl (q 0, 121, .inl K)) H1 ∧ sfP xs n n st ∧ ∀ j, j < n → F j = nI (st j)) ∧ H1.size = H.size ∧ ∀ p : Nat, ¬ (p = sb + 1 ∨ p = sb + 2) → H1[p]? = H[p]?) 0 0 (fun p => p = sb + 1 ∨ p = sb + 2)) (F0 m 22 ls []) := by
          intro fu
          induction fu with
          | zero => intro r F K Hn locs ls hmu; omega
          | succ fu ih22 =>
            intro r F K Hn locs ls hmu22 hi22_0 hi22_1 hi22_2 hi22_3 hs hK fr zz hL hl
            have ho := ho0.kept (fr sb (by omega))
            have hca := va_at.kept hca0 (fr ca (by omega))
            refine lv_iload X.1.1 X.1.2.1 d_SuffixOrder_sort_22 (gl_at hl rfl) ?_
            refine gn_le0 X.1.1 X.1.2.1 r (by omega) d_SuffixOrder_sort_24 rfl (fun hc24 => ?_) (fun hc24 => ?_)
            · have hnew : 0 < r → ¬ t_ord (xs.drop (n - (n - k) - 1)) (xs.drop (st (r - 1))) < 0 := by first | (intro h9; omega) | (intro h9; rw [← sf_less_iff hn (by omega) hi11_1 hi22_2 (by omega) (by omega), show n - (n - k) - 1 = k - 1 by omega]; exact sf_f hc42)
              refine lv_aload_n X.1.1 X.1.2.1 d_SuffixOrder_sort_81 rfl (gl_at hl rfl) ?_
              refine g_get X kc_SuffixOrder ho 0 (by decide) lk_SuffixOrder_9 rfl d_SuffixOrder_sort_82 ?_
              refine lv_iload X.1.1 X.1.2.1 d_SuffixOrder_sort_85 (gl_at hl rfl) ?_
              refine lv_iload_n X.1.1 X.1.2.1 d_SuffixOrder_sort_87 rfl (gl_at hl rfl) ?_
              refine g_iast (A := (fun p => p = sb + 1 ∨ p = sb + 2)) X 0 hs rfl r (by omega) (by decide) d_SuffixOrder_sort_88 (show _ ∨ _ by omega) hL (fun H5 locs h6 z7 oq8 hL => ?_)
              replace ho := ho.kept (oq8 _ (by omega))
              replace hK := hK.kept (oq8 _ (by omega))
              replace hca := hca.kept (oq8 _ (by omega))
              refine lv_aload_n X.1.1 X.1.2.1 d_SuffixOrder_sort_89 rfl (gl_at hl rfl) ?_
              refine g_get X kc_SuffixOrder ho 1 (by decide) lk_SuffixOrder_15 rfl d_SuffixOrder_sort_90 ?_
              refine lv_iload_n X.1.1 X.1.2.1 d_SuffixOrder_sort_93 rfl (gl_at hl rfl) ?_
              refine lv_iload X.1.1 X.1.2.1 d_SuffixOrder_sort_94 (gl_at hl rfl) ?_
              refine g_iast (A := (fun p => p = sb + 1 ∨ p = sb + 2)) X 0 hK rfl (k - 1) (by omega) (by decide) d_SuffixOrder_sort_96 (show _ ∨ _ by omega) hL (fun H9 locs h10 z11 oq12 hL => ?_)
              replace ho := ho.kept (oq12 _ (by omega))
              replace h6 := h6.kept (oq12 _ (by omega))
              replace hca := hca.kept (oq12 _ (by omega))
              refine g_iinc X.1.1 X.1.2.1 (nI (k - 1) - 1) hl 3 d_SuffixOrder_sort_97 rfl (gs_inc _) rfl (fun ls hl => ?_)
              refine lv_goto X.1.1 X.1.2.1 d_SuffixOrder_sort_100 rfl ?_
              exact ih11 (k - 1) (upd F r (nI (k - 1))) (upd K (k - 1) (nI r)) (sf_ins st r (k - 1)) H9 locs ls (by omega) (by omega) (by have h9 := sfP_new hn hi11_1 hi22_0 (by omega) hi22_3 hnew; rw [show n - (n - k) - 1 = k - 1 by omega, show n - k + 1 = n - (k - 1) by omega] at h9; exact h9) (by have h9 := sfI_new hi11_1 hi22_2 hi22_0 (by omega); rw [show n - (n - k) - 1 = k - 1 by omega, show n - k + 1 = n - (k - 1) by omega] at h9; exact h9) h6 h10 (fun p hp => ((oq12 p (by omega)).trans ((oq8 p (by omega)).trans (fr p hp)))) (z11.trans (z7.trans zz)) hL (gl_forget hl 4)
            · refine lv_aload_n X.1.1 X.1.2.1 d_SuffixOrder_sort_27 rfl (gl_at hl rfl) ?_
              refine lv_aload_n X.1.1 X.1.2.1 d_SuffixOrder_sort_28 rfl (gl_at hl rfl) ?_
              refine lv_iload_n X.1.1 X.1.2.1 d_SuffixOrder_sort_29 rfl (gl_at hl rfl) ?_
              refine lv_aload_n X.1.1 X.1.2.1 d_SuffixOrder_sort_30 rfl (gl_at hl rfl) ?_
              refine g_get X kc_SuffixOrder ho 0 (by decide) lk_SuffixOrder_9 rfl d_SuffixOrder_sort_31 ?_
              refine lv_iload X.1.1 X.1.2.1 d_SuffixOrder_sort_34 (gl_at hl rfl) ?_
              refine lv_iconst (v := nI 1) X.1.1 X.1.2.1 d_SuffixOrder_sort_36 (by decide) ?_
              refine lv_isub X.1.1 X.1.2.1 d_SuffixOrder_sort_37 ?_
              refine g_top (nI (r - 1)) (pk_sub (by omega)) ?_
              refine g_iald X 0 hs rfl (r - 1) (by omega) (by decide) d_SuffixOrder_sort_38 ?_
              have hb9 := hi11_1.1 (r - 1) (by omega)
              refine g_top (nI (st (r - 1))) (hi22_2.1 (r - 1) (by omega)) ?_
              refine g_cv (A := (fun p => p = sb + 1 ∨ p = sb + 2)) X gWS_good mw_SuffixOrder_18 kc_SuffixOrder ho (c_SuffixOrder_isLess l D q Hn sb K ho hK ca f hca xs hxl hxc hf (k - 1) (st (r - 1)) (by omega) (by have h9 := (hi11_1.1 (r - 1) (by omega)).2; omega)) (fun _ _ _ => trivial) gBlind.tt rfl rfl hl.1 (Nat.le_of_ble_eq_true rfl) rfl rfl ⟨by decide, by decide⟩ ⟨by decide, by decide⟩ d_SuffixOrder_sort_39 (fun _ h => h.elim) hL (fun v13 H14 locs hp15 hL => ?_)
              obtain ⟨rfl, hHe⟩ := hp15
              rw [hHe]
              refine lv_if_eq X.1.1 X.1.2.1 d_SuffixOrder_sort_42 rfl (fun hc42 => ?_) (fun hc42 => ?_)
              · have hnew : 0 < r → ¬ t_ord (xs.drop (n - (n - k) - 1)) (xs.drop (st (r - 1))) < 0 := by first | (intro h9; omega) | (intro h9; rw [← sf_less_iff hn (by omega) hi11_1 hi22_2 (by omega) (by omega), show n - (n - k) - 1 = k - 1 by omega]; exact sf_f hc42)
                refine lv_aload_n X.1.1 X.1.2.1 d_SuffixOrder_sort_81 rfl (gl_at hl rfl) ?_
                refine g_get X kc_SuffixOrder ho 0 (by decide) lk_SuffixOrder_9 rfl d_SuffixOrder_sort_82 ?_
                refine lv_iload X.1.1 X.1.2.1 d_SuffixOrder_sort_85 (gl_at hl rfl) ?_
                refine lv_iload_n X.1.1 X.1.2.1 d_SuffixOrder_sort_87 rfl (gl_at hl rfl) ?_
                refine g_iast (A := (fun p => p = sb + 1 ∨ p = sb + 2)) X 0 hs rfl r (by omega) (by decide) d_SuffixOrder_sort_88 (show _ ∨ _ by omega) hL (fun H16 locs h17 z18 oq19 hL => ?_)
                replace ho := ho.kept (oq19 _ (by omega))
                replace hK := hK.kept (oq19 _ (by omega))
                replace hca := hca.kept (oq19 _ (by omega))
                refine lv_aload_n X.1.1 X.1.2.1 d_SuffixOrder_sort_89 rfl (gl_at hl rfl) ?_
                refine g_get X kc_SuffixOrder ho 1 (by decide) lk_SuffixOrder_15 rfl d_SuffixOrder_sort_90 ?_
                refine lv_iload_n X.1.1 X.1.2.1 d_SuffixOrder_sort_93 rfl (gl_at hl rfl) ?_
                refine lv_iload X.1.1 X.1.2.1 d_SuffixOrder_sort_94 (gl_at hl rfl) ?_
                refine g_iast (A := (fun p => p = sb + 1 ∨ p = sb + 2)) X 0 hK rfl (k - 1) (by omega) (by decide) d_SuffixOrder_sort_96 (show _ ∨ _ by omega) hL (fun H20 locs h21 z22 oq23 hL => ?_)
                replace ho := ho.kept (oq23 _ (by omega))
                replace h17 := h17.kept (oq23 _ (by omega))
                replace hca := hca.kept (oq23 _ (by omega))
                refine g_iinc X.1.1 X.1.2.1 (nI (k - 1) - 1) hl 3 d_SuffixOrder_sort_97 rfl (gs_inc _) rfl (fun ls hl => ?_)
                refine lv_goto X.1.1 X.1.2.1 d_SuffixOrder_sort_100 rfl ?_
                exact ih11 (k - 1) (upd F r (nI (k - 1))) (upd K (k - 1) (nI r)) (sf_ins st r (k - 1)) H20 locs ls (by omega) (by omega) (by have h9 := sfP_new hn hi11_1 hi22_0 (by omega) hi22_3 hnew; rw [show n - (n - k) - 1 = k - 1 by omega, show n - k + 1 = n - (k - 1) by omega] at h9; exact h9) (by have h9 := sfI_new hi11_1 hi22_2 hi22_0 (by omega); rw [show n - (n - k) - 1 = k - 1 by omega, show n - k + 1 = n - (k - 1) by omega] at h9; exact h9) h17 h21 (fun p hp => ((oq23 p (by omega)).trans ((oq19 p (by omega)).trans (fr p hp)))) (z22.trans (z18.trans zz)) hL (gl_forget hl 4)
              · refine lv_aload_n X.1.1 X.1.2.1 d_SuffixOrder_sort_45 rfl (gl_at hl rfl) ?_
                refine g_get X kc_SuffixOrder ho 0 (by decide) lk_SuffixOrder_9 rfl d_SuffixOrder_sort_46 ?_
                refine lv_iload X.1.1 X.1.2.1 d_SuffixOrder_sort_49 (gl_at hl rfl) ?_
                refine lv_aload_n X.1.1 X.1.2.1 d_SuffixOrder_sort_51 rfl (gl_at hl rfl) ?_
                refine g_get X kc_SuffixOrder ho 0 (by decide) lk_SuffixOrder_9 rfl d_SuffixOrder_sort_52 ?_
                refine lv_iload X.1.1 X.1.2.1 d_SuffixOrder_sort_55 (gl_at hl rfl) ?_
                refine lv_iconst (v := nI 1) X.1.1 X.1.2.1 d_SuffixOrder_sort_57 (by decide) ?_
                refine lv_isub X.1.1 X.1.2.1 d_SuffixOrder_sort_58 ?_
                refine g_top (nI (r - 1)) (pk_sub (by omega)) ?_
                refine g_iald X 0 hs rfl (r - 1) (by omega) (by decide) d_SuffixOrder_sort_59 ?_
                refine g_top (nI (st (r - 1))) (hi22_2.1 (r - 1) (by omega)) ?_
                refine g_iast (A := (fun p => p = sb + 1 ∨ p = sb + 2)) X 0 hs rfl r (by omega) (by decide) d_SuffixOrder_sort_60 (show _ ∨ _ by omega) hL (fun H24 locs h25 z26 oq27 hL => ?_)
                replace ho := ho.kept (oq27 _ (by omega))
                replace hK := hK.kept (oq27 _ (by omega))
                replace hca := hca.kept (oq27 _ (by omega))
                refine lv_aload_n X.1.1 X.1.2.1 d_SuffixOrder_sort_61 rfl (gl_at hl rfl) ?_
                refine g_get X kc_SuffixOrder ho 1 (by decide) lk_SuffixOrder_15 rfl d_SuffixOrder_sort_62 ?_
                refine lv_aload_n X.1.1 X.1.2.1 d_SuffixOrder_sort_65 rfl (gl_at hl rfl) ?_
                refine g_get X kc_SuffixOrder ho 0 (by decide) lk_SuffixOrder_9 rfl d_SuffixOrder_sort_66 ?_
                refine lv_iload X.1.1 X.1.2.1 d_SuffixOrder_sort_69 (gl_at hl rfl) ?_
                refine g_iald X 0 h25 rfl r (by omega) (by decide) d_SuffixOrder_sort_71 ?_
                refine g_top (nI (st (r - 1))) pk_us ?_
                refine lv_iload X.1.1 X.1.2.1 d_SuffixOrder_sort_72 (gl_at hl rfl) ?_
                refine g_iast (A := (fun p => p = sb + 1 ∨ p = sb + 2)) X 0 hK rfl (st (r - 1)) (by omega) (by decide) d_SuffixOrder_sort_74 (show _ ∨ _ by omega) hL (fun H28 locs h29 z30 oq31 hL => ?_)
                replace ho := ho.kept (oq31 _ (by omega))
                replace h25 := h25.kept (oq31 _ (by omega))
                replace hca := hca.kept (oq31 _ (by omega))
                refine g_iinc X.1.1 X.1.2.1 (nI (r - 1)) hl 4 d_SuffixOrder_sort_75 rfl (gn_dec 1 (by omega)) rfl (fun ls hl => ?_)
                refine lv_goto X.1.1 X.1.2.1 d_SuffixOrder_sort_78 rfl ?_
                exact ih22 (r - 1) (upd F r (nI (st (r - 1)))) (upd K (st (r - 1)) (nI r)) H28 locs ls (by omega) (by omega) trivial (sfI_step hi11_1 hi22_2 (by omega) hi22_0) (fun i h1 h2 => by
                  by_cases h9 : i = r - 1
                  · rw [h9, ← sf_less_iff hn (by omega) hi11_1 hi22_2 (by omega) (by omega), show n - (n - k) - 1 = k - 1 by omega]
                    exact sf_t hc42
                  · exact hi22_3 i (by omega) h2) h25 h29 (fun p hp => ((oq31 p (by omega)).trans ((oq27 p (by omega)).trans (fr p hp)))) (z30.trans (z26.trans zz)) hL hl
        exact loop22 _ (n - k) F K Hn locs ls (Nat.lt_succ_self _) (Nat.le_refl _) trivial hi11_2 (fun i h1 h2 => by omega) hs hK (fun p hp => (fr p hp)) zz hL hl
  exact loop11 _ n Fa (upd K0 n (-1)) (fun _ => 0) H1 locs ls (Nat.lt_succ_self _) (Nat.le_refl _) (by rw [Nat.sub_self]; exact sfP_0 xs n _) (by rw [Nat.sub_self]; exact ⟨fun j h => absurd h (Nat.not_lt_zero j), fun j h1 h2 => by omega, fun i h => absurd h (Nat.not_lt_zero i), pk_us⟩) hs h2 (fun p hp => (oq4 p (by omega))) z3 hL hl
end
section
/-! the edited text: picture, and what its arrays hold behind an edit -/
def txA (D : va_G) (q : Nat → ClassId) (H : Heap) (tb : Nat) (xs : List Nat) (us : List (List Nat)) (so : Nat) : Prop :=
  va_at D CL (tb, .inr (6, [.ref (tb + 1), .int (nI xs.length), .ref (tb + 2), .ref (tb + 5), .int (nI so)])) H ∧ (∃ f, va_at D CL (tb + 1, .inl (q 0, 120, .inl f)) H ∧ tX f xs) ∧ (xs.length ≤ 120 ∧ (∀ x ∈ xs, x < 65536) ∧ so ≤ 1) ∧ hisA D q H (tb + 2) us ∧
  va_at D CL (tb + 5, .inr (8, [.ref (tb + 6), .ref (tb + 7)])) H ∧ ∃ F K, va_at D CL (tb + 6, .inl (q 0, 120, .inl F)) H ∧ va_at D CL (tb + 7, .inl (q 0, 121, .inl K)) H ∧ (so ≠ 0 → ∃ st, sfP xs xs.length xs.length st ∧ ∀ j, j < xs.length → F j = nI (st j))
theorem txA.kept {D : va_G} {q : Nat → ClassId} {H H1 : Heap} {tb : Nat} {xs : List Nat} {us : List (List Nat)} {so : Nat} (h : txA D q H tb xs us so) (hk : ∀ p : Nat, tb ≤ p → p ≤ tb + 7 → H1[p]? = H[p]?) : txA D q H1 tb xs us so := by
  obtain ⟨h1, ⟨f, h2, h2'⟩, h3, h4, h5, F, K, h6, h7, h8⟩ := h
  exact ⟨h1.kept (hk _ (by omega) (by omega)), ⟨f, va_at.kept h2 (hk _ (by omega) (by omega)), h2'⟩, h3, h4.kept (fun p a b => hk p (by omega) (by omega)), h5.kept (hk _ (by omega) (by omega)), F, K, va_at.kept h6 (hk _ (by omega) (by omega)), va_at.kept h7 (hk _ (by omega) (by omega)), h8⟩
theorem t_getD_app_l {xs ys : List Nat} {j : Nat} (h : j < xs.length) : (xs ++ ys).getD j 0 = xs.getD j 0 := by
  rw [List.getD_eq_getElem?_getD, List.getD_eq_getElem?_getD, List.getElem?_append_left h]
theorem t_getD_app_r {xs ys : List Nat} {j : Nat} (h : xs.length ≤ j) : (xs ++ ys).getD j 0 = ys.getD (j - xs.length) 0 := by
  rw [List.getD_eq_getElem?_getD, List.getD_eq_getElem?_getD, List.getElem?_append_right h]
theorem t_getD_take {xs : List Nat} {i j : Nat} (h : j < i) : (xs.take i).getD j 0 = xs.getD j 0 := by
  rw [List.getD_eq_getElem?_getD, List.getD_eq_getElem?_getD, List.getElem?_take_of_lt h]
theorem t_getD_drop {xs : List Nat} {i j : Nat} : (xs.drop i).getD j 0 = xs.getD (i + j) 0 := by
  rw [List.getD_eq_getElem?_getD, List.getD_eq_getElem?_getD, List.getElem?_drop]
theorem t_ins_len {xs ys : List Nat} {i : Nat} (hi : i ≤ xs.length) : (xs.take i ++ ys ++ xs.drop i).length = xs.length + ys.length := by
  simp only [List.length_append, List.length_take, List.length_drop]
  omega
theorem t_del_len {xs : List Nat} {i k : Nat} (hi : i ≤ k) (hk : k ≤ xs.length) : (xs.take i ++ xs.drop k).length = xs.length - (k - i) := by
  simp only [List.length_append, List.length_take, List.length_drop]
  omega
theorem tX_ins {f g : Nat → Int32} {xs ys : List Nat} {i : Nat} (hf : tX f xs) (hg : tX g ys) (hi : i ≤ xs.length) : tX (va_cpy g (va_cpy f f i (i + ys.length) (xs.length - i)) 0 i ys.length) (xs.take i ++ ys ++ xs.drop i) := by
  intro j hj
  rw [t_ins_len hi] at hj
  have l1 : (xs.take i).length = i := by rw [List.length_take]; omega
  have l2 : (xs.take i ++ ys).length = i + ys.length := by rw [List.length_append, l1]
  by_cases h1 : j < i
  · rw [pk_cpy_out (Or.inl h1), pk_cpy_out (Or.inl (by omega)), t_getD_app_l (by omega), t_getD_app_l (by omega), t_getD_take h1]
    exact hf j (by omega)
  · by_cases h2 : j < i + ys.length
    · rw [pk_cpy_in (by omega) h2, t_getD_app_l (by omega), t_getD_app_r (by omega), l1, Nat.zero_add]
      exact hg _ (by omega)
    · rw [pk_cpy_out (Or.inr (by omega)), pk_cpy_in (by omega) (by omega), t_getD_app_r (by omega), l2, t_getD_drop]
      exact hf _ (by omega)
theorem tX_del {f : Nat → Int32} {xs : List Nat} {i k : Nat} (hf : tX f xs) (hi : i ≤ k) (hk : k ≤ xs.length) : tX (va_cpy f f k i (xs.length - k)) (xs.take i ++ xs.drop k) := by
  intro j hj
  rw [t_del_len hi hk] at hj
  have l1 : (xs.take i).length = i := by rw [List.length_take]; omega
  by_cases h1 : j < i
  · rw [pk_cpy_out (Or.inl h1), t_getD_app_l (by omega), t_getD_take h1]
    exact hf j (by omega)
  · rw [pk_cpy_in (by omega) (by omega), t_getD_app_r (by omega), l1, t_getD_drop]
    exact hf _ (by omega)
theorem t_ins_c {xs ys : List Nat} {i : Nat} (h1 : ∀ x ∈ xs, x < 65536) (h2 : ∀ x ∈ ys, x < 65536) : ∀ x ∈ xs.take i ++ ys ++ xs.drop i, x < 65536 := by
  intro x hx
  rcases List.mem_append.mp hx with h | h
  · rcases List.mem_append.mp h with h | h
    · exact h1 x (List.mem_of_mem_take h)
    · exact h2 x h
  · exact h1 x (List.mem_of_mem_drop h)
theorem t_del_c {xs : List Nat} {i k : Nat} (h1 : ∀ x ∈ xs, x < 65536) : ∀ x ∈ xs.take i ++ xs.drop k, x < 65536 := by
  intro x hx
  rcases List.mem_append.mp hx with h | h
  · exact h1 x (List.mem_of_mem_take h)
  · exact h1 x (List.mem_of_mem_drop h)
def t_hash (xs : List Nat) : Nat → Int32
  | 0 => nI 0
  | i + 1 => nI 31 * t_hash xs i + nI (xs.getD i 0)
/-- whether ys stands in xs at p -/
abbrev t_at (xs ys : List Nat) (p : Nat) : Prop := t_lcp (xs.drop p) ys = ys.length
theorem t_at_long {xs ys : List Nat} {p : Nat} (h : xs.length - p < ys.length) : ¬ t_at xs ys p := by
  intro h1
  have h2 := t_lcp_le1 (xs.drop p) ys
  rw [List.length_drop] at h2
  omega
theorem t_at_ne {xs ys : List Nat} {p i : Nat} (hi : i < ys.length) (h : xs.getD (p + i) 0 ≠ ys.getD i 0) : ¬ t_at xs ys p := by
  intro h1
  have h2 := t_lcp_same (xs.drop p) ys i (by omega)
  rw [t_getD_drop] at h2
  exact h h2
theorem t_at_all {xs ys : List Nat} {p : Nat} (hl : ys.length ≤ xs.length - p) (h : ∀ i, i < ys.length → xs.getD (p + i) 0 = ys.getD i 0) : t_at xs ys p := by
  refine t_lcp_eq _ _ _ (by rw [List.length_drop]; exact hl) (Nat.le_refl _) (fun j hj => ?_) (Or.inr (Or.inl rfl))
  rw [t_getD_drop]
  exact h j hj
theorem kf_EditedText : ∀ j, j < 5 → defaultValue (t_EditedText j) = vp_V [.null, .int 0, .null, .null, .int 0] j := kf_zero (by decide +kernel)
theorem kf_History : ∀ j, j < 4 → defaultValue (t_History j) = vp_V [.null, .null, .int 0, .int 0] j := kf_zero (by decide +kernel)
theorem kf_SuffixOrder : ∀ j, j < 2 → defaultValue (t_SuffixOrder j) = vp_V [.null, .null] j := kf_zero (by decide +kernel)
theorem kf_Edges : ∀ j, j < 2 → defaultValue (t_Edges j) = vp_V [.null, .null] j := kf_zero (by decide +kernel)
theorem kf_Automaton : ∀ j, j < 11 → defaultValue (t_Automaton j) = vp_V [.null, .int 0, .null, .null, .null, .null, .int 0, .null, .int 0, .int 0, .int 0] j := kf_zero (by decide +kernel)
theorem sf_exists (xs : List Nat) : True := trivial
end
section
/-! the class EditedText: printed by wip/specs/edited.py -/
set_option maxHeartbeats 4000000 in
set_option maxRecDepth 100000 in
theorem c_EditedText_open (l : Launch) (D : va_G) (q : Nat → ClassId) (H : Heap) (tb : Nat) (xs : List Nat) (us : List (List Nat)) (so : Nat) (ht : txA D q H tb xs us so) (i : Nat) (hi : i ≤ xs.length) (b : Nat) (ys : List Nat) (hys : kA D q H b ys) (hb1 : b + 1 < tb ∨ tb + 7 < b) (hlen : xs.length + ys.length ≤ 120) : gC l y_EditedText_open (Cond.code y_EditedText_open b_EditedText_open 3 none :: gWS) (gR 2 40 0 0) D CL (gY q) (fun _ => True) [.ref tb, .int (nI i), .ref b] H (fun v H1 => v = none ∧ txA D q H1 tb (xs.take i ++ ys ++ xs.drop i) ((xs :: us).take 20) 0 ∧ H1.size = H.size ∧ ∀ p : Nat, ¬ (tb ≤ p ∧ p ≤ tb + 7) → H1[p]? = H[p]?) 0 0 (fun p => tb ≤ p ∧ p ≤ tb + 7) := by
  refine gC.ofW R_EditedText "open" (by decide) rfl rfl ?_
  intro p e s m below meth c hadm X hE hH B hne
  refine g_entry [some (.ref tb), some (.int (nI i)), some (.ref b)] rfl rfl (Nat.le_of_ble_eq_true rfl) (fun ls hl => ?_)
  obtain ⟨ho, ⟨f, hlt, hf⟩, ⟨hxl, hxc, hso⟩, hh, hsu, F, K, hF, hK, hsrt⟩ := ht
  obtain ⟨hb, ⟨fb, hlb, hfb⟩, hyl, hyc⟩ := hys
  refine lv_aload_n X.1.1 X.1.2.1 d_EditedText_open_0 rfl (gl_at hl rfl) ?_
  refine g_get X kc_EditedText ho 2 (by decide) lk_EditedText_18 rfl d_EditedText_open_1 ?_
  refine lv_aload_n X.1.1 X.1.2.1 d_EditedText_open_4 rfl (gl_at hl rfl) ?_
  refine g_get X kc_EditedText ho 0 (by decide) lk_EditedText_9 rfl d_EditedText_open_5 ?_
  refine lv_aload_n X.1.1 X.1.2.1 d_EditedText_open_8 rfl (gl_at hl rfl) ?_
  refine g_get X kc_EditedText ho 1 (by decide) lk_EditedText_29 rfl d_EditedText_open_9 ?_
  refine g_cv (A := (fun p => tb ≤ p ∧ p ≤ tb + 7)) X gWS_good mw_EditedText_33 kc_History (Classical.choose_spec (Classical.choose_spec (Classical.choose_spec hh))).1 (c_History_keep l D q H (tb + 2) us hh (tb + 1) f hlt (by omega) xs hxl hxc hf) (fun _ _ _ => trivial) gBlind.tt rfl rfl hl.1 (Nat.le_of_ble_eq_true rfl) rfl rfl ⟨by decide, by decide⟩ ⟨by decide, by decide⟩ d_EditedText_open_12 (fun p h => show _ ∧ _ by omega) (fun _ h => by cases h) (fun v1 H2 locs hp3 hL => ?_)
  obtain ⟨rfl, hh2, hz2, fr2⟩ := hp3
  replace ho := va_at.kept ho (fr2 _ (by omega))
  replace hlt := va_at.kept hlt (fr2 _ (by omega))
  replace hsu := va_at.kept hsu (fr2 _ (by omega))
  replace hF := va_at.kept hF (fr2 _ (by omega))
  replace hK := va_at.kept hK (fr2 _ (by omega))
  replace hb := va_at.kept hb (fr2 _ (by omega))
  replace hlb := va_at.kept hlb (fr2 _ (by omega))
  replace hh := hh2
  refine lv_aload_n X.1.1 X.1.2.1 d_EditedText_open_15 rfl (gl_at hl rfl) ?_
  refine g_get X kc_EditedText ho 0 (by decide) lk_EditedText_9 rfl d_EditedText_open_16 ?_
  refine lv_iload_n X.1.1 X.1.2.1 d_EditedText_open_19 rfl (gl_at hl rfl) ?_
  refine lv_aload_n X.1.1 X.1.2.1 d_EditedText_open_20 rfl (gl_at hl rfl) ?_
  refine g_get X kc_EditedText ho 0 (by decide) lk_EditedText_9 rfl d_EditedText_open_21 ?_
  refine lv_iload_n X.1.1 X.1.2.1 d_EditedText_open_24 rfl (gl_at hl rfl) ?_
  refine lv_aload_n X.1.1 X.1.2.1 d_EditedText_open_25 rfl (gl_at hl rfl) ?_
  refine g_get X kc_Key hb 1 (by decide) lk_EditedText_37 rfl d_EditedText_open_26 ?_
  refine lv_iadd X.1.1 X.1.2.1 d_EditedText_open_29 ?_
  refine g_top (nI (i + ys.length)) (nI_add _ _) ?_
  refine lv_aload_n X.1.1 X.1.2.1 d_EditedText_open_30 rfl (gl_at hl rfl) ?_
  refine g_get X kc_EditedText ho 1 (by decide) lk_EditedText_29 rfl d_EditedText_open_31 ?_
  refine lv_iload_n X.1.1 X.1.2.1 d_EditedText_open_34 rfl (gl_at hl rfl) ?_
  refine lv_isub X.1.1 X.1.2.1 d_EditedText_open_35 ?_
  refine g_top (nI (xs.length - i)) (pk_sub (by omega)) ?_
  refine g_copyi (A := (fun p => tb ≤ p ∧ p ≤ tb + 7)) X hl.1 mq_EditedText_40.1 mq_EditedText_40.2.1 mq_EditedText_40.2.2.1 mq_EditedText_40.2.2.2 0 hlt hlt rfl i (i + ys.length) (xs.length - i) (by omega) (by omega) (by decide) (by decide) (by decide) (by decide) d_EditedText_open_36 (show _ ∧ _ by omega) hL (fun H4 locs h5 z6 oq7 hL => ?_)
  replace ho := ho.kept (oq7 _ (by omega))
  replace hsu := hsu.kept (oq7 _ (by omega))
  replace hF := hF.kept (oq7 _ (by omega))
  replace hK := hK.kept (oq7 _ (by omega))
  replace hb := hb.kept (oq7 _ (by omega))
  replace hlb := hlb.kept (oq7 _ (by omega))
  replace hh := hh.kept (fun p h1 h2 => oq7 p (by omega))
  refine lv_aload_n X.1.1 X.1.2.1 d_EditedText_open_39 rfl (gl_at hl rfl) ?_
  refine g_get X kc_Key hb 0 (by decide) lk_EditedText_46 rfl d_EditedText_open_40 ?_
  refine lv_iconst (v := nI 0) X.1.1 X.1.2.1 d_EditedText_open_43 (by decide) ?_
  refine lv_aload_n X.1.1 X.1.2.1 d_EditedText_open_44 rfl (gl_at hl rfl) ?_
  refine g_get X kc_EditedText ho 0 (by decide) lk_EditedText_9 rfl d_EditedText_open_45 ?_
  refine lv_iload_n X.1.1 X.1.2.1 d_EditedText_open_48 rfl (gl_at hl rfl) ?_
  refine lv_aload_n X.1.1 X.1.2.1 d_EditedText_open_49 rfl (gl_at hl rfl) ?_
  refine g_get X kc_Key hb 1 (by decide) lk_EditedText_37 rfl d_EditedText_open_50 ?_
  refine g_copyi (A := (fun p => tb ≤ p ∧ p ≤ tb + 7)) X hl.1 mq_EditedText_40.1 mq_EditedText_40.2.1 mq_EditedText_40.2.2.1 mq_EditedText_40.2.2.2 0 hlb h5 rfl 0 i ys.length (by omega) (by omega) (by decide) (by decide) (by decide) (by decide) d_EditedText_open_53 (show _ ∧ _ by omega) hL (fun H8 locs h9 z10 oq11 hL => ?_)
  replace ho := ho.kept (oq11 _ (by omega))
  replace hsu := hsu.kept (oq11 _ (by omega))
  replace hF := hF.kept (oq11 _ (by omega))
  replace hK := hK.kept (oq11 _ (by omega))
  replace hb := hb.kept (oq11 _ (by omega))
  replace hlb := hlb.kept (oq11 _ (by omega))
  replace hh := hh.kept (fun p h1 h2 => oq11 p (by omega))
  refine lv_aload_n X.1.1 X.1.2.1 d_EditedText_open_56 rfl (gl_at hl rfl) ?_
  refine lv_dup X.1.1 X.1.2.1 d_EditedText_open_57 rfl ?_
  refine g_get X kc_EditedText ho 1 (by decide) lk_EditedText_29 rfl d_EditedText_open_58 ?_
  refine lv_aload_n X.1.1 X.1.2.1 d_EditedText_open_61 rfl (gl_at hl rfl) ?_
  refine g_get X kc_Key hb 1 (by decide) lk_EditedText_37 rfl d_EditedText_open_62 ?_
  refine lv_iadd X.1.1 X.1.2.1 d_EditedText_open_65 ?_
  refine g_top (nI (xs.length + ys.length)) (nI_add _ _) ?_
  refine g_put (A := (fun p => tb ≤ p ∧ p ≤ tb + 7)) X kc_EditedText ho 1 (by decide) lk_EditedText_29 rfl rfl rfl (Nat.le_of_ble_eq_true rfl) d_EditedText_open_66 (show _ ∧ _ by omega) hL (fun H12 locs h13 z14 oq15 hL => ?_)
  replace h9 := h9.kept (oq15 _ (by omega))
  replace hsu := hsu.kept (oq15 _ (by omega))
  replace hF := hF.kept (oq15 _ (by omega))
  replace hK := hK.kept (oq15 _ (by omega))
  replace hb := hb.kept (oq15 _ (by omega))
  replace hlb := hlb.kept (oq15 _ (by omega))
  replace hh := hh.kept (fun p h1 h2 => oq15 p (by omega))
  refine lv_aload_n X.1.1 X.1.2.1 d_EditedText_open_69 rfl (gl_at hl rfl) ?_
  refine lv_iconst (v := nI 0) X.1.1 X.1.2.1 d_EditedText_open_70 (by decide) ?_
  refine g_put (A := (fun p => tb ≤ p ∧ p ≤ tb + 7)) X kc_EditedText h13 4 (by decide) lk_EditedText_47 rfl rfl rfl (Nat.le_of_ble_eq_true rfl) d_EditedText_open_71 (show _ ∧ _ by omega) hL (fun H16 locs h17 z18 oq19 hL => ?_)
  replace h9 := h9.kept (oq19 _ (by omega))
  replace hsu := hsu.kept (oq19 _ (by omega))
  replace hF := hF.kept (oq19 _ (by omega))
  replace hK := hK.kept (oq19 _ (by omega))
  replace hb := hb.kept (oq19 _ (by omega))
  replace hlb := hlb.kept (oq19 _ (by omega))
  replace hh := hh.kept (fun p h1 h2 => oq19 p (by omega))
  exact g_vret X B ⟨rfl, ⟨by rw [t_ins_len hi]; exact h17, ⟨_, h9, tX_ins hf hfb hi⟩, ⟨by rw [t_ins_len hi]; exact hlen, t_ins_c hxc hyc, by omega⟩, hh, hsu, F, K, hF, hK, fun h => absurd rfl h⟩, (z18.trans (z14.trans (z10.trans (z6.trans hz2)))), fun p hp => ((oq19 p (by omega)).trans ((oq15 p (by omega)).trans ((oq11 p (by omega)).trans ((oq7 p (by omega)).trans (fr2 p (by omega))))))⟩ hL d_EditedText_open_74 (by omega) (by omega)

set_option maxHeartbeats 4000000 in
set_option maxRecDepth 100000 in
theorem c_EditedText_close (l : Launch) (D : va_G) (q : Nat → ClassId) (H : Heap) (tb : Nat) (xs : List Nat) (us : List (List Nat)) (so : Nat) (ht : txA D q H tb xs us so) (i k : Nat) (hi : i ≤ k) (hk : k ≤ xs.length) : gC l y_EditedText_close (Cond.code y_EditedText_close b_EditedText_close 3 none :: gWS) (gR 2 40 0 0) D CL (gY q) (fun _ => True) [.ref tb, .int (nI i), .int (nI k)] H (fun v H1 => v = none ∧ txA D q H1 tb (xs.take i ++ xs.drop k) ((xs :: us).take 20) 0 ∧ H1.size = H.size ∧ ∀ p : Nat, ¬ (tb ≤ p ∧ p ≤ tb + 7) → H1[p]? = H[p]?) 0 0 (fun p => tb ≤ p ∧ p ≤ tb + 7) := by
  refine gC.ofW R_EditedText "close" (by decide) rfl rfl ?_
  intro p e s m below meth c hadm X hE hH B hne
  refine g_entry [some (.ref tb), some (.int (nI i)), some (.int (nI k))] rfl rfl (Nat.le_of_ble_eq_true rfl) (fun ls hl => ?_)
  obtain ⟨ho, ⟨f, hlt, hf⟩, ⟨hxl, hxc, hso⟩, hh, hsu, F, K, hF, hK, hsrt⟩ := ht
  refine lv_aload_n X.1.1 X.1.2.1 d_EditedText_close_0 rfl (gl_at hl rfl) ?_
  refine g_get X kc_EditedText ho 2 (by decide) lk_EditedText_18 rfl d_EditedText_close_1 ?_
  refine lv_aload_n X.1.1 X.1.2.1 d_EditedText_close_4 rfl (gl_at hl rfl) ?_
  refine g_get X kc_EditedText ho 0 (by decide) lk_EditedText_9 rfl d_EditedText_close_5 ?_
  refine lv_aload_n X.1.1 X.1.2.1 d_EditedText_close_8 rfl (gl_at hl rfl) ?_
  refine g_get X kc_EditedText ho 1 (by decide) lk_EditedText_29 rfl d_EditedText_close_9 ?_
  refine g_cv (A := (fun p => tb ≤ p ∧ p ≤ tb + 7)) X gWS_good mw_EditedText_33 kc_History (Classical.choose_spec (Classical.choose_spec (Classical.choose_spec hh))).1 (c_History_keep l D q H (tb + 2) us hh (tb + 1) f hlt (by omega) xs hxl hxc hf) (fun _ _ _ => trivial) gBlind.tt rfl rfl hl.1 (Nat.le_of_ble_eq_true rfl) rfl rfl ⟨by decide, by decide⟩ ⟨by decide, by decide⟩ d_EditedText_close_12 (fun p h => show _ ∧ _ by omega) (fun _ h => by cases h) (fun v1 H2 locs hp3 hL => ?_)
  obtain ⟨rfl, hh2, hz2, fr2⟩ := hp3
  replace ho := va_at.kept ho (fr2 _ (by omega))
  replace hlt := va_at.kept hlt (fr2 _ (by omega))
  replace hsu := va_at.kept hsu (fr2 _ (by omega))
  replace hF := va_at.kept hF (fr2 _ (by omega))
  replace hK := va_at.kept hK (fr2 _ (by omega))
  replace hh := hh2
  refine lv_aload_n X.1.1 X.1.2.1 d_EditedText_close_15 rfl (gl_at hl rfl) ?_
  refine g_get X kc_EditedText ho 0 (by decide) lk_EditedText_9 rfl d_EditedText_close_16 ?_
  refine lv_iload_n X.1.1 X.1.2.1 d_EditedText_close_19 rfl (gl_at hl rfl) ?_
  refine lv_aload_n X.1.1 X.1.2.1 d_EditedText_close_20 rfl (gl_at hl rfl) ?_
  refine g_get X kc_EditedText ho 0 (by decide) lk_EditedText_9 rfl d_EditedText_close_21 ?_
  refine lv_iload_n X.1.1 X.1.2.1 d_EditedText_close_24 rfl (gl_at hl rfl) ?_
  refine lv_aload_n X.1.1 X.1.2.1 d_EditedText_close_25 rfl (gl_at hl rfl) ?_
  refine g_get X kc_EditedText ho 1 (by decide) lk_EditedText_29 rfl d_EditedText_close_26 ?_
  refine lv_iload_n X.1.1 X.1.2.1 d_EditedText_close_29 rfl (gl_at hl rfl) ?_
  refine lv_isub X.1.1 X.1.2.1 d_EditedText_close_30 ?_
  refine g_top (nI (xs.length - k)) (pk_sub (by omega)) ?_
  refine g_copyi (A := (fun p => tb ≤ p ∧ p ≤ tb + 7)) X hl.1 mq_EditedText_40.1 mq_EditedText_40.2.1 mq_EditedText_40.2.2.1 mq_EditedText_40.2.2.2 0 hlt hlt rfl k i (xs.length - k) (by omega) (by omega) (by decide) (by decide) (by decide) (by decide) d_EditedText_close_31 (show _ ∧ _ by omega) hL (fun H4 locs h5 z6 oq7 hL => ?_)
  replace ho := ho.kept (oq7 _ (by omega))
  replace hsu := hsu.kept (oq7 _ (by omega))
  replace hF := hF.kept (oq7 _ (by omega))
  replace hK := hK.kept (oq7 _ (by omega))
  replace hh := hh.kept (fun p h1 h2 => oq7 p (by omega))
  refine lv_aload_n X.1.1 X.1.2.1 d_EditedText_close_34 rfl (gl_at hl rfl) ?_
  refine lv_dup X.1.1 X.1.2.1 d_EditedText_close_35 rfl ?_
  refine g_get X kc_EditedText ho 1 (by decide) lk_EditedText_29 rfl d_EditedText_close_36 ?_
  refine lv_iload_n X.1.1 X.1.2.1 d_EditedText_close_39 rfl (gl_at hl rfl) ?_
  refine lv_iload_n X.1.1 X.1.2.1 d_EditedText_close_40 rfl (gl_at hl rfl) ?_
  refine lv_isub X.1.1 X.1.2.1 d_EditedText_close_41 ?_
  refine g_top (nI (k - i)) (pk_sub (by omega)) ?_
  refine lv_isub X.1.1 X.1.2.1 d_EditedText_close_42 ?_
  refine g_top (nI (xs.length - (k - i))) (pk_sub (by omega)) ?_
  refine g_put (A := (fun p => tb ≤ p ∧ p ≤ tb + 7)) X kc_EditedText ho 1 (by decide) lk_EditedText_29 rfl rfl rfl (Nat.le_of_ble_eq_true rfl) d_EditedText_close_43 (show _ ∧ _ by omega) hL (fun H8 locs h9 z10 oq11 hL => ?_)
  replace h5 := h5.kept (oq11 _ (by omega))
  replace hsu := hsu.kept (oq11 _ (by omega))
  replace hF := hF.kept (oq11 _ (by omega))
  replace hK := hK.kept (oq11 _ (by omega))
  replace hh := hh.kept (fun p h1 h2 => oq11 p (by omega))
  refine lv_aload_n X.1.1 X.1.2.1 d_EditedText_close_46 rfl (gl_at hl rfl) ?_
  refine lv_iconst (v := nI 0) X.1.1 X.1.2.1 d_EditedText_close_47 (by decide) ?_
  refine g_put (A := (fun p => tb ≤ p ∧ p ≤ tb + 7)) X kc_EditedText h9 4 (by decide) lk_EditedText_47 rfl rfl rfl (Nat.le_of_ble_eq_true rfl) d_EditedText_close_48 (show _ ∧ _ by omega) hL (fun H12 locs h13 z14 oq15 hL => ?_)
  replace h5 := h5.kept (oq15 _ (by omega))
  replace hsu := hsu.kept (oq15 _ (by omega))
  replace hF := hF.kept (oq15 _ (by omega))
  replace hK := hK.kept (oq15 _ (by omega))
  replace hh := hh.kept (fun p h1 h2 => oq15 p (by omega))
  exact g_vret X B ⟨rfl, ⟨by rw [t_del_len hi hk]; exact h13, ⟨_, h5, tX_del hf hi hk⟩, ⟨by rw [t_del_len hi hk]; omega, t_del_c hxc, by omega⟩, hh, hsu, F, K, hF, hK, fun h => absurd rfl h⟩, (z14.trans (z10.trans (z6.trans hz2))), fun p hp => ((oq15 p (by omega)).trans ((oq11 p (by omega)).trans ((oq7 p (by omega)).trans (fr2 p (by omega)))))⟩ hL d_EditedText_close_51 (by omega) (by omega)

set_option maxHeartbeats 4000000 in
set_option maxRecDepth 100000 in
theorem c_EditedText_takeBack0 (l : Launch) (D : va_G) (q : Nat → ClassId) (H : Heap) (tb : Nat) (xs : List Nat) (so : Nat) (ht : txA D q H tb xs [] so) : gC l y_EditedText_takeBack (Cond.code y_EditedText_takeBack b_EditedText_takeBack 1 (some .boolean) :: gWS) (gR 2 40 0 0) D CL (gY q) (fun _ => True) [.ref tb] H (fun v H1 => v = some (.int (nI 0)) ∧ H1 = H) 0 0 (fun _ => False) := by
  refine gC.ofW R_EditedText "takeBack" (by decide) rfl rfl ?_
  intro p e s m below meth c hadm X hE hH B hne
  refine g_entry [some (.ref tb)] rfl rfl (Nat.le_of_ble_eq_true rfl) (fun ls hl => ?_)
  obtain ⟨ho, ⟨f, hlt, hf⟩, ⟨hxl, hxc, hso⟩, hh, hsu, F, K, hF, hK, hsrt⟩ := ht
  have hh0 := hh
  obtain ⟨nw, hq, ln, hho, hhr⟩ := hh0
  have hus1 : 0 ≤ 20 := hhr.2.2.2.1
  refine lv_aload_n X.1.1 X.1.2.1 d_EditedText_takeBack_0 rfl (gl_at hl rfl) ?_
  refine g_get X kc_EditedText ho 2 (by decide) lk_EditedText_18 rfl d_EditedText_takeBack_1 ?_
  refine g_get X kc_History hho 3 (by decide) lk_EditedText_51 rfl d_EditedText_takeBack_4 ?_
  refine gn_ne0 X.1.1 X.1.2.1 0 (by omega) d_EditedText_takeBack_7 rfl (fun hc7 => ?_) (fun hc7 => ?_)
  · exact absurd rfl hc7
  · refine lv_iconst (v := nI 0) X.1.1 X.1.2.1 d_EditedText_takeBack_10 (by decide) ?_
    exact g_zret X B (by decide) ⟨rfl, rfl⟩ (fun _ h => by cases h) d_EditedText_takeBack_11 (by omega) (by omega)

set_option maxHeartbeats 4000000 in
set_option maxRecDepth 100000 in
theorem c_EditedText_takeBack (l : Launch) (D : va_G) (q : Nat → ClassId) (H : Heap) (tb : Nat) (xs : List Nat) (u : List Nat) (us : List (List Nat)) (so : Nat) (ht : txA D q H tb xs (u :: us) so) : gC l y_EditedText_takeBack (Cond.code y_EditedText_takeBack b_EditedText_takeBack 1 (some .boolean) :: gWS) (gR 2 40 0 0) D CL (gY q) (fun _ => True) [.ref tb] H (fun v H1 => v = some (.int (nI 1)) ∧ txA D q H1 tb u us 0 ∧ H1.size = H.size ∧ ∀ p : Nat, ¬ (tb ≤ p ∧ p ≤ tb + 7) → H1[p]? = H[p]?) 0 0 (fun p => tb ≤ p ∧ p ≤ tb + 7) := by
  refine gC.ofW R_EditedText "takeBack" (by decide) rfl rfl ?_
  intro p e s m below meth c hadm X hE hH B hne
  refine g_entry [some (.ref tb)] rfl rfl (Nat.le_of_ble_eq_true rfl) (fun ls hl => ?_)
  obtain ⟨ho, ⟨f, hlt, hf⟩, ⟨hxl, hxc, hso⟩, hh, hsu, F, K, hF, hK, hsrt⟩ := ht
  have hh0 := hh
  obtain ⟨nw, hq, ln, hho, hhr⟩ := hh0
  have hus1 : us.length + 1 ≤ 20 := hhr.2.2.2.1
  refine lv_aload_n X.1.1 X.1.2.1 d_EditedText_takeBack_0 rfl (gl_at hl rfl) ?_
  refine g_get X kc_EditedText ho 2 (by decide) lk_EditedText_18 rfl d_EditedText_takeBack_1 ?_
  refine g_get X kc_History hho 3 (by decide) lk_EditedText_51 rfl d_EditedText_takeBack_4 ?_
  refine gn_ne0 X.1.1 X.1.2.1 (us.length + 1) (by omega) d_EditedText_takeBack_7 rfl (fun hc7 => ?_) (fun hc7 => ?_)
  · have hlen9 := hhr.2.2.2.1
    refine lv_aload_n X.1.1 X.1.2.1 d_EditedText_takeBack_12 rfl (gl_at hl rfl) ?_
    refine lv_aload_n X.1.1 X.1.2.1 d_EditedText_takeBack_13 rfl (gl_at hl rfl) ?_
    refine g_get X kc_EditedText ho 2 (by decide) lk_EditedText_18 rfl d_EditedText_takeBack_14 ?_
    refine lv_aload_n X.1.1 X.1.2.1 d_EditedText_takeBack_17 rfl (gl_at hl rfl) ?_
    refine g_get X kc_EditedText ho 0 (by decide) lk_EditedText_9 rfl d_EditedText_takeBack_18 ?_
    refine g_cv (A := (fun p => tb ≤ p ∧ p ≤ tb + 7)) X gWS_good mw_EditedText_54 kc_History (Classical.choose_spec (Classical.choose_spec (Classical.choose_spec hh))).1 (c_History_giveBack l D q H (tb + 2) u us hh (tb + 1) f hlt (by omega)) (fun _ _ _ => trivial) gBlind.tt rfl rfl hl.1 (Nat.le_of_ble_eq_true rfl) rfl rfl ⟨by decide, by decide⟩ ⟨by decide, by decide⟩ d_EditedText_takeBack_21 (fun p h => show _ ∧ _ by omega) (fun _ h => by cases h) (fun v1 H2 locs hp3 hL => ?_)
    obtain ⟨rfl, hul, huc, ⟨f1, hlt1, hf1⟩, hh2, hz2, fr2⟩ := hp3
    replace ho := va_at.kept ho (fr2 _ (by omega))
    replace hsu := va_at.kept hsu (fr2 _ (by omega))
    replace hF := va_at.kept hF (fr2 _ (by omega))
    replace hK := va_at.kept hK (fr2 _ (by omega))
    replace hh := hh2
    have hlt := hlt1
    refine g_put (A := (fun p => tb ≤ p ∧ p ≤ tb + 7)) X kc_EditedText ho 1 (by decide) lk_EditedText_29 rfl rfl rfl (Nat.le_of_ble_eq_true rfl) d_EditedText_takeBack_24 (show _ ∧ _ by omega) hL (fun H4 locs h5 z6 oq7 hL => ?_)
    replace hlt := hlt.kept (oq7 _ (by omega))
    replace hsu := hsu.kept (oq7 _ (by omega))
    replace hF := hF.kept (oq7 _ (by omega))
    replace hK := hK.kept (oq7 _ (by omega))
    replace hh := hh.kept (fun p h1 h2 => oq7 p (by omega))
    refine lv_aload_n X.1.1 X.1.2.1 d_EditedText_takeBack_27 rfl (gl_at hl rfl) ?_
    refine lv_iconst (v := nI 0) X.1.1 X.1.2.1 d_EditedText_takeBack_28 (by decide) ?_
    refine g_put (A := (fun p => tb ≤ p ∧ p ≤ tb + 7)) X kc_EditedText h5 4 (by decide) lk_EditedText_47 rfl rfl rfl (Nat.le_of_ble_eq_true rfl) d_EditedText_takeBack_29 (show _ ∧ _ by omega) hL (fun H8 locs h9 z10 oq11 hL => ?_)
    replace hlt := hlt.kept (oq11 _ (by omega))
    replace hsu := hsu.kept (oq11 _ (by omega))
    replace hF := hF.kept (oq11 _ (by omega))
    replace hK := hK.kept (oq11 _ (by omega))
    replace hh := hh.kept (fun p h1 h2 => oq11 p (by omega))
    refine lv_iconst (v := nI 1) X.1.1 X.1.2.1 d_EditedText_takeBack_32 (by decide) ?_
    exact g_zret X B (by decide) ⟨rfl, ⟨h9, ⟨f1, hlt, hf1⟩, ⟨hul, huc, by omega⟩, hh, hsu, F, K, hF, hK, fun h => absurd rfl h⟩, (z10.trans (z6.trans hz2)), fun p hp => ((oq11 p (by omega)).trans ((oq7 p (by omega)).trans (fr2 p (by omega))))⟩ hL d_EditedText_takeBack_33 (by omega) (by omega)
  · omega

set_option maxHeartbeats 4000000 in
set_option maxRecDepth 100000 in
theorem c_EditedText_hash (l : Launch) (D : va_G) (q : Nat → ClassId) (H : Heap) (tb : Nat) (xs : List Nat) (us : List (List Nat)) (so : Nat) (ht : txA D q H tb xs us so) : gC l y_EditedText_hash (Cond.code y_EditedText_hash b_EditedText_hash 3 (some .int) :: gWS) (gR 0 0 0 0) D CL (gY q) (fun _ => True) [.ref tb] H (fun v H1 => v = some (.int (t_hash xs xs.length)) ∧ H1 = H) 0 0 (fun _ => False) := by
  refine gC.ofW R_EditedText "hash" (by decide) rfl rfl ?_
  intro p e s m below meth c hadm X hE hH B hne
  refine g_entry [some (.ref tb), none, none] rfl rfl (Nat.le_of_ble_eq_true rfl) (fun ls hl => ?_)
  obtain ⟨ho, ⟨f, hlt, hf⟩, ⟨hxl, hxc, hso⟩, hh, hsu, F, K, hF, hK, hsrt⟩ := ht
  refine lv_iconst (v := nI 0) X.1.1 X.1.2.1 d_EditedText_hash_0 (by decide) ?_
  refine g_istn X.1.1 X.1.2.1 hl 1 d_EditedText_hash_1 rfl (Nat.le_of_ble_eq_true rfl) rfl (fun ls hl => ?_)
  refine lv_iconst (v := nI 0) X.1.1 X.1.2.1 d_EditedText_hash_2 (by decide) ?_
  refine g_istn X.1.1 X.1.2.1 hl 2 d_EditedText_hash_3 rfl (Nat.le_of_ble_eq_true rfl) rfl (fun ls hl => ?_)
  have loop4 : ∀ (fu : Nat) (i : Nat) (k : Int32) (ls : Array Slot), xs.length - i < fu → (i ≤ xs.length) → (k = t_hash xs i) →  gl ls [some (.ref tb), some (.int k), some (.int (nI i))] → W p l e (gR 0 0 0 0) s m ([.ref tb] : List Value).toArray below meth c H [] 0 0 (gQ below ([.ref tb] : List Value).toArray s (fun v H1 => v = some (.int (t_hash xs xs.length)) ∧ H1 = H) 0 0 (fun _ => False)) (F0 m 4 ls []) := by
    intro fu
    induction fu with
    | zero => intro i k ls hmu; omega
    | succ fu ih4 =>
      intro i k ls hmu4 hi4_0 hi4_1 hl
      refine lv_iload_n X.1.1 X.1.2.1 d_EditedText_hash_4 rfl (gl_at hl rfl) ?_
      refine lv_aload_n X.1.1 X.1.2.1 d_EditedText_hash_5 rfl (gl_at hl rfl) ?_
      refine g_get X kc_EditedText ho 1 (by decide) lk_EditedText_29 rfl d_EditedText_hash_6 ?_
      refine gn_ge X.1.1 X.1.2.1 i xs.length (by omega) (by omega) d_EditedText_hash_9 rfl (fun hc9 => ?_) (fun hc9 => ?_)
      · have e9 : i = xs.length := by omega
        refine lv_iload_n X.1.1 X.1.2.1 d_EditedText_hash_30 rfl (gl_at hl rfl) ?_
        exact g_iret X B ⟨by rw [hi4_1, e9], rfl⟩ (fun _ h => by cases h) d_EditedText_hash_31 (by omega) (by omega)
      · refine lv_bipush (v := nI 31) X.1.1 X.1.2.1 d_EditedText_hash_12 (by decide) ?_
        refine lv_iload_n X.1.1 X.1.2.1 d_EditedText_hash_14 rfl (gl_at hl rfl) ?_
        refine lv_imul X.1.1 X.1.2.1 d_EditedText_hash_15 ?_
        refine lv_aload_n X.1.1 X.1.2.1 d_EditedText_hash_16 rfl (gl_at hl rfl) ?_
        refine g_get X kc_EditedText ho 0 (by decide) lk_EditedText_9 rfl d_EditedText_hash_17 ?_
        refine lv_iload_n X.1.1 X.1.2.1 d_EditedText_hash_20 rfl (gl_at hl rfl) ?_
        refine g_iald X 0 hlt rfl i (by omega) (by decide) d_EditedText_hash_21 ?_
        refine g_top (nI (xs.getD i 0)) (hf i (by omega)) ?_
        refine lv_iadd X.1.1 X.1.2.1 d_EditedText_hash_22 ?_
        refine g_istn X.1.1 X.1.2.1 hl 1 d_EditedText_hash_23 rfl (Nat.le_of_ble_eq_true rfl) rfl (fun ls hl => ?_)
        refine g_iinc X.1.1 X.1.2.1 (nI (i + 1)) hl 2 d_EditedText_hash_24 rfl (nI_1 _) rfl (fun ls hl => ?_)
        refine lv_goto X.1.1 X.1.2.1 d_EditedText_hash_27 rfl ?_
        exact ih4 (i + 1) (((nI 31) * k) + (nI (xs.getD i 0))) ls (by omega) (by omega) (by rw [hi4_1]; rfl) hl
  exact loop4 _ 0 (nI 0) ls (Nat.lt_succ_self _) (Nat.zero_le _) rfl hl

set_option maxHeartbeats 4000000 in
set_option maxRecDepth 100000 in
theorem c_EditedText_standsAt (l : Launch) (D : va_G) (q : Nat → ClassId) (H : Heap) (tb : Nat) (xs : List Nat) (us : List (List Nat)) (so : Nat) (ht : txA D q H tb xs us so) (b : Nat) (ys : List Nat) (hys : kA D q H b ys) (pl : Nat) (hpl : pl ≤ xs.length) : gC l y_EditedText_standsAt (Cond.code y_EditedText_standsAt b_EditedText_standsAt 4 (some .boolean) :: gWS) (gR 0 0 0 0) D CL (gY q) (fun _ => True) [.ref tb, .int (nI pl), .ref b] H (fun v H1 => v = some (.int (nI (if t_at xs ys pl then 1 else 0))) ∧ H1 = H) 0 0 (fun _ => False) := by
  refine gC.ofW R_EditedText "standsAt" (by decide) rfl rfl ?_
  intro p e s m below meth c hadm X hE hH B hne
  refine g_entry [some (.ref tb), some (.int (nI pl)), some (.ref b), none] rfl rfl (Nat.le_of_ble_eq_true rfl) (fun ls hl => ?_)
  obtain ⟨ho, ⟨f, hlt, hf⟩, ⟨hxl, hxc, hso⟩, hh, hsu, F, K, hF, hK, hsrt⟩ := ht
  obtain ⟨hb, ⟨fb, hlb, hfb⟩, hyl, hyc⟩ := hys
  refine lv_aload_n X.1.1 X.1.2.1 d_EditedText_standsAt_0 rfl (gl_at hl rfl) ?_
  refine g_get X kc_Key hb 1 (by decide) lk_EditedText_37 rfl d_EditedText_standsAt_1 ?_
  refine lv_aload_n X.1.1 X.1.2.1 d_EditedText_standsAt_4 rfl (gl_at hl rfl) ?_
  refine g_get X kc_EditedText ho 1 (by decide) lk_EditedText_29 rfl d_EditedText_standsAt_5 ?_
  refine lv_iload_n X.1.1 X.1.2.1 d_EditedText_standsAt_8 rfl (gl_at hl rfl) ?_
  refine lv_isub X.1.1 X.1.2.1 d_EditedText_standsAt_9 ?_
  refine g_top (nI (xs.length - pl)) (pk_sub (by omega)) ?_
  refine gn_le X.1.1 X.1.2.1 ys.length (xs.length - pl) (by omega) (by omega) d_EditedText_standsAt_10 rfl (fun hc10 => ?_) (fun hc10 => ?_)
  · refine lv_iconst (v := nI 0) X.1.1 X.1.2.1 d_EditedText_standsAt_15 (by decide) ?_
    refine g_istn X.1.1 X.1.2.1 hl 3 d_EditedText_standsAt_16 rfl (Nat.le_of_ble_eq_true rfl) rfl (fun ls hl => ?_)
    have loop17 : ∀ (fu : Nat) (i : Nat) (ls : Array Slot), ys.length - i < fu → (i ≤ ys.length) → (∀ j, j < i → xs.getD (pl + j) 0 = ys.getD j 0) →  gl ls [some (.ref tb), some (.int (nI pl)), some (.ref b), some (.int (nI i))] → W p l e (gR 0 0 0 0) s m ([.ref tb, .int (nI pl), .ref b] : List Value).toArray below meth c H [] 0 0 (gQ below ([.ref tb, .int (nI pl), .ref b] : List Value).toArray s (fun v H1 => v = some (.int (nI (if t_at xs ys pl then 1 else 0))) ∧ H1 = H) 0 0 (fun _ => False)) (F0 m 17 ls []) := by
      intro fu
      induction fu with
      | zero => intro i ls hmu; omega
      | succ fu ih17 =>
        intro i ls hmu17 hi17_0 hi17_1 hl
        refine lv_iload_n X.1.1 X.1.2.1 d_EditedText_standsAt_17 rfl (gl_at hl rfl) ?_
        refine lv_aload_n X.1.1 X.1.2.1 d_EditedText_standsAt_18 rfl (gl_at hl rfl) ?_
        refine g_get X kc_Key hb 1 (by decide) lk_EditedText_37 rfl d_EditedText_standsAt_19 ?_
        refine gn_ge X.1.1 X.1.2.1 i ys.length (by omega) (by omega) d_EditedText_standsAt_22 rfl (fun hc22 => ?_) (fun hc22 => ?_)
        · refine lv_iconst (v := nI 1) X.1.1 X.1.2.1 d_EditedText_standsAt_50 (by decide) ?_
          exact g_zret X B (by decide) ⟨by rw [if_pos (t_at_all hc10 (fun j hj => hi17_1 j (by omega)))], rfl⟩ (fun _ h => by cases h) d_EditedText_standsAt_51 (by omega) (by omega)
        · refine lv_aload_n X.1.1 X.1.2.1 d_EditedText_standsAt_25 rfl (gl_at hl rfl) ?_
          refine g_get X kc_EditedText ho 0 (by decide) lk_EditedText_9 rfl d_EditedText_standsAt_26 ?_
          refine lv_iload_n X.1.1 X.1.2.1 d_EditedText_standsAt_29 rfl (gl_at hl rfl) ?_
          refine lv_iload_n X.1.1 X.1.2.1 d_EditedText_standsAt_30 rfl (gl_at hl rfl) ?_
          refine lv_iadd X.1.1 X.1.2.1 d_EditedText_standsAt_31 ?_
          refine g_top (nI (pl + i)) (nI_add _ _) ?_
          refine g_iald X 0 hlt rfl (pl + i) (by omega) (by decide) d_EditedText_standsAt_32 ?_
          have e1 := t_lt hxc (pl + i)
          refine g_top (nI (xs.getD (pl + i) 0)) (hf _ (by omega)) ?_
          refine lv_aload_n X.1.1 X.1.2.1 d_EditedText_standsAt_33 rfl (gl_at hl rfl) ?_
          refine g_get X kc_Key hb 0 (by decide) lk_EditedText_46 rfl d_EditedText_standsAt_34 ?_
          refine lv_iload_n X.1.1 X.1.2.1 d_EditedText_standsAt_37 rfl (gl_at hl rfl) ?_
          refine g_iald X 0 hlb rfl i (by omega) (by decide) d_EditedText_standsAt_38 ?_
          have e2 := t_lt hyc i
          refine g_top (nI (ys.getD i 0)) (hfb i (by omega)) ?_
          refine gn_eq X.1.1 X.1.2.1 (xs.getD (pl + i) 0) (ys.getD i 0) (by omega) (by omega) d_EditedText_standsAt_39 rfl (fun hc39 => ?_) (fun hc39 => ?_)
          · refine g_iinc X.1.1 X.1.2.1 (nI (i + 1)) hl 3 d_EditedText_standsAt_44 rfl (nI_1 _) rfl (fun ls hl => ?_)
            refine lv_goto X.1.1 X.1.2.1 d_EditedText_standsAt_47 rfl ?_
            exact ih17 (i + 1) ls (by omega) (by omega) (lt_s hi17_1 hc39) hl
          · refine lv_iconst (v := nI 0) X.1.1 X.1.2.1 d_EditedText_standsAt_42 (by decide) ?_
            exact g_zret X B (by decide) ⟨by rw [if_neg (t_at_ne (by omega) hc39)], rfl⟩ (fun _ h => by cases h) d_EditedText_standsAt_43 (by omega) (by omega)
    exact loop17 _ 0 ls (Nat.lt_succ_self _) (Nat.zero_le _) (fun j hj => absurd hj (Nat.not_lt_zero j)) hl
  · refine lv_iconst (v := nI 0) X.1.1 X.1.2.1 d_EditedText_standsAt_13 (by decide) ?_
    exact g_zret X B (by decide) ⟨by rw [if_neg (t_at_long hc10)], rfl⟩ (fun _ h => by cases h) d_EditedText_standsAt_14 (by omega) (by omega)

set_option maxHeartbeats 4000000 in
set_option maxRecDepth 100000 in
theorem c_EditedText_countPlaces (l : Launch) (D : va_G) (q : Nat → ClassId) (H : Heap) (tb : Nat) (xs : List Nat) (us : List (List Nat)) (so : Nat) (ht : txA D q H tb xs us so) (b : Nat) (ys : List Nat) (hys : kA D q H b ys) : gC l y_EditedText_countPlaces (Cond.code y_EditedText_countPlaces b_EditedText_countPlaces 4 (some .int) :: gWS) (gR 1 23 0 0) D CL (gY q) (fun _ => True) [.ref tb, .ref b] H (fun v H1 => v = some (.int (nI (v_cnt (fun p => decide (t_at xs ys p)) 0 xs.length))) ∧ H1 = H) 0 0 (fun _ => False) := by
  refine gC.ofW R_EditedText "countPlaces" (by decide) rfl rfl ?_
  intro p e s m below meth c hadm X hE hH B hne
  refine g_entry [some (.ref tb), some (.ref b), none, none] rfl rfl (Nat.le_of_ble_eq_true rfl) (fun ls hl => ?_)
  have ht0 := ht
  obtain ⟨ho, ⟨f, hlt, hf⟩, ⟨hxl, hxc, hso⟩, hh, hsu, F, K, hF, hK, hsrt⟩ := ht
  have ht := ht0
  refine lv_iconst (v := nI 0) X.1.1 X.1.2.1 d_EditedText_countPlaces_0 (by decide) ?_
  refine g_istn X.1.1 X.1.2.1 hl 2 d_EditedText_countPlaces_1 rfl (Nat.le_of_ble_eq_true rfl) rfl (fun ls hl => ?_)
  refine lv_iconst (v := nI 0) X.1.1 X.1.2.1 d_EditedText_countPlaces_2 (by decide) ?_
  refine g_istn X.1.1 X.1.2.1 hl 3 d_EditedText_countPlaces_3 rfl (Nat.le_of_ble_eq_true rfl) rfl (fun ls hl => ?_)
  have loop4 : ∀ (fu : Nat) (i : Nat) (k : Nat) (locs : List Loc) (ls : Array Slot), xs.length - i < fu → (i ≤ xs.length) → (k = v_cnt (fun p => decide (t_at xs ys p)) 0 i) → (∀ x ∈ locs, (fun _ => False) x.base) → gl ls [some (.ref tb), some (.ref b), some (.int (nI k)), some (.int (nI i))] → W p l e (gR 1 23 0 0) s m ([.ref tb, .ref b] : List Value).toArray below meth c H locs 0 0 (gQ below ([.ref tb, .ref b] : List Value).toArray s (fun v H1 => v = some (.int (nI (v_cnt (fun p => decide (t_at xs ys p)) 0 xs.length))) ∧ H1 = H) 0 0 (fun _ => False)) (F0 m 4 ls []) := by
    intro fu
    induction fu with
    | zero => intro i k locs ls hmu; omega
    | succ fu ih4 =>
      intro i k locs ls hmu4 hi4_0 hi4_1 hL hl
      have hk9 := v_cnt_le (fun p => decide (t_at xs ys p)) 0 i
      refine lv_iload_n X.1.1 X.1.2.1 d_EditedText_countPlaces_4 rfl (gl_at hl rfl) ?_
      refine lv_aload_n X.1.1 X.1.2.1 d_EditedText_countPlaces_5 rfl (gl_at hl rfl) ?_
      refine g_get X kc_EditedText ho 1 (by decide) lk_EditedText_29 rfl d_EditedText_countPlaces_6 ?_
      refine gn_ge X.1.1 X.1.2.1 i xs.length (by omega) (by omega) d_EditedText_countPlaces_9 rfl (fun hc9 => ?_) (fun hc9 => ?_)
      · have e9 : i = xs.length := by omega
        rw [e9] at hi4_1
        refine lv_iload_n X.1.1 X.1.2.1 d_EditedText_countPlaces_30 rfl (gl_at hl rfl) ?_
        exact g_iret X B ⟨by rw [hi4_1], rfl⟩ hL d_EditedText_countPlaces_31 (by omega) (by omega)
      · refine lv_aload_n X.1.1 X.1.2.1 d_EditedText_countPlaces_12 rfl (gl_at hl rfl) ?_
        refine lv_iload_n X.1.1 X.1.2.1 d_EditedText_countPlaces_13 rfl (gl_at hl rfl) ?_
        refine lv_aload_n X.1.1 X.1.2.1 d_EditedText_countPlaces_14 rfl (gl_at hl rfl) ?_
        refine g_cv (A := (fun _ => False)) X gWS_good mw_EditedText_68 kc_EditedText ho (c_EditedText_standsAt l D q H tb xs us so ht b ys hys i (by omega)) (fun _ _ _ => trivial) gBlind.tt rfl rfl hl.1 (Nat.le_of_ble_eq_true rfl) rfl rfl ⟨by decide, by decide⟩ ⟨by decide, by decide⟩ d_EditedText_countPlaces_15 (fun _ h => h.elim) hL (fun v1 H2 locs hp3 hL => ?_)
        obtain ⟨rfl, hHe⟩ := hp3
        rw [hHe]
        refine lv_if_eq X.1.1 X.1.2.1 d_EditedText_countPlaces_18 rfl (fun hc18 => ?_) (fun hc18 => ?_)
        · replace hc18 := gz_f hc18
          refine g_iinc X.1.1 X.1.2.1 (nI (i + 1)) hl 3 d_EditedText_countPlaces_24 rfl (nI_1 _) rfl (fun ls hl => ?_)
          refine lv_goto X.1.1 X.1.2.1 d_EditedText_countPlaces_27 rfl ?_
          exact ih4 (i + 1) k locs ls (by omega) (by omega) (by rw [v_cnt]; simp only [Nat.zero_add, decide_eq_true_eq]; first | (rw [if_pos hc18]; omega) | (rw [if_neg hc18]; omega)) hL hl
        · replace hc18 := gz_t hc18
          refine g_iinc X.1.1 X.1.2.1 (nI (k + 1)) hl 2 d_EditedText_countPlaces_21 rfl (nI_1 _) rfl (fun ls hl => ?_)
          refine g_iinc X.1.1 X.1.2.1 (nI (i + 1)) hl 3 d_EditedText_countPlaces_24 rfl (nI_1 _) rfl (fun ls hl => ?_)
          refine lv_goto X.1.1 X.1.2.1 d_EditedText_countPlaces_27 rfl ?_
          exact ih4 (i + 1) (k + 1) locs ls (by omega) (by omega) (by rw [v_cnt]; simp only [Nat.zero_add, decide_eq_true_eq]; first | (rw [if_pos hc18]; omega) | (rw [if_neg hc18]; omega)) hL hl
  exact loop4 _ 0 0 [] ls (Nat.lt_succ_self _) (Nat.zero_le _) rfl (fun _ h => by cases h) hl

set_option maxHeartbeats 4000000 in
set_option maxRecDepth 100000 in
theorem c_EditedText_sortedSuffixes (l : Launch) (D : va_G) (q : Nat → ClassId) (H : Heap) (tb : Nat) (xs : List Nat) (us : List (List Nat)) (so : Nat) (ht : txA D q H tb xs us so) : gC l y_EditedText_sortedSuffixes (Cond.code y_EditedText_sortedSuffixes b_EditedText_sortedSuffixes 1 (some (.object "KeyHall$SuffixOrder")) :: gWS) (gR 2 47 0 0) D CL (gY q) (fun _ => True) [.ref tb] H (fun v H1 => v = some (.ref (tb + 5)) ∧ txA D q H1 tb xs us 1 ∧ H1.size = H.size ∧ ∀ p : Nat, ¬ (tb ≤ p ∧ p ≤ tb + 7) → H1[p]? = H[p]?) 0 0 (fun p => tb ≤ p ∧ p ≤ tb + 7) := by
  refine gC.ofW R_EditedText "sortedSuffixes" (by decide) rfl rfl ?_
  intro p e s m below meth c hadm X hE hH B hne
  refine g_entry [some (.ref tb)] rfl rfl (Nat.le_of_ble_eq_true rfl) (fun ls hl => ?_)
  obtain ⟨ho, ⟨f, hlt, hf⟩, ⟨hxl, hxc, hso⟩, hh, hsu, F, K, hF, hK, hsrt⟩ := ht
  refine lv_aload_n X.1.1 X.1.2.1 d_EditedText_sortedSuffixes_0 rfl (gl_at hl rfl) ?_
  refine g_get X kc_EditedText ho 4 (by decide) lk_EditedText_47 rfl d_EditedText_sortedSuffixes_1 ?_
  refine gn_ne0 X.1.1 X.1.2.1 so (by omega) d_EditedText_sortedSuffixes_4 rfl (fun hc4 => ?_) (fun hc4 => ?_)
  · have e9 : so = 1 := by omega
    subst e9
    refine lv_aload_n X.1.1 X.1.2.1 d_EditedText_sortedSuffixes_27 rfl (gl_at hl rfl) ?_
    refine g_get X kc_EditedText ho 3 (by decide) lk_EditedText_25 rfl d_EditedText_sortedSuffixes_28 ?_
    exact g_aret X B ⟨rfl, ⟨ho, ⟨f, hlt, hf⟩, ⟨hxl, hxc, by omega⟩, hh, hsu, F, K, hF, hK, fun _ => hsrt (by omega)⟩, rfl, fun p hp => rfl⟩ (fun _ h => by cases h) d_EditedText_sortedSuffixes_31 (by omega) (by omega)
  · refine lv_aload_n X.1.1 X.1.2.1 d_EditedText_sortedSuffixes_7 rfl (gl_at hl rfl) ?_
    refine g_get X kc_EditedText ho 3 (by decide) lk_EditedText_25 rfl d_EditedText_sortedSuffixes_8 ?_
    refine lv_aload_n X.1.1 X.1.2.1 d_EditedText_sortedSuffixes_11 rfl (gl_at hl rfl) ?_
    refine g_get X kc_EditedText ho 0 (by decide) lk_EditedText_9 rfl d_EditedText_sortedSuffixes_12 ?_
    refine lv_aload_n X.1.1 X.1.2.1 d_EditedText_sortedSuffixes_15 rfl (gl_at hl rfl) ?_
    refine g_get X kc_EditedText ho 1 (by decide) lk_EditedText_29 rfl d_EditedText_sortedSuffixes_16 ?_
    refine g_cv (A := (fun p => tb ≤ p ∧ p ≤ tb + 7)) X gWS_good mw_EditedText_58 kc_SuffixOrder hsu (c_SuffixOrder_sort l D q H (tb + 5) F K hsu hF hK (tb + 1) f hlt (by omega) xs hxl hxc hf xs.length rfl) (fun _ _ _ => trivial) gBlind.tt rfl rfl hl.1 (Nat.le_of_ble_eq_true rfl) rfl rfl ⟨by decide, by decide⟩ ⟨by decide, by decide⟩ d_EditedText_sortedSuffixes_19 (fun p h => show _ ∧ _ by omega) (fun _ h => by cases h) (fun v1 H2 locs hp3 hL => ?_)
    obtain ⟨rfl, ⟨F1, K1, sti, hF1, hK1, hP1, hst1⟩, hz2, fr2⟩ := hp3
    replace ho := va_at.kept ho (fr2 _ (by omega))
    replace hlt := va_at.kept hlt (fr2 _ (by omega))
    replace hsu := va_at.kept hsu (fr2 _ (by omega))
    replace hh := hh.kept (fun p h1 h2 => fr2 p (by omega))
    have hF := hF1
    have hK := hK1
    refine lv_aload_n X.1.1 X.1.2.1 d_EditedText_sortedSuffixes_22 rfl (gl_at hl rfl) ?_
    refine lv_iconst (v := nI 1) X.1.1 X.1.2.1 d_EditedText_sortedSuffixes_23 (by decide) ?_
    refine g_put (A := (fun p => tb ≤ p ∧ p ≤ tb + 7)) X kc_EditedText ho 4 (by decide) lk_EditedText_47 rfl rfl rfl (Nat.le_of_ble_eq_true rfl) d_EditedText_sortedSuffixes_24 (show _ ∧ _ by omega) hL (fun H4 locs h5 z6 oq7 hL => ?_)
    replace hlt := hlt.kept (oq7 _ (by omega))
    replace hsu := hsu.kept (oq7 _ (by omega))
    replace hF := hF.kept (oq7 _ (by omega))
    replace hK := hK.kept (oq7 _ (by omega))
    replace hh := hh.kept (fun p h1 h2 => oq7 p (by omega))
    refine lv_aload_n X.1.1 X.1.2.1 d_EditedText_sortedSuffixes_27 rfl (gl_at hl rfl) ?_
    refine g_get X kc_EditedText h5 3 (by decide) lk_EditedText_25 rfl d_EditedText_sortedSuffixes_28 ?_
    exact g_aret X B ⟨rfl, ⟨h5, ⟨f, hlt, hf⟩, ⟨hxl, hxc, by omega⟩, hh, hsu, F1, K1, hF, hK, fun _ => ⟨sti, hP1, hst1⟩⟩, (z6.trans hz2), fun p hp => ((oq7 p (by omega)).trans (fr2 p (by omega)))⟩ hL d_EditedText_sortedSuffixes_31 (by omega) (by omega)

set_option maxHeartbeats 4000000 in
set_option maxRecDepth 100000 in
theorem c_EditedText_shared (l : Launch) (D : va_G) (q : Nat → ClassId) (H : Heap) (tb : Nat) (xs : List Nat) (us : List (List Nat)) (so : Nat) (ht : txA D q H tb xs us so) (k : Nat) (hk : k < xs.length) : gC l y_EditedText_sharedWithSuffixBefore (Cond.code y_EditedText_sharedWithSuffixBefore b_EditedText_sharedWithSuffixBefore 6 (some .int) :: gWS) (gR 3 67 0 0) D CL (gY q) (fun _ => True) [.ref tb, .int (nI k)] H (fun v H1 => ((k = 0 ∧ v = some (.int (nI 0))) ∨ ∃ sti, sfP xs xs.length xs.length sti ∧ k ≠ 0 ∧ v = some (.int (nI (t_lcp (xs.drop (sti k)) (xs.drop (sti (k - 1))))))) ∧ (∃ s1, txA D q H1 tb xs us s1) ∧ H1.size = H.size ∧ ∀ p : Nat, ¬ (tb ≤ p ∧ p ≤ tb + 7) → H1[p]? = H[p]?) 0 0 (fun p => tb ≤ p ∧ p ≤ tb + 7) := by
  refine gC.ofW R_EditedText "sharedWithSuffixBefore" (by decide) rfl rfl ?_
  intro p e s m below meth c hadm X hE hH B hne
  refine g_entry [some (.ref tb), some (.int (nI k)), none, none, none, none] rfl rfl (Nat.le_of_ble_eq_true rfl) (fun ls hl => ?_)
  have ht0 := ht
  obtain ⟨ho, ⟨f, hlt, hf⟩, ⟨hxl, hxc, hso⟩, hh, hsu, F, K, hF, hK, hsrt⟩ := ht
  have ht := ht0
  refine lv_iload_n X.1.1 X.1.2.1 d_EditedText_sharedWithSuffixBefore_0 rfl (gl_at hl rfl) ?_
  refine gn_ne0 X.1.1 X.1.2.1 k (by omega) d_EditedText_sharedWithSuffixBefore_1 rfl (fun hc1 => ?_) (fun hc1 => ?_)
  · refine lv_aload_n X.1.1 X.1.2.1 d_EditedText_sharedWithSuffixBefore_6 rfl (gl_at hl rfl) ?_
    refine g_cv (A := (fun p => tb ≤ p ∧ p ≤ tb + 7)) X gWS_good mw_EditedText_61 kc_EditedText ho (c_EditedText_sortedSuffixes l D q H tb xs us so ht) (fun _ _ _ => trivial) gBlind.tt rfl rfl hl.1 (Nat.le_of_ble_eq_true rfl) rfl rfl ⟨by decide, by decide⟩ ⟨by decide, by decide⟩ d_EditedText_sharedWithSuffixBefore_7 (fun p h => h) (fun _ h => by cases h) (fun v1 H2 locs hp3 hL => ?_)
    obtain ⟨rfl, ht1, hz2, fr2⟩ := hp3
    have ht9 := ht1
    obtain ⟨ho, ⟨f, hlt, hf⟩, -, -, hsu, F, K, hF, hK, hsrt⟩ := ht1
    obtain ⟨sti, hP, hst⟩ := hsrt (by decide)
    refine g_get X kc_SuffixOrder hsu 0 (by decide) lk_EditedText_65 rfl d_EditedText_sharedWithSuffixBefore_10 ?_
    refine g_astn X.1.1 X.1.2.1 hl 2 d_EditedText_sharedWithSuffixBefore_13 rfl (Nat.le_of_ble_eq_true rfl) rfl (fun ls hl => ?_)
    have hs1 := hP.1 k (by omega)
    have hs2 := hP.1 (k - 1) (by omega)
    refine lv_aload_n X.1.1 X.1.2.1 d_EditedText_sharedWithSuffixBefore_14 rfl (gl_at hl rfl) ?_
    refine lv_iload_n X.1.1 X.1.2.1 d_EditedText_sharedWithSuffixBefore_15 rfl (gl_at hl rfl) ?_
    refine g_iald X 0 hF rfl k (by omega) (by decide) d_EditedText_sharedWithSuffixBefore_16 ?_
    refine g_top (nI (sti k)) (hst k (by omega)) ?_
    refine g_istn X.1.1 X.1.2.1 hl 3 d_EditedText_sharedWithSuffixBefore_17 rfl (Nat.le_of_ble_eq_true rfl) rfl (fun ls hl => ?_)
    refine lv_aload_n X.1.1 X.1.2.1 d_EditedText_sharedWithSuffixBefore_18 rfl (gl_at hl rfl) ?_
    refine lv_iload_n X.1.1 X.1.2.1 d_EditedText_sharedWithSuffixBefore_19 rfl (gl_at hl rfl) ?_
    refine lv_iconst (v := nI 1) X.1.1 X.1.2.1 d_EditedText_sharedWithSuffixBefore_20 (by decide) ?_
    refine lv_isub X.1.1 X.1.2.1 d_EditedText_sharedWithSuffixBefore_21 ?_
    refine g_top (nI (k - 1)) (pk_sub (by omega)) ?_
    refine g_iald X 0 hF rfl (k - 1) (by omega) (by decide) d_EditedText_sharedWithSuffixBefore_22 ?_
    refine g_top (nI (sti (k - 1))) (hst (k - 1) (by omega)) ?_
    refine g_ist X.1.1 X.1.2.1 hl 4 d_EditedText_sharedWithSuffixBefore_23 (Nat.le_of_ble_eq_true rfl) rfl (fun ls hl => ?_)
    refine lv_iconst (v := nI 0) X.1.1 X.1.2.1 d_EditedText_sharedWithSuffixBefore_25 (by decide) ?_
    refine g_ist X.1.1 X.1.2.1 hl 5 d_EditedText_sharedWithSuffixBefore_26 (Nat.le_of_ble_eq_true rfl) rfl (fun ls hl => ?_)
    have loop28 : ∀ (fu : Nat) (i : Nat) (ls : Array Slot), xs.length - i < fu → (sti k + i ≤ xs.length) → (sti (k - 1) + i ≤ xs.length) → (∀ j, j < i → xs.getD (sti k + j) 0 = xs.getD (sti (k - 1) + j) 0) →  gl ls [some (.ref tb), some (.int (nI k)), some (.ref (tb + 6)), some (.int (nI (sti k))), some (.int (nI (sti (k - 1)))), some (.int (nI i))] → W p l e (gR 3 67 0 0) s m ([.ref tb, .int (nI k)] : List Value).toArray below meth c H2 locs 0 0 (gQ below ([.ref tb, .int (nI k)] : List Value).toArray s (fun v H1 => ((k = 0 ∧ v = some (.int (nI 0))) ∨ ∃ sti, sfP xs xs.length xs.length sti ∧ k ≠ 0 ∧ v = some (.int (nI (t_lcp (xs.drop (sti k)) (xs.drop (sti (k - 1))))))) ∧ (∃ s1, txA D q H1 tb xs us s1) ∧ H1.size = H.size ∧ ∀ p : Nat, ¬ (tb ≤ p ∧ p ≤ tb + 7) → H1[p]? = H[p]?) 0 0 (fun p => tb ≤ p ∧ p ≤ tb + 7)) (F0 m 28 ls []) := by
      intro fu
      induction fu with
      | zero => intro i ls hmu; omega
      | succ fu ih28 =>
        intro i ls hmu28 hi28_0 hi28_1 hi28_2 hl
        refine lv_iload_n X.1.1 X.1.2.1 d_EditedText_sharedWithSuffixBefore_28 rfl (gl_at hl rfl) ?_
        refine lv_iload X.1.1 X.1.2.1 d_EditedText_sharedWithSuffixBefore_29 (gl_at hl rfl) ?_
        refine lv_iadd X.1.1 X.1.2.1 d_EditedText_sharedWithSuffixBefore_31 ?_
        refine g_top (nI ((sti k) + i)) (nI_add _ _) ?_
        refine lv_aload_n X.1.1 X.1.2.1 d_EditedText_sharedWithSuffixBefore_32 rfl (gl_at hl rfl) ?_
        refine g_get X kc_EditedText ho 1 (by decide) lk_EditedText_29 rfl d_EditedText_sharedWithSuffixBefore_33 ?_
        refine gn_ge X.1.1 X.1.2.1 ((sti k) + i) xs.length (by omega) (by omega) d_EditedText_sharedWithSuffixBefore_36 rfl (fun hc36 => ?_) (fun hc36 => ?_)
        · refine lv_iload X.1.1 X.1.2.1 d_EditedText_sharedWithSuffixBefore_79 (gl_at hl rfl) ?_
          exact g_iret X B ⟨Or.inr ⟨sti, hP, hc1, by rw [t_lcp_eq (xs.drop (sti k)) (xs.drop (sti (k - 1))) i (by rw [List.length_drop]; omega) (by rw [List.length_drop]; omega) (fun j hj => by rw [t_getD_drop, t_getD_drop]; exact hi28_2 j hj) (by rw [List.length_drop, List.length_drop, t_getD_drop, t_getD_drop]; first | exact Or.inl (by omega) | exact Or.inr (Or.inl (by omega)) | exact Or.inr (Or.inr hc70))]⟩, ⟨1, ht9⟩, hz2, fr2⟩ hL d_EditedText_sharedWithSuffixBefore_81 (by omega) (by omega)
        · refine lv_iload X.1.1 X.1.2.1 d_EditedText_sharedWithSuffixBefore_39 (gl_at hl rfl) ?_
          refine lv_iload X.1.1 X.1.2.1 d_EditedText_sharedWithSuffixBefore_41 (gl_at hl rfl) ?_
          refine lv_iadd X.1.1 X.1.2.1 d_EditedText_sharedWithSuffixBefore_43 ?_
          refine g_top (nI ((sti (k - 1)) + i)) (nI_add _ _) ?_
          refine lv_aload_n X.1.1 X.1.2.1 d_EditedText_sharedWithSuffixBefore_44 rfl (gl_at hl rfl) ?_
          refine g_get X kc_EditedText ho 1 (by decide) lk_EditedText_29 rfl d_EditedText_sharedWithSuffixBefore_45 ?_
          refine gn_ge X.1.1 X.1.2.1 ((sti (k - 1)) + i) xs.length (by omega) (by omega) d_EditedText_sharedWithSuffixBefore_48 rfl (fun hc48 => ?_) (fun hc48 => ?_)
          · refine lv_iload X.1.1 X.1.2.1 d_EditedText_sharedWithSuffixBefore_79 (gl_at hl rfl) ?_
            exact g_iret X B ⟨Or.inr ⟨sti, hP, hc1, by rw [t_lcp_eq (xs.drop (sti k)) (xs.drop (sti (k - 1))) i (by rw [List.length_drop]; omega) (by rw [List.length_drop]; omega) (fun j hj => by rw [t_getD_drop, t_getD_drop]; exact hi28_2 j hj) (by rw [List.length_drop, List.length_drop, t_getD_drop, t_getD_drop]; first | exact Or.inl (by omega) | exact Or.inr (Or.inl (by omega)) | exact Or.inr (Or.inr hc70))]⟩, ⟨1, ht9⟩, hz2, fr2⟩ hL d_EditedText_sharedWithSuffixBefore_81 (by omega) (by omega)
          · refine lv_aload_n X.1.1 X.1.2.1 d_EditedText_sharedWithSuffixBefore_51 rfl (gl_at hl rfl) ?_
            refine g_get X kc_EditedText ho 0 (by decide) lk_EditedText_9 rfl d_EditedText_sharedWithSuffixBefore_52 ?_
            refine lv_iload_n X.1.1 X.1.2.1 d_EditedText_sharedWithSuffixBefore_55 rfl (gl_at hl rfl) ?_
            refine lv_iload X.1.1 X.1.2.1 d_EditedText_sharedWithSuffixBefore_56 (gl_at hl rfl) ?_
            refine lv_iadd X.1.1 X.1.2.1 d_EditedText_sharedWithSuffixBefore_58 ?_
            refine g_top (nI ((sti k) + i)) (nI_add _ _) ?_
            refine g_iald X 0 hlt rfl ((sti k) + i) (by omega) (by decide) d_EditedText_sharedWithSuffixBefore_59 ?_
            have e1 := t_lt hxc (sti k + i)
            refine g_top (nI (xs.getD (sti k + i) 0)) (hf _ (by omega)) ?_
            refine lv_aload_n X.1.1 X.1.2.1 d_EditedText_sharedWithSuffixBefore_60 rfl (gl_at hl rfl) ?_
            refine g_get X kc_EditedText ho 0 (by decide) lk_EditedText_9 rfl d_EditedText_sharedWithSuffixBefore_61 ?_
            refine lv_iload X.1.1 X.1.2.1 d_EditedText_sharedWithSuffixBefore_64 (gl_at hl rfl) ?_
            refine lv_iload X.1.1 X.1.2.1 d_EditedText_sharedWithSuffixBefore_66 (gl_at hl rfl) ?_
            refine lv_iadd X.1.1 X.1.2.1 d_EditedText_sharedWithSuffixBefore_68 ?_
            refine g_top (nI ((sti (k - 1)) + i)) (nI_add _ _) ?_
            refine g_iald X 0 hlt rfl ((sti (k - 1)) + i) (by omega) (by decide) d_EditedText_sharedWithSuffixBefore_69 ?_
            have e2 := t_lt hxc (sti (k - 1) + i)
            refine g_top (nI (xs.getD (sti (k - 1) + i) 0)) (hf _ (by omega)) ?_
            refine gn_ne X.1.1 X.1.2.1 (xs.getD (sti k + i) 0) (xs.getD (sti (k - 1) + i) 0) (by omega) (by omega) d_EditedText_sharedWithSuffixBefore_70 rfl (fun hc70 => ?_) (fun hc70 => ?_)
            · refine lv_iload X.1.1 X.1.2.1 d_EditedText_sharedWithSuffixBefore_79 (gl_at hl rfl) ?_
              exact g_iret X B ⟨Or.inr ⟨sti, hP, hc1, by rw [t_lcp_eq (xs.drop (sti k)) (xs.drop (sti (k - 1))) i (by rw [List.length_drop]; omega) (by rw [List.length_drop]; omega) (fun j hj => by rw [t_getD_drop, t_getD_drop]; exact hi28_2 j hj) (by rw [List.length_drop, List.length_drop, t_getD_drop, t_getD_drop]; first | exact Or.inl (by omega) | exact Or.inr (Or.inl (by omega)) | exact Or.inr (Or.inr hc70))]⟩, ⟨1, ht9⟩, hz2, fr2⟩ hL d_EditedText_sharedWithSuffixBefore_81 (by omega) (by omega)
            · refine g_iinc X.1.1 X.1.2.1 (nI (i + 1)) hl 5 d_EditedText_sharedWithSuffixBefore_73 rfl (nI_1 _) rfl (fun ls hl => ?_)
              refine lv_goto X.1.1 X.1.2.1 d_EditedText_sharedWithSuffixBefore_76 rfl ?_
              exact ih28 (i + 1) ls (by omega) (by omega) (by omega) (lt_s hi28_2 hc70) hl
    exact loop28 _ 0 ls (Nat.lt_succ_self _) (by omega) (by omega) (fun j hj => absurd hj (Nat.not_lt_zero j)) hl
  · refine lv_iconst (v := nI 0) X.1.1 X.1.2.1 d_EditedText_sharedWithSuffixBefore_4 (by decide) ?_
    exact g_iret X B ⟨Or.inl ⟨hc1, rfl⟩, ⟨so, ht⟩, rfl, fun _ _ => rfl⟩ (fun _ h => by cases h) d_EditedText_sharedWithSuffixBefore_5 (by omega) (by omega)

set_option maxHeartbeats 4000000 in
set_option maxRecDepth 100000 in
theorem c_EditedText_least (l : Launch) (D : va_G) (q : Nat → ClassId) (H : Heap) (tb : Nat) (xs : List Nat) (us : List (List Nat)) (so : Nat) (ht : txA D q H tb xs us so) (b : Nat) (ys : List Nat) (hys : kA D q H b ys) (hb1 : b + 1 < tb ∨ tb + 7 < b) : gC l y_EditedText_leastSuffixBeginning (Cond.code y_EditedText_leastSuffixBeginning b_EditedText_leastSuffixBeginning 4 (some .int) :: gWS) (gR 3 67 0 0) D CL (gY q) (fun _ => True) [.ref tb, .ref b] H (fun v H1 => (∃ sti w, sfP xs xs.length xs.length sti ∧ v = some (.int (gm1 w)) ∧ (match w with | none => ∀ j, j < xs.length → ¬ t_at xs ys (sti j) | some k => k < xs.length ∧ t_at xs ys (sti k) ∧ ∀ j, j < k → ¬ t_at xs ys (sti j))) ∧ (∃ s1, txA D q H1 tb xs us s1) ∧ H1.size = H.size ∧ ∀ p : Nat, ¬ (tb ≤ p ∧ p ≤ tb + 7) → H1[p]? = H[p]?) 0 0 (fun p => tb ≤ p ∧ p ≤ tb + 7) := by
  refine gC.ofW R_EditedText "leastSuffixBeginning" (by decide) rfl rfl ?_
  intro p e s m below meth c hadm X hE hH B hne
  refine g_entry [some (.ref tb), some (.ref b), none, none] rfl rfl (Nat.le_of_ble_eq_true rfl) (fun ls hl => ?_)
  have ht0 := ht
  obtain ⟨ho, ⟨f, hlt, hf⟩, ⟨hxl, hxc, hso⟩, hh, hsu, F, K, hF, hK, hsrt⟩ := ht
  have ht := ht0
  refine lv_aload_n X.1.1 X.1.2.1 d_EditedText_leastSuffixBeginning_0 rfl (gl_at hl rfl) ?_
  refine g_cv (A := (fun p => tb ≤ p ∧ p ≤ tb + 7)) X gWS_good mw_EditedText_61 kc_EditedText ho (c_EditedText_sortedSuffixes l D q H tb xs us so ht) (fun _ _ _ => trivial) gBlind.tt rfl rfl hl.1 (Nat.le_of_ble_eq_true rfl) rfl rfl ⟨by decide, by decide⟩ ⟨by decide, by decide⟩ d_EditedText_leastSuffixBeginning_1 (fun p h => h) (fun _ h => by cases h) (fun v1 H2 locs hp3 hL => ?_)
  obtain ⟨rfl, ht1, hz2, fr2⟩ := hp3
  have ht9 := ht1
  obtain ⟨ho, ⟨f, hlt, hf⟩, -, -, hsu, F, K, hF, hK, hsrt⟩ := ht1
  obtain ⟨sti, hP, hst⟩ := hsrt (by decide)
  replace hys := hys.kept (fr2 _ (by omega)) (fr2 _ (by omega))
  refine g_get X kc_SuffixOrder hsu 0 (by decide) lk_EditedText_65 rfl d_EditedText_leastSuffixBeginning_4 ?_
  refine g_astn X.1.1 X.1.2.1 hl 2 d_EditedText_leastSuffixBeginning_7 rfl (Nat.le_of_ble_eq_true rfl) rfl (fun ls hl => ?_)
  refine lv_iconst (v := nI 0) X.1.1 X.1.2.1 d_EditedText_leastSuffixBeginning_8 (by decide) ?_
  refine g_istn X.1.1 X.1.2.1 hl 3 d_EditedText_leastSuffixBeginning_9 rfl (Nat.le_of_ble_eq_true rfl) rfl (fun ls hl => ?_)
  have loop10 : ∀ (fu : Nat) (i : Nat) (locs : List Loc) (ls : Array Slot), xs.length - i < fu → (i ≤ xs.length) → (∀ j, j < i → ¬ t_at xs ys (sti j)) → (∀ x ∈ locs, (fun p => tb ≤ p ∧ p ≤ tb + 7) x.base) → gl ls [some (.ref tb), some (.ref b), some (.ref (tb + 6)), some (.int (nI i))] → W p l e (gR 3 67 0 0) s m ([.ref tb, .ref b] : List Value).toArray below meth c H2 locs 0 0 (gQ below ([.ref tb, .ref b] : List Value).toArray s (fun v H1 => (∃ sti w, sfP xs xs.length xs.length sti ∧ v = some (.int (gm1 w)) ∧ (match w with | none => ∀ j, j < xs.length → ¬ t_at xs ys (sti j) | some k => k < xs.length ∧ t_at xs ys (sti k) ∧ ∀ j, j < k → ¬ t_at xs ys (sti j))) ∧ (∃ s1, txA D q H1 tb xs us s1) ∧ H1.size = H.size ∧ ∀ p : Nat, ¬ (tb ≤ p ∧ p ≤ tb + 7) → H1[p]? = H[p]?) 0 0 (fun p => tb ≤ p ∧ p ≤ tb + 7)) (F0 m 10 ls []) := by
    intro fu
    induction fu with
    | zero => intro i locs ls hmu; omega
    | succ fu ih10 =>
      intro i locs ls hmu10 hi10_0 hi10_1 hL hl
      refine lv_iload_n X.1.1 X.1.2.1 d_EditedText_leastSuffixBeginning_10 rfl (gl_at hl rfl) ?_
      refine lv_aload_n X.1.1 X.1.2.1 d_EditedText_leastSuffixBeginning_11 rfl (gl_at hl rfl) ?_
      refine g_get X kc_EditedText ho 1 (by decide) lk_EditedText_29 rfl d_EditedText_leastSuffixBeginning_12 ?_
      refine gn_ge X.1.1 X.1.2.1 i xs.length (by omega) (by omega) d_EditedText_leastSuffixBeginning_15 rfl (fun hc15 => ?_) (fun hc15 => ?_)
      · refine lv_iconst (v := (-1)) X.1.1 X.1.2.1 d_EditedText_leastSuffixBeginning_37 (by decide) ?_
        exact g_iret X B ⟨⟨sti, none, hP, rfl, fun j hj => hi10_1 j (by omega)⟩, ⟨1, ht9⟩, hz2, fr2⟩ hL d_EditedText_leastSuffixBeginning_38 (by omega) (by omega)
      · have hs1 := hP.1 i (by omega)
        refine lv_aload_n X.1.1 X.1.2.1 d_EditedText_leastSuffixBeginning_18 rfl (gl_at hl rfl) ?_
        refine lv_aload_n X.1.1 X.1.2.1 d_EditedText_leastSuffixBeginning_19 rfl (gl_at hl rfl) ?_
        refine lv_iload_n X.1.1 X.1.2.1 d_EditedText_leastSuffixBeginning_20 rfl (gl_at hl rfl) ?_
        refine g_iald X 0 hF rfl i (by omega) (by decide) d_EditedText_leastSuffixBeginning_21 ?_
        refine g_top (nI (sti i)) (hst i (by omega)) ?_
        refine lv_aload_n X.1.1 X.1.2.1 d_EditedText_leastSuffixBeginning_22 rfl (gl_at hl rfl) ?_
        refine g_cv (A := (fun p => tb ≤ p ∧ p ≤ tb + 7)) X gWS_good mw_EditedText_68 kc_EditedText ho (c_EditedText_standsAt l D q H2 tb xs us 1 ht9 b ys hys (sti i) (by omega)) (fun _ _ _ => trivial) gBlind.tt rfl rfl hl.1 (Nat.le_of_ble_eq_true rfl) rfl rfl ⟨by decide, by decide⟩ ⟨by decide, by decide⟩ d_EditedText_leastSuffixBeginning_23 (fun _ h => h.elim) hL (fun v4 H5 locs hp6 hL => ?_)
        obtain ⟨rfl, hHe⟩ := hp6
        rw [hHe]
        refine lv_if_eq X.1.1 X.1.2.1 d_EditedText_leastSuffixBeginning_26 rfl (fun hc26 => ?_) (fun hc26 => ?_)
        · replace hc26 := gz_f hc26
          refine g_iinc X.1.1 X.1.2.1 (nI (i + 1)) hl 3 d_EditedText_leastSuffixBeginning_31 rfl (nI_1 _) rfl (fun ls hl => ?_)
          refine lv_goto X.1.1 X.1.2.1 d_EditedText_leastSuffixBeginning_34 rfl ?_
          exact ih10 (i + 1) locs ls (by omega) (by omega) (lt_s hi10_1 hc26) hL hl
        · replace hc26 := gz_t hc26
          refine lv_iload_n X.1.1 X.1.2.1 d_EditedText_leastSuffixBeginning_29 rfl (gl_at hl rfl) ?_
          exact g_iret X B ⟨⟨sti, some i, hP, rfl, by omega, hc26, hi10_1⟩, ⟨1, ht9⟩, hz2, fr2⟩ hL d_EditedText_leastSuffixBeginning_30 (by omega) (by omega)
  exact loop10 _ 0 locs ls (Nat.lt_succ_self _) (Nat.zero_le _) (fun j hj => absurd hj (Nat.not_lt_zero j)) hL hl

set_option maxHeartbeats 4000000 in
set_option maxRecDepth 100000 in
theorem c_EditedText_init (l : Launch) (D : va_G) (q : Nat → ClassId) (H : Heap) (tb : Nat) (hz : H.size = tb + 1) (ho : va_at D CL (tb, .inr (6, [.null, .int 0, .null, .null, .int 0])) H) : gC l y_EditedText_init (Cond.code y_EditedText_init b_EditedText_init 1 none :: gWS) (gR 2 32 7 2787) D CL (gY q) (fun _ => True) [.ref tb] H (fun v H1 => v = none ∧ txA D q H1 tb [] [] 0 ∧ H1.size = tb + 8 ∧ ∀ p : Nat, p < tb → H1[p]? = H[p]?) 7 2787 (fun p => tb ≤ p) := by
  refine gC.ofW R_EditedText "<init>" (by decide) rfl rfl ?_
  intro p e s m below meth c hadm X hE hH B hne
  refine g_entry [some (.ref tb)] rfl rfl (Nat.le_of_ble_eq_true rfl) (fun ls hl => ?_)
  refine lv_aload_n X.1.1 X.1.2.1 d_EditedText_init_0 rfl (gl_at hl rfl) ?_
  refine W.objInit X.1.1 X.1.2.1 X.1.2.2.2.1 (X.1.2.2.2.2 _ mo_EditedText_3.1) (X.1.2.2.2.2 _ mo_EditedText_3.2.1) (X.1.2.2.2.2 _ mo_EditedText_3.2.2) rfl (by rw [X.1.2.2.1]; exact hl.1) rfl d_EditedText_init_1 (Nat.le_of_ble_eq_true rfl) (Nat.le_of_ble_eq_true rfl) ?_
  refine W.eq (g2 := F0 m 4 ls []) rfl ?_
  refine lv_aload_n X.1.1 X.1.2.1 d_EditedText_init_4 rfl (gl_at hl rfl) ?_
  refine lv_bipush (v := nI 120) X.1.1 X.1.2.1 d_EditedText_init_5 (by decide) ?_
  refine g_newi X 0 rfl ka_int 120 (by decide) (Nat.le_of_ble_eq_true rfl) (Nat.le_of_ble_eq_true rfl) d_EditedText_init_7 (fun H1 h2 z3 o4 => ?_)
  rw [hz] at h2 z3 o4 ⊢
  replace ho := ho.kept (o4 _ (by omega))
  refine g_putF (A := (fun p => tb ≤ p)) X B.2.2 kc_EditedText ho 0 (by decide) lk_EditedText_9 rfl rfl rfl rfl (Nat.le_of_ble_eq_true rfl) d_EditedText_init_9 (show tb ≤ _ by omega) (fun _ h => by cases h) (fun H5 locs h6 z7 oq8 hL => ?_)
  replace h2 := h2.kept (oq8 _ (by omega))
  have hz9 := z7.trans z3
  refine lv_aload_n X.1.1 X.1.2.1 d_EditedText_init_12 rfl (gl_at hl rfl) ?_
  refine g_new X kc_History lk_EditedText_15 ki_History.1 ki_History.2 (fs := [.null, .null, .int 0, .int 0]) kf_History (Nat.le_of_ble_eq_true rfl) (Nat.le_of_ble_eq_true rfl) d_EditedText_init_13 (fun H10 h11 z12 o13 => ?_)
  rw [hz9] at h11 z12 o13 ⊢
  replace h6 := h6.kept (o13 _ (by omega))
  replace h2 := h2.kept (o13 _ (by omega))
  refine lv_dup X.1.1 X.1.2.1 d_EditedText_init_16 rfl ?_
  refine g_ci (A := (fun p => tb ≤ p)) X gWS_good mw_EditedText_17 (c_History_init l D q H10 (tb + 1 + 1) (by omega) h11) (fun _ _ _ => trivial) gBlind.tt rfl rfl hl.1 (Nat.le_of_ble_eq_true rfl) rfl rfl ⟨by decide, by decide⟩ ⟨Nat.le_of_ble_eq_true rfl, Nat.le_of_ble_eq_true rfl⟩ d_EditedText_init_17 (fun p (h : _ ≤ p) => show tb ≤ p by omega) hL (fun v14 H15 locs hp16 hL => ?_)
  obtain ⟨rfl, hh, hzh, frh⟩ := hp16
  replace h6 := va_at.kept h6 (frh _ (by omega))
  replace h2 := va_at.kept h2 (frh _ (by omega))
  have hzh2 : H15.size = tb + 5 := by omega
  refine g_putF (A := (fun p => tb ≤ p)) X B.2.2 kc_EditedText h6 2 (by decide) lk_EditedText_18 rfl rfl rfl rfl (Nat.le_of_ble_eq_true rfl) d_EditedText_init_20 (show tb ≤ _ by omega) hL (fun H17 locs h18 z19 oq20 hL => ?_)
  replace h2 := h2.kept (oq20 _ (by omega))
  replace hh := hh.kept (fun p h1 h2 => oq20 p (by omega))
  have hz21 := z19.trans hzh2
  refine lv_aload_n X.1.1 X.1.2.1 d_EditedText_init_23 rfl (gl_at hl rfl) ?_
  refine g_new X kc_SuffixOrder lk_EditedText_22 ki_SuffixOrder.1 ki_SuffixOrder.2 (fs := [.null, .null]) kf_SuffixOrder (Nat.le_of_ble_eq_true rfl) (Nat.le_of_ble_eq_true rfl) d_EditedText_init_24 (fun H22 h23 z24 o25 => ?_)
  rw [hz21] at h23 z24 o25 ⊢
  replace h18 := h18.kept (o25 _ (by omega))
  replace h2 := h2.kept (o25 _ (by omega))
  replace hh := hh.kept (fun p h1 h2 => o25 p (by omega))
  refine lv_dup X.1.1 X.1.2.1 d_EditedText_init_27 rfl ?_
  refine g_ci (A := (fun p => tb ≤ p)) X gWS_good mw_EditedText_24 (c_SuffixOrder_init l D q H22 (tb + 5) (by omega) h23) (fun _ _ _ => trivial) gBlind.tt rfl rfl hl.1 (Nat.le_of_ble_eq_true rfl) rfl rfl ⟨by decide, by decide⟩ ⟨Nat.le_of_ble_eq_true rfl, Nat.le_of_ble_eq_true rfl⟩ d_EditedText_init_28 (fun p (h : _ ≤ p) => show tb ≤ p by omega) hL (fun v26 H27 locs hp28 hL => ?_)
  obtain ⟨rfl, hsu, ⟨F, hF⟩, ⟨K, hK⟩, hzs, frs⟩ := hp28
  replace h18 := va_at.kept h18 (frs _ (by omega))
  replace h2 := va_at.kept h2 (frs _ (by omega))
  replace hh := hh.kept (fun p h1 h2 => frs p (by omega))
  refine g_putF (A := (fun p => tb ≤ p)) X B.2.2 kc_EditedText h18 3 (by decide) lk_EditedText_25 rfl rfl rfl rfl (Nat.le_of_ble_eq_true rfl) d_EditedText_init_31 (show tb ≤ _ by omega) hL (fun H29 locs h30 z31 oq32 hL => ?_)
  replace h2 := h2.kept (oq32 _ (by omega))
  replace hsu := hsu.kept (oq32 _ (by omega))
  replace hF := hF.kept (oq32 _ (by omega))
  replace hK := hK.kept (oq32 _ (by omega))
  replace hh := hh.kept (fun p h1 h2 => oq32 p (by omega))
  have hz33 := z31.trans hzs
  exact g_vret X B ⟨rfl, ⟨h30, ⟨_, h2, fun j hj => absurd hj (Nat.not_lt_zero j)⟩, ⟨by simp, by simp, by omega⟩, hh, hsu, F, K, hF, hK, fun h => absurd rfl h⟩, by omega, fun p hp => ((oq32 p (by omega)).trans ((frs p (by omega)).trans ((o25 p (by omega)).trans ((oq20 p (by omega)).trans ((frh p (by omega)).trans ((o13 p (by omega)).trans ((oq8 p (by omega)).trans (o4 p (by omega)))))))))⟩ hL d_EditedText_init_34 (by omega) (by omega)
end
section
/-! edges: pure -/
theorem ex_sh : ∀ n, n < 32 → ((nI n &&& 31).toBitVec.smod 32).toNat = n := by decide +kernel
theorem ex_shr {a s : Nat} (ha : a < 2 ^ 31) (hs : s < 32) : nI a >>> (nI s &&& 31) = nI (a / 2 ^ s) := pk_shrN ha _ s (ex_sh s hs)
theorem ex_xor (a b : Nat) : nI a ^^^ nI b = nI (a ^^^ b) := by
  apply Int32.toBitVec_inj.1
  show BitVec.ofNat 32 a ^^^ BitVec.ofNat 32 b = BitVec.ofNat 32 (a ^^^ b)
  apply BitVec.eq_of_getLsbD_eq
  intro i hi
  simp [hi]
/-- how many bytes two texts have in common -/
def e_sb (xs ys : List Nat) : Nat := if t_lcp xs ys = xs.length ∨ t_lcp xs ys = ys.length then 2 * t_lcp xs ys else 2 * t_lcp xs ys + if xs.getD (t_lcp xs ys) 0 / 256 = ys.getD (t_lcp xs ys) 0 / 256 then 1 else 0
theorem e_sb_le {xs ys : List Nat} (h : xs.length ≤ 8) : e_sb xs ys ≤ 17 := by
  have h1 := t_lcp_le1 xs ys
  unfold e_sb
  split
  · omega
  · split <;> omega
/-- no pair ahead has the same text in common -/
def e_new (sb : Nat → Nat) (i : Nat) : Prop := ¬ ∃ j, j < i ∧ sb j = sb i ∧ ∀ t, j < t → t < i → sb i ≤ sb t
noncomputable def e_newd (sb : Nat → Nat) (i : Nat) : Decidable (e_new sb i) := Classical.propDecidable _
theorem e_new_t {sb : Nat → Nat} {i k : Nat} (hk : k ≤ i) (h : ∀ t, k ≤ t → t < i → sb i < sb t) (h2 : 0 < k → sb (k - 1) < sb i) : e_new sb i := by
  rintro ⟨j, h3, h4, h5⟩
  by_cases h6 : k ≤ j
  · have := h j h6 h3
    omega
  · have h7 := h2 (by omega)
    by_cases h8 : j = k - 1
    · rw [h8] at h4
      omega
    · have := h5 (k - 1) (by omega) (by omega)
      omega
theorem e_new_f {sb : Nat → Nat} {i k : Nat} (hk : k ≤ i) (h0 : 0 < k) (h : ∀ t, k ≤ t → t < i → sb i < sb t) (h2 : sb (k - 1) = sb i) : ¬ e_new sb i := by
  intro h3
  refine h3 ⟨k - 1, by omega, h2, fun t h4 h5 => ?_⟩
  have := h t (by omega) h5
  omega
def e_fc (sb : Nat → Nat) (len pairs : Nat) : Nat → Nat → Nat
  | 0, _ => 0
  | f + 1, t => if t < pairs ∧ len ≤ sb t then (if sb t = len then 1 else 0) + e_fc sb len pairs f (t + 1) else 0
theorem e_fc_le (sb : Nat → Nat) (len pairs : Nat) : ∀ f t, e_fc sb len pairs f t ≤ f
  | 0, _ => Nat.le_refl 0
  | f + 1, t => by
    have h := e_fc_le sb len pairs f (t + 1)
    unfold e_fc
    split
    · split <;> omega
    · omega
/-- the fan of what pair i has in common, of pairs in all; the first key of the pair has length k -/
def e_fan (sb : Nat → Nat) (pairs i k : Nat) : Nat := (if 2 * k = sb i then 0 else 1) + e_fc sb (sb i) pairs (pairs - i) i
theorem e_fan_le {sb : Nat → Nat} {pairs i k : Nat} : e_fan sb pairs i k ≤ pairs + 1 := by
  have := e_fc_le sb (sb i) pairs (pairs - i) i
  unfold e_fan
  split <;> omega
/-- the highest bit that is set, from bit s on down -/
def e_hb (x : Nat) : Nat → Nat
  | 0 => 0
  | s + 1 => if x / 2 ^ (s + 1) = 0 then e_hb x s else s + 1
theorem e_hb_le (x : Nat) : ∀ s, e_hb x s ≤ s
  | 0 => Nat.le_refl 0
  | s + 1 => by
    have := e_hb_le x s
    unfold e_hb
    split <;> omega
/-- the first place where two different texts differ, bit by bit -/
def e_fdb (xs ys : List Nat) : Nat := if t_lcp xs ys = xs.length ∨ t_lcp xs ys = ys.length then t_lcp xs ys * 17 else t_lcp xs ys * 17 + 16 - e_hb (xs.getD (t_lcp xs ys) 0 ^^^ ys.getD (t_lcp xs ys) 0) 15
theorem t_lcp_full {xs ys : List Nat} (h1 : t_lcp xs ys = xs.length) (h2 : xs.length = ys.length) : xs = ys := t_ord_eq xs ys (by rw [t_ord_end xs ys (Or.inl h1), h2]; omega)
theorem t_lcp_lt8 {xs ys : List Nat} (hx : xs.length ≤ 8) (hy : ys.length ≤ 8) (hne : xs ≠ ys) : t_lcp xs ys < 8 := by
  have h1 := t_lcp_le1 xs ys
  have h2 := t_lcp_le2 xs ys
  rcases Nat.lt_or_ge (t_lcp xs ys) 8 with h | h
  · exact h
  · exact absurd (t_lcp_full (by omega) (by omega)) hne
theorem e_fdb_lt {xs ys : List Nat} (hx : xs.length ≤ 8) (hy : ys.length ≤ 8) (hne : xs ≠ ys) : e_fdb xs ys < 136 := by
  have h1 := t_lcp_lt8 hx hy hne
  unfold e_fdb
  split <;> omega
def e_has (fd : Nat → Nat) (pl : Nat) : Nat → Nat → Bool
  | 0, _ => false
  | i + 1, b => e_has fd pl i b || (decide (i ≠ pl) && decide (fd i = b))
def e_dep (fd : Nat → Nat) (pl : Nat) : Nat → Nat
  | 0 => 0
  | i + 1 => e_dep fd pl i + if i = pl ∨ e_has fd pl i (fd i) = true then 0 else 1
theorem e_dep_le (fd : Nat → Nat) (pl : Nat) : ∀ n, e_dep fd pl n ≤ n
  | 0 => Nat.le_refl 0
  | n + 1 => by
    have := e_dep_le fd pl n
    unfold e_dep
    split <;> omega
theorem e_has_pl {fd : Nat → Nat} {pl i b : Nat} (h : i = pl) : e_has fd pl (i + 1) b = e_has fd pl i b := by
  rw [e_has]
  simp [h]
theorem e_has_s {fd : Nat → Nat} {pl i b : Nat} (h : i ≠ pl) : e_has fd pl (i + 1) b = (e_has fd pl i b || decide (fd i = b)) := by
  rw [e_has]
  simp [h]
end
section
/-! the class Edges: printed by wip/specs/edges.py -/
set_option maxHeartbeats 4000000 in
set_option maxRecDepth 100000 in
theorem c_Edges_countSharedBytes (l : Launch) (D : va_G) (q : Nat → ClassId) (H : Heap) (eb : Nat) (a b : Nat) (xs ys : List Nat) (hxs : kA D q H a xs) (hys : kA D q H b ys) : gC l y_Edges_countSharedBytes (Cond.code y_Edges_countSharedBytes b_Edges_countSharedBytes 5 (some .int) :: gWS) (gR 1 22 0 0) D CL (gY q) (fun _ => True) [.ref eb, .ref a, .ref b] H (fun v H1 => v = some (.int (nI (e_sb xs ys))) ∧ H1 = H) 0 0 (fun _ => False) := by
  refine gC.ofW R_Edges "countSharedBytes" (by decide) rfl rfl ?_
  intro p e s m below meth c hadm X hE hH B hne
  refine g_entry [some (.ref eb), some (.ref a), some (.ref b), none, none] rfl rfl (Nat.le_of_ble_eq_true rfl) (fun ls hl => ?_)
  have hxs0 := hxs
  have hys0 := hys
  obtain ⟨ha, ⟨fa, hla, hfa⟩, hxl, hxc⟩ := hxs
  obtain ⟨hb, ⟨fb, hlb, hfb⟩, hyl, hyc⟩ := hys
  have i1 := t_lcp_le1 xs ys
  have i2 := t_lcp_le2 xs ys
  have e1 := t_lt hxc (t_lcp xs ys)
  have e2 := t_lt hyc (t_lcp xs ys)
  refine lv_aload_n X.1.1 X.1.2.1 d_Edges_countSharedBytes_0 rfl (gl_at hl rfl) ?_
  refine lv_aload_n X.1.1 X.1.2.1 d_Edges_countSharedBytes_1 rfl (gl_at hl rfl) ?_
  refine g_cv (A := (fun _ => False)) X gWS_good mw_Edges_41 kc_Key ha (c_Key_shared l D q H a b xs ys hxs0 hys0) (fun _ _ _ => trivial) gBlind.tt rfl rfl hl.1 (Nat.le_of_ble_eq_true rfl) rfl rfl ⟨by decide, by decide⟩ ⟨by decide, by decide⟩ d_Edges_countSharedBytes_2 (fun _ h => h.elim) (fun _ h => by cases h) (fun v1 H2 locs hp3 hL => ?_)
  obtain ⟨rfl, hHe⟩ := hp3
  rw [hHe]
  refine g_istn X.1.1 X.1.2.1 hl 3 d_Edges_countSharedBytes_5 rfl (Nat.le_of_ble_eq_true rfl) rfl (fun ls hl => ?_)
  refine lv_iload_n X.1.1 X.1.2.1 d_Edges_countSharedBytes_6 rfl (gl_at hl rfl) ?_
  refine lv_aload_n X.1.1 X.1.2.1 d_Edges_countSharedBytes_7 rfl (gl_at hl rfl) ?_
  refine g_get X kc_Key ha 1 (by decide) lk_Edges_47 rfl d_Edges_countSharedBytes_8 ?_
  refine gn_eq X.1.1 X.1.2.1 (t_lcp xs ys) xs.length (by omega) (by omega) d_Edges_countSharedBytes_11 rfl (fun hc11 => ?_) (fun hc11 => ?_)
  · refine lv_iconst (v := nI 2) X.1.1 X.1.2.1 d_Edges_countSharedBytes_22 (by decide) ?_
    refine lv_iload_n X.1.1 X.1.2.1 d_Edges_countSharedBytes_23 rfl (gl_at hl rfl) ?_
    refine lv_imul X.1.1 X.1.2.1 d_Edges_countSharedBytes_24 ?_
    refine g_top (nI (2 * (t_lcp xs ys))) (pk_mul _ _) ?_
    exact g_iret X B ⟨by unfold e_sb; rw [if_pos (by omega)], rfl⟩ hL d_Edges_countSharedBytes_25 (by omega) (by omega)
  · refine lv_iload_n X.1.1 X.1.2.1 d_Edges_countSharedBytes_14 rfl (gl_at hl rfl) ?_
    refine lv_aload_n X.1.1 X.1.2.1 d_Edges_countSharedBytes_15 rfl (gl_at hl rfl) ?_
    refine g_get X kc_Key hb 1 (by decide) lk_Edges_47 rfl d_Edges_countSharedBytes_16 ?_
    refine gn_ne X.1.1 X.1.2.1 (t_lcp xs ys) ys.length (by omega) (by omega) d_Edges_countSharedBytes_19 rfl (fun hc19 => ?_) (fun hc19 => ?_)
    · refine lv_aload_n X.1.1 X.1.2.1 d_Edges_countSharedBytes_26 rfl (gl_at hl rfl) ?_
      refine g_get X kc_Key ha 0 (by decide) lk_Edges_50 rfl d_Edges_countSharedBytes_27 ?_
      refine lv_iload_n X.1.1 X.1.2.1 d_Edges_countSharedBytes_30 rfl (gl_at hl rfl) ?_
      refine g_iald X 0 hla rfl (t_lcp xs ys) (by omega) (by decide) d_Edges_countSharedBytes_31 ?_
      refine g_top (nI (xs.getD (t_lcp xs ys) 0)) (hfa _ (by omega)) ?_
      refine lv_bipush (v := nI 8) X.1.1 X.1.2.1 d_Edges_countSharedBytes_32 (by decide) ?_
      refine lv_ishr X.1.1 X.1.2.1 d_Edges_countSharedBytes_34 ?_
      refine g_top (nI ((xs.getD (t_lcp xs ys) 0) / 2 ^ 8)) (ex_shr (by omega) (by decide)) ?_
      refine lv_aload_n X.1.1 X.1.2.1 d_Edges_countSharedBytes_35 rfl (gl_at hl rfl) ?_
      refine g_get X kc_Key hb 0 (by decide) lk_Edges_50 rfl d_Edges_countSharedBytes_36 ?_
      refine lv_iload_n X.1.1 X.1.2.1 d_Edges_countSharedBytes_39 rfl (gl_at hl rfl) ?_
      refine g_iald X 0 hlb rfl (t_lcp xs ys) (by omega) (by decide) d_Edges_countSharedBytes_40 ?_
      refine g_top (nI (ys.getD (t_lcp xs ys) 0)) (hfb _ (by omega)) ?_
      refine lv_bipush (v := nI 8) X.1.1 X.1.2.1 d_Edges_countSharedBytes_41 (by decide) ?_
      refine lv_ishr X.1.1 X.1.2.1 d_Edges_countSharedBytes_43 ?_
      refine g_top (nI ((ys.getD (t_lcp xs ys) 0) / 2 ^ 8)) (ex_shr (by omega) (by decide)) ?_
      refine gn_ne X.1.1 X.1.2.1 ((xs.getD (t_lcp xs ys) 0) / 2 ^ 8) ((ys.getD (t_lcp xs ys) 0) / 2 ^ 8) (by omega) (by omega) d_Edges_countSharedBytes_44 rfl (fun hc44 => ?_) (fun hc44 => ?_)
      · refine lv_iconst (v := nI 0) X.1.1 X.1.2.1 d_Edges_countSharedBytes_51 (by decide) ?_
        refine g_ist X.1.1 X.1.2.1 hl 4 d_Edges_countSharedBytes_52 (Nat.le_of_ble_eq_true rfl) rfl (fun ls hl => ?_)
        refine lv_iconst (v := nI 2) X.1.1 X.1.2.1 d_Edges_countSharedBytes_54 (by decide) ?_
        refine lv_iload_n X.1.1 X.1.2.1 d_Edges_countSharedBytes_55 rfl (gl_at hl rfl) ?_
        refine lv_imul X.1.1 X.1.2.1 d_Edges_countSharedBytes_56 ?_
        refine g_top (nI (2 * (t_lcp xs ys))) (pk_mul _ _) ?_
        refine lv_iload X.1.1 X.1.2.1 d_Edges_countSharedBytes_57 (gl_at hl rfl) ?_
        refine gn_eq0 X.1.1 X.1.2.1 0 (by omega) d_Edges_countSharedBytes_59 rfl (fun hc59 => ?_) (fun hc59 => ?_)
        · refine lv_iconst (v := nI 0) X.1.1 X.1.2.1 d_Edges_countSharedBytes_66 (by decide) ?_
          refine lv_iadd X.1.1 X.1.2.1 d_Edges_countSharedBytes_67 ?_
          refine g_top (nI ((2 * (t_lcp xs ys)) + 0)) (nI_add _ _) ?_
          exact g_iret X B ⟨by unfold e_sb; rw [if_neg (by omega)]; first | rw [if_pos (show _ / 256 = _ / 256 from hc44)] | rw [if_neg (show ¬ _ / 256 = _ / 256 from hc44)], rfl⟩ hL d_Edges_countSharedBytes_68 (by omega) (by omega)
        · omega
      · refine lv_iconst (v := nI 1) X.1.1 X.1.2.1 d_Edges_countSharedBytes_47 (by decide) ?_
        refine lv_goto X.1.1 X.1.2.1 d_Edges_countSharedBytes_48 rfl ?_
        refine g_ist X.1.1 X.1.2.1 hl 4 d_Edges_countSharedBytes_52 (Nat.le_of_ble_eq_true rfl) rfl (fun ls hl => ?_)
        refine lv_iconst (v := nI 2) X.1.1 X.1.2.1 d_Edges_countSharedBytes_54 (by decide) ?_
        refine lv_iload_n X.1.1 X.1.2.1 d_Edges_countSharedBytes_55 rfl (gl_at hl rfl) ?_
        refine lv_imul X.1.1 X.1.2.1 d_Edges_countSharedBytes_56 ?_
        refine g_top (nI (2 * (t_lcp xs ys))) (pk_mul _ _) ?_
        refine lv_iload X.1.1 X.1.2.1 d_Edges_countSharedBytes_57 (gl_at hl rfl) ?_
        refine gn_eq0 X.1.1 X.1.2.1 1 (by omega) d_Edges_countSharedBytes_59 rfl (fun hc59 => ?_) (fun hc59 => ?_)
        · omega
        · refine lv_iconst (v := nI 1) X.1.1 X.1.2.1 d_Edges_countSharedBytes_62 (by decide) ?_
          refine lv_goto X.1.1 X.1.2.1 d_Edges_countSharedBytes_63 rfl ?_
          refine lv_iadd X.1.1 X.1.2.1 d_Edges_countSharedBytes_67 ?_
          refine g_top (nI ((2 * (t_lcp xs ys)) + 1)) (nI_add _ _) ?_
          exact g_iret X B ⟨by unfold e_sb; rw [if_neg (by omega)]; first | rw [if_pos (show _ / 256 = _ / 256 from hc44)] | rw [if_neg (show ¬ _ / 256 = _ / 256 from hc44)], rfl⟩ hL d_Edges_countSharedBytes_68 (by omega) (by omega)
    · refine lv_iconst (v := nI 2) X.1.1 X.1.2.1 d_Edges_countSharedBytes_22 (by decide) ?_
      refine lv_iload_n X.1.1 X.1.2.1 d_Edges_countSharedBytes_23 rfl (gl_at hl rfl) ?_
      refine lv_imul X.1.1 X.1.2.1 d_Edges_countSharedBytes_24 ?_
      refine g_top (nI (2 * (t_lcp xs ys))) (pk_mul _ _) ?_
      exact g_iret X B ⟨by unfold e_sb; rw [if_pos (by omega)], rfl⟩ hL d_Edges_countSharedBytes_25 (by omega) (by omega)

set_option maxHeartbeats 4000000 in
set_option maxRecDepth 100000 in
theorem c_Edges_firstDifferentBit (l : Launch) (D : va_G) (q : Nat → ClassId) (H : Heap) (eb : Nat) (a b : Nat) (xs ys : List Nat) (hxs : kA D q H a xs) (hys : kA D q H b ys) : gC l y_Edges_firstDifferentBit (Cond.code y_Edges_firstDifferentBit b_Edges_firstDifferentBit 7 (some .int) :: gWS) (gR 1 22 0 0) D CL (gY q) (fun _ => True) [.ref eb, .ref a, .ref b] H (fun v H1 => v = some (.int (nI (e_fdb xs ys))) ∧ H1 = H) 0 0 (fun _ => False) := by
  refine gC.ofW R_Edges "firstDifferentBit" (by decide) rfl rfl ?_
  intro p e s m below meth c hadm X hE hH B hne
  refine g_entry [some (.ref eb), some (.ref a), some (.ref b), none, none, none, none] rfl rfl (Nat.le_of_ble_eq_true rfl) (fun ls hl => ?_)
  have hxs0 := hxs
  have hys0 := hys
  obtain ⟨ha, ⟨fa, hla, hfa⟩, hxl, hxc⟩ := hxs
  obtain ⟨hb, ⟨fb, hlb, hfb⟩, hyl, hyc⟩ := hys
  have i1 := t_lcp_le1 xs ys
  have i2 := t_lcp_le2 xs ys
  have e1 := t_lt hxc (t_lcp xs ys)
  have e2 := t_lt hyc (t_lcp xs ys)
  refine lv_aload_n X.1.1 X.1.2.1 d_Edges_firstDifferentBit_0 rfl (gl_at hl rfl) ?_
  refine lv_aload_n X.1.1 X.1.2.1 d_Edges_firstDifferentBit_1 rfl (gl_at hl rfl) ?_
  refine g_cv (A := (fun _ => False)) X gWS_good mw_Edges_41 kc_Key ha (c_Key_shared l D q H a b xs ys hxs0 hys0) (fun _ _ _ => trivial) gBlind.tt rfl rfl hl.1 (Nat.le_of_ble_eq_true rfl) rfl rfl ⟨by decide, by decide⟩ ⟨by decide, by decide⟩ d_Edges_firstDifferentBit_2 (fun _ h => h.elim) (fun _ h => by cases h) (fun v1 H2 locs hp3 hL => ?_)
  obtain ⟨rfl, hHe⟩ := hp3
  rw [hHe]
  refine g_istn X.1.1 X.1.2.1 hl 3 d_Edges_firstDifferentBit_5 rfl (Nat.le_of_ble_eq_true rfl) rfl (fun ls hl => ?_)
  refine lv_iload_n X.1.1 X.1.2.1 d_Edges_firstDifferentBit_6 rfl (gl_at hl rfl) ?_
  refine lv_bipush (v := nI 17) X.1.1 X.1.2.1 d_Edges_firstDifferentBit_7 (by decide) ?_
  refine lv_imul X.1.1 X.1.2.1 d_Edges_firstDifferentBit_9 ?_
  refine g_top (nI ((t_lcp xs ys) * 17)) (pk_mul _ _) ?_
  refine g_ist X.1.1 X.1.2.1 hl 4 d_Edges_firstDifferentBit_10 (Nat.le_of_ble_eq_true rfl) rfl (fun ls hl => ?_)
  refine lv_iload_n X.1.1 X.1.2.1 d_Edges_firstDifferentBit_12 rfl (gl_at hl rfl) ?_
  refine lv_aload_n X.1.1 X.1.2.1 d_Edges_firstDifferentBit_13 rfl (gl_at hl rfl) ?_
  refine g_get X kc_Key ha 1 (by decide) lk_Edges_47 rfl d_Edges_firstDifferentBit_14 ?_
  refine gn_eq X.1.1 X.1.2.1 (t_lcp xs ys) xs.length (by omega) (by omega) d_Edges_firstDifferentBit_17 rfl (fun hc17 => ?_) (fun hc17 => ?_)
  · refine lv_iload X.1.1 X.1.2.1 d_Edges_firstDifferentBit_28 (gl_at hl rfl) ?_
    exact g_iret X B ⟨by unfold e_fdb; rw [if_pos (by omega)], rfl⟩ hL d_Edges_firstDifferentBit_30 (by omega) (by omega)
  · refine lv_iload_n X.1.1 X.1.2.1 d_Edges_firstDifferentBit_20 rfl (gl_at hl rfl) ?_
    refine lv_aload_n X.1.1 X.1.2.1 d_Edges_firstDifferentBit_21 rfl (gl_at hl rfl) ?_
    refine g_get X kc_Key hb 1 (by decide) lk_Edges_47 rfl d_Edges_firstDifferentBit_22 ?_
    refine gn_ne X.1.1 X.1.2.1 (t_lcp xs ys) ys.length (by omega) (by omega) d_Edges_firstDifferentBit_25 rfl (fun hc25 => ?_) (fun hc25 => ?_)
    · refine lv_aload_n X.1.1 X.1.2.1 d_Edges_firstDifferentBit_31 rfl (gl_at hl rfl) ?_
      refine g_get X kc_Key ha 0 (by decide) lk_Edges_50 rfl d_Edges_firstDifferentBit_32 ?_
      refine lv_iload_n X.1.1 X.1.2.1 d_Edges_firstDifferentBit_35 rfl (gl_at hl rfl) ?_
      refine g_iald X 0 hla rfl (t_lcp xs ys) (by omega) (by decide) d_Edges_firstDifferentBit_36 ?_
      refine g_top (nI (xs.getD (t_lcp xs ys) 0)) (hfa _ (by omega)) ?_
      refine lv_aload_n X.1.1 X.1.2.1 d_Edges_firstDifferentBit_37 rfl (gl_at hl rfl) ?_
      refine g_get X kc_Key hb 0 (by decide) lk_Edges_50 rfl d_Edges_firstDifferentBit_38 ?_
      refine lv_iload_n X.1.1 X.1.2.1 d_Edges_firstDifferentBit_41 rfl (gl_at hl rfl) ?_
      refine g_iald X 0 hlb rfl (t_lcp xs ys) (by omega) (by decide) d_Edges_firstDifferentBit_42 ?_
      refine g_top (nI (ys.getD (t_lcp xs ys) 0)) (hfb _ (by omega)) ?_
      refine lv_ixor X.1.1 X.1.2.1 d_Edges_firstDifferentBit_43 ?_
      obtain ⟨xo, hxo⟩ : ∃ z, z = xs.getD (t_lcp xs ys) 0 ^^^ ys.getD (t_lcp xs ys) 0 := ⟨_, rfl⟩
      have hxo2 : xo < 2 ^ 16 := by rw [hxo]; exact Nat.xor_lt_two_pow (by omega) (by omega)
      refine g_top (nI xo) (by rw [hxo]; exact ex_xor _ _) ?_
      refine g_ist X.1.1 X.1.2.1 hl 5 d_Edges_firstDifferentBit_44 (Nat.le_of_ble_eq_true rfl) rfl (fun ls hl => ?_)
      refine lv_bipush (v := nI 15) X.1.1 X.1.2.1 d_Edges_firstDifferentBit_46 (by decide) ?_
      refine g_ist X.1.1 X.1.2.1 hl 6 d_Edges_firstDifferentBit_48 (Nat.le_of_ble_eq_true rfl) rfl (fun ls hl => ?_)
      have loop50 : ∀ (fu : Nat) (i : Nat) (ls : Array Slot), i < fu → (i ≤ 15) → (e_hb xo 15 = e_hb xo i) →  gl ls [some (.ref eb), some (.ref a), some (.ref b), some (.int (nI (t_lcp xs ys))), some (.int (nI ((t_lcp xs ys) * 17))), some (.int (nI xo)), some (.int (nI i))] → W p l e (gR 1 22 0 0) s m ([.ref eb, .ref a, .ref b] : List Value).toArray below meth c H locs 0 0 (gQ below ([.ref eb, .ref a, .ref b] : List Value).toArray s (fun v H1 => v = some (.int (nI (e_fdb xs ys))) ∧ H1 = H) 0 0 (fun _ => False)) (F0 m 50 ls []) := by
        intro fu
        induction fu with
        | zero => intro i ls hmu; omega
        | succ fu ih50 =>
          intro i ls hmu50 hi50_0 hi50_1 hl
          refine lv_iload X.1.1 X.1.2.1 d_Edges_firstDifferentBit_50 (gl_at hl rfl) ?_
          refine gn_le0 X.1.1 X.1.2.1 i (by omega) d_Edges_firstDifferentBit_52 rfl (fun hc52 => ?_) (fun hc52 => ?_)
          · refine lv_iload X.1.1 X.1.2.1 d_Edges_firstDifferentBit_69 (gl_at hl rfl) ?_
            refine lv_bipush (v := nI 16) X.1.1 X.1.2.1 d_Edges_firstDifferentBit_71 (by decide) ?_
            refine lv_iadd X.1.1 X.1.2.1 d_Edges_firstDifferentBit_73 ?_
            refine g_top (nI (((t_lcp xs ys) * 17) + 16)) (nI_add _ _) ?_
            refine lv_iload X.1.1 X.1.2.1 d_Edges_firstDifferentBit_74 (gl_at hl rfl) ?_
            refine lv_isub X.1.1 X.1.2.1 d_Edges_firstDifferentBit_76 ?_
            refine g_top (nI ((((t_lcp xs ys) * 17) + 16) - i)) (pk_sub (by omega)) ?_
            exact g_iret X B ⟨by unfold e_fdb; rw [if_neg (by omega), ← hxo, hi50_1]; first | (rw [hc52]; rfl) | (obtain ⟨i, rfl⟩ : ∃ z, i = z + 1 := ⟨i - 1, by omega⟩; rw [e_hb, if_neg hc60]), rfl⟩ hL d_Edges_firstDifferentBit_77 (by omega) (by omega)
          · refine lv_iload X.1.1 X.1.2.1 d_Edges_firstDifferentBit_55 (gl_at hl rfl) ?_
            refine lv_iload X.1.1 X.1.2.1 d_Edges_firstDifferentBit_57 (gl_at hl rfl) ?_
            refine lv_ishr X.1.1 X.1.2.1 d_Edges_firstDifferentBit_59 ?_
            refine g_top (nI (xo / 2 ^ i)) (ex_shr (by omega) (by omega)) ?_
            have hdv : xo / 2 ^ i ≤ xo := Nat.div_le_self _ _
            refine gn_ne0 X.1.1 X.1.2.1 (xo / 2 ^ i) (by omega) d_Edges_firstDifferentBit_60 rfl (fun hc60 => ?_) (fun hc60 => ?_)
            · refine lv_iload X.1.1 X.1.2.1 d_Edges_firstDifferentBit_69 (gl_at hl rfl) ?_
              refine lv_bipush (v := nI 16) X.1.1 X.1.2.1 d_Edges_firstDifferentBit_71 (by decide) ?_
              refine lv_iadd X.1.1 X.1.2.1 d_Edges_firstDifferentBit_73 ?_
              refine g_top (nI (((t_lcp xs ys) * 17) + 16)) (nI_add _ _) ?_
              refine lv_iload X.1.1 X.1.2.1 d_Edges_firstDifferentBit_74 (gl_at hl rfl) ?_
              refine lv_isub X.1.1 X.1.2.1 d_Edges_firstDifferentBit_76 ?_
              refine g_top (nI ((((t_lcp xs ys) * 17) + 16) - i)) (pk_sub (by omega)) ?_
              exact g_iret X B ⟨by unfold e_fdb; rw [if_neg (by omega), ← hxo, hi50_1]; first | (rw [hc52]; rfl) | (obtain ⟨i, rfl⟩ : ∃ z, i = z + 1 := ⟨i - 1, by omega⟩; rw [e_hb, if_neg hc60]), rfl⟩ hL d_Edges_firstDifferentBit_77 (by omega) (by omega)
            · refine g_iinc X.1.1 X.1.2.1 (nI (i - 1)) hl 6 d_Edges_firstDifferentBit_63 rfl (gn_dec 1 (by omega)) rfl (fun ls hl => ?_)
              refine lv_goto X.1.1 X.1.2.1 d_Edges_firstDifferentBit_66 rfl ?_
              exact ih50 (i - 1) ls (by omega) (by omega) (by rw [hi50_1]; obtain ⟨i, rfl⟩ : ∃ z, i = z + 1 := ⟨i - 1, by omega⟩; rw [e_hb, if_pos hc60]; rfl) hl
      exact loop50 _ 15 ls (Nat.lt_succ_self _) (by omega) rfl hl
    · refine lv_iload X.1.1 X.1.2.1 d_Edges_firstDifferentBit_28 (gl_at hl rfl) ?_
      exact g_iret X B ⟨by unfold e_fdb; rw [if_pos (by omega)], rfl⟩ hL d_Edges_firstDifferentBit_30 (by omega) (by omega)

theorem e_if {c : Prop} (d : Decidable c) : narrow .boolean (.int (nI (@ite _ c d 1 0))) = .int (nI (@ite _ c d 1 0)) := @gz_if c d

set_option maxHeartbeats 4000000 in
set_option maxRecDepth 100000 in
theorem c_Edges_isNewText (l : Launch) (D : va_G) (q : Nat → ClassId) (H : Heap) (eb : Nat) (S : Nat → Int32) (ho : va_at D CL (eb, .inr (4, [.ref (eb + 1), .ref (eb + 2)])) H) (hS : va_at D CL (eb + 1, .inl (q 0, 64, .inl S)) H) (sb : Nat → Nat) (pairs : Nat) (hpr : pairs ≤ 63) (hSb : ∀ j, j < pairs → S j = nI (sb j)) (hsb : ∀ j, sb j ≤ 17) (i : Nat) (hi : i < pairs) : gC l y_Edges_isNewText (Cond.code y_Edges_isNewText b_Edges_isNewText 3 (some .boolean) :: gWS) (gR 0 0 0 0) D CL (gY q) (fun _ => True) [.ref eb, .int (nI i)] H (fun v H1 => v = some (.int (nI (@ite _ (e_new sb i) (e_newd sb i) 1 0))) ∧ H1 = H) 0 0 (fun _ => False) := by
  refine gC.ofW R_Edges "isNewText" (by decide) rfl rfl ?_
  intro p e s m below meth c hadm X hE hH B hne
  refine g_entry [some (.ref eb), some (.int (nI i)), none] rfl rfl (Nat.le_of_ble_eq_true rfl) (fun ls hl => ?_)
  refine lv_iload_n X.1.1 X.1.2.1 d_Edges_isNewText_0 rfl (gl_at hl rfl) ?_
  refine lv_iconst (v := nI 1) X.1.1 X.1.2.1 d_Edges_isNewText_1 (by decide) ?_
  refine lv_isub X.1.1 X.1.2.1 d_Edges_isNewText_2 ?_
  refine g_istn X.1.1 X.1.2.1 hl 2 d_Edges_isNewText_3 rfl (Nat.le_of_ble_eq_true rfl) rfl (fun ls hl => ?_)
  have loop4 : ∀ (fu : Nat) (k : Nat) (ls : Array Slot), k < fu → (k ≤ i) → (∀ t, k ≤ t → t < i → sb i < sb t) →  gl ls [some (.ref eb), some (.int (nI i)), some (.int (nI k - 1))] → W p l e (gR 0 0 0 0) s m ([.ref eb, .int (nI i)] : List Value).toArray below meth c H [] 0 0 (gQ below ([.ref eb, .int (nI i)] : List Value).toArray s (fun v H1 => v = some (.int (nI (@ite _ (e_new sb i) (e_newd sb i) 1 0))) ∧ H1 = H) 0 0 (fun _ => False)) (F0 m 4 ls []) := by
    intro fu
    induction fu with
    | zero => intro k ls hmu; omega
    | succ fu ih4 =>
      intro k ls hmu4 hi4_0 hi4_1 hl
      refine lv_iload_n X.1.1 X.1.2.1 d_Edges_isNewText_4 rfl (gl_at hl rfl) ?_
      refine lv_if_lt X.1.1 X.1.2.1 d_Edges_isNewText_5 rfl (fun hc5 => ?_) (fun hc5 => ?_)
      · refine lv_iconst (v := nI 1) X.1.1 X.1.2.1 d_Edges_isNewText_46 (by decide) ?_
        exact g_zret X B (by decide) ⟨by rw [@if_pos _ (e_newd sb i) (e_new_t hi4_0 hi4_1 (by first | (intro h9; exact absurd (gs_lt (by omega) hc5) (by omega)) | exact fun _ => hc20))], rfl⟩ (fun _ h => by cases h) d_Edges_isNewText_47 (by omega) (by omega)
      · have hk0 := gs_nlt hc5
        rw [gs_pos hk0] at hl
        refine lv_aload_n X.1.1 X.1.2.1 d_Edges_isNewText_8 rfl (gl_at hl rfl) ?_
        refine g_get X kc_Edges ho 0 (by decide) lk_Edges_9 rfl d_Edges_isNewText_9 ?_
        refine lv_iload_n X.1.1 X.1.2.1 d_Edges_isNewText_12 rfl (gl_at hl rfl) ?_
        refine g_iald X 0 hS rfl (k - 1) (by omega) (by decide) d_Edges_isNewText_13 ?_
        have q1 := hsb (k - 1)
        refine g_top (nI (sb (k - 1))) (hSb _ (by omega)) ?_
        refine lv_aload_n X.1.1 X.1.2.1 d_Edges_isNewText_14 rfl (gl_at hl rfl) ?_
        refine g_get X kc_Edges ho 0 (by decide) lk_Edges_9 rfl d_Edges_isNewText_15 ?_
        refine lv_iload_n X.1.1 X.1.2.1 d_Edges_isNewText_18 rfl (gl_at hl rfl) ?_
        refine g_iald X 0 hS rfl i (by omega) (by decide) d_Edges_isNewText_19 ?_
        have q2 := hsb i
        refine g_top (nI (sb i)) (hSb _ (by omega)) ?_
        refine gn_lt X.1.1 X.1.2.1 (sb (k - 1)) (sb i) (by omega) (by omega) d_Edges_isNewText_20 rfl (fun hc20 => ?_) (fun hc20 => ?_)
        · refine lv_iconst (v := nI 1) X.1.1 X.1.2.1 d_Edges_isNewText_46 (by decide) ?_
          exact g_zret X B (by decide) ⟨by rw [@if_pos _ (e_newd sb i) (e_new_t hi4_0 hi4_1 (by first | (intro h9; exact absurd (gs_lt (by omega) hc5) (by omega)) | exact fun _ => hc20))], rfl⟩ (fun _ h => by cases h) d_Edges_isNewText_47 (by omega) (by omega)
        · refine lv_aload_n X.1.1 X.1.2.1 d_Edges_isNewText_23 rfl (gl_at hl rfl) ?_
          refine g_get X kc_Edges ho 0 (by decide) lk_Edges_9 rfl d_Edges_isNewText_24 ?_
          refine lv_iload_n X.1.1 X.1.2.1 d_Edges_isNewText_27 rfl (gl_at hl rfl) ?_
          refine g_iald X 0 hS rfl (k - 1) (by omega) (by decide) d_Edges_isNewText_28 ?_
          have q1 := hsb (k - 1)
          refine g_top (nI (sb (k - 1))) (hSb _ (by omega)) ?_
          refine lv_aload_n X.1.1 X.1.2.1 d_Edges_isNewText_29 rfl (gl_at hl rfl) ?_
          refine g_get X kc_Edges ho 0 (by decide) lk_Edges_9 rfl d_Edges_isNewText_30 ?_
          refine lv_iload_n X.1.1 X.1.2.1 d_Edges_isNewText_33 rfl (gl_at hl rfl) ?_
          refine g_iald X 0 hS rfl i (by omega) (by decide) d_Edges_isNewText_34 ?_
          have q2 := hsb i
          refine g_top (nI (sb i)) (hSb _ (by omega)) ?_
          refine gn_ne X.1.1 X.1.2.1 (sb (k - 1)) (sb i) (by omega) (by omega) d_Edges_isNewText_35 rfl (fun hc35 => ?_) (fun hc35 => ?_)
          · refine g_iinc X.1.1 X.1.2.1 (nI (k - 1) - 1) hl 2 d_Edges_isNewText_40 rfl (gs_inc _) rfl (fun ls hl => ?_)
            refine lv_goto X.1.1 X.1.2.1 d_Edges_isNewText_43 rfl ?_
            exact ih4 (k - 1) ls (by omega) (by omega) (fun t h1 h2 => by
              by_cases h9 : t = k - 1
              · rw [h9]
                omega
              · exact hi4_1 t (by omega) h2) hl
          · refine lv_iconst (v := nI 0) X.1.1 X.1.2.1 d_Edges_isNewText_38 (by decide) ?_
            exact g_zret X B (by decide) ⟨by rw [@if_neg _ (e_newd sb i) (e_new_f hi4_0 hk0 hi4_1 hc35)], rfl⟩ (fun _ h => by cases h) d_Edges_isNewText_39 (by omega) (by omega)
  exact loop4 _ i ls (Nat.lt_succ_self _) (Nat.le_refl _) (fun t h1 h2 => by omega) hl

theorem e_fc_end {sb : Nat → Nat} {len pairs t : Nat} (h : ¬ (t < pairs ∧ len ≤ sb t)) : e_fc sb len pairs (pairs - t) t = 0 := by
  rcases Nat.eq_zero_or_pos (pairs - t) with h8 | h8
  · rw [h8]; rfl
  · obtain ⟨u, hu⟩ : ∃ u, pairs - t = u + 1 := ⟨pairs - t - 1, by omega⟩
    rw [hu, e_fc, if_neg h]
theorem e_fc_step {sb : Nat → Nat} {len pairs t : Nat} (h : t < pairs) (h2 : len ≤ sb t) : e_fc sb len pairs (pairs - t) t = (if sb t = len then 1 else 0) + e_fc sb len pairs (pairs - (t + 1)) (t + 1) := by
  obtain ⟨u, hu⟩ : ∃ u, pairs - t = u + 1 := ⟨pairs - t - 1, by omega⟩
  rw [hu, show pairs - (t + 1) = u by omega, e_fc, if_pos ⟨h, h2⟩]

set_option maxHeartbeats 4000000 in
set_option maxRecDepth 100000 in
theorem c_Edges_fan (l : Launch) (D : va_G) (q : Nat → ClassId) (H : Heap) (eb : Nat) (S : Nat → Int32) (ho : va_at D CL (eb, .inr (4, [.ref (eb + 1), .ref (eb + 2)])) H) (hS : va_at D CL (eb + 1, .inl (q 0, 64, .inl S)) H) (sb : Nat → Nat) (pairs : Nat) (hpr : pairs ≤ 63) (hSb : ∀ j, j < pairs → S j = nI (sb j)) (hsb : ∀ j, sb j ≤ 17) (i : Nat) (hi : i < pairs) (a : Nat) (xs : List Nat) (hxs : kA D q H a xs) : gC l y_Edges_fan (Cond.code y_Edges_fan b_Edges_fan 7 (some .int) :: gWS) (gR 0 0 0 0) D CL (gY q) (fun _ => True) [.ref eb, .int (nI i), .int (nI pairs), .ref a] H (fun v H1 => v = some (.int (nI (e_fan sb pairs i xs.length))) ∧ H1 = H) 0 0 (fun _ => False) := by
  refine gC.ofW R_Edges "fan" (by decide) rfl rfl ?_
  intro p e s m below meth c hadm X hE hH B hne
  refine g_entry [some (.ref eb), some (.int (nI i)), some (.int (nI pairs)), some (.ref a), none, none, none] rfl rfl (Nat.le_of_ble_eq_true rfl) (fun ls hl => ?_)
  obtain ⟨ha, ⟨fa, hla, hfa⟩, hxl, hxc⟩ := hxs
  have q2 := hsb i
  have q3 := e_fan_le (sb := sb) (pairs := pairs) (i := i) (k := xs.length)
  refine lv_aload_n X.1.1 X.1.2.1 d_Edges_fan_0 rfl (gl_at hl rfl) ?_
  refine g_get X kc_Edges ho 0 (by decide) lk_Edges_9 rfl d_Edges_fan_1 ?_
  refine lv_iload_n X.1.1 X.1.2.1 d_Edges_fan_4 rfl (gl_at hl rfl) ?_
  refine g_iald X 0 hS rfl i (by omega) (by decide) d_Edges_fan_5 ?_
  refine g_top (nI (sb i)) (hSb _ (by omega)) ?_
  refine g_ist X.1.1 X.1.2.1 hl 4 d_Edges_fan_6 (Nat.le_of_ble_eq_true rfl) rfl (fun ls hl => ?_)
  refine lv_iconst (v := nI 2) X.1.1 X.1.2.1 d_Edges_fan_8 (by decide) ?_
  refine lv_aload_n X.1.1 X.1.2.1 d_Edges_fan_9 rfl (gl_at hl rfl) ?_
  refine g_get X kc_Key ha 1 (by decide) lk_Edges_47 rfl d_Edges_fan_10 ?_
  refine lv_imul X.1.1 X.1.2.1 d_Edges_fan_13 ?_
  refine g_top (nI (2 * xs.length)) (pk_mul _ _) ?_
  refine lv_iload X.1.1 X.1.2.1 d_Edges_fan_14 (gl_at hl rfl) ?_
  refine gn_ne X.1.1 X.1.2.1 (2 * xs.length) (sb i) (by omega) (by omega) d_Edges_fan_16 rfl (fun hc16 => ?_) (fun hc16 => ?_)
  · refine lv_iconst (v := nI 1) X.1.1 X.1.2.1 d_Edges_fan_23 (by decide) ?_
    refine g_ist X.1.1 X.1.2.1 hl 5 d_Edges_fan_24 (Nat.le_of_ble_eq_true rfl) rfl (fun ls hl => ?_)
    refine lv_iload_n X.1.1 X.1.2.1 d_Edges_fan_26 rfl (gl_at hl rfl) ?_
    refine g_ist X.1.1 X.1.2.1 hl 6 d_Edges_fan_27 (Nat.le_of_ble_eq_true rfl) rfl (fun ls hl => ?_)
    have loop29 : ∀ (fu : Nat) (t : Nat) (k : Nat) (ls : Array Slot), pairs - t < fu → (i ≤ t) → (t ≤ pairs) → (k + e_fc sb (sb i) pairs (pairs - t) t = e_fan sb pairs i xs.length) →  gl ls [some (.ref eb), some (.int (nI i)), some (.int (nI pairs)), some (.ref a), some (.int (nI (sb i))), some (.int (nI k)), some (.int (nI t))] → W p l e (gR 0 0 0 0) s m ([.ref eb, .int (nI i), .int (nI pairs), .ref a] : List Value).toArray below meth c H [] 0 0 (gQ below ([.ref eb, .int (nI i), .int (nI pairs), .ref a] : List Value).toArray s (fun v H1 => v = some (.int (nI (e_fan sb pairs i xs.length))) ∧ H1 = H) 0 0 (fun _ => False)) (F0 m 29 ls []) := by
      intro fu
      induction fu with
      | zero => intro t k ls hmu; omega
      | succ fu ih29 =>
        intro t k ls hmu29 hi29_0 hi29_1 hi29_2 hl
        refine lv_iload X.1.1 X.1.2.1 d_Edges_fan_29 (gl_at hl rfl) ?_
        refine lv_iload_n X.1.1 X.1.2.1 d_Edges_fan_31 rfl (gl_at hl rfl) ?_
        refine gn_ge X.1.1 X.1.2.1 t pairs (by omega) (by omega) d_Edges_fan_32 rfl (fun hc32 => ?_) (fun hc32 => ?_)
        · refine lv_iload X.1.1 X.1.2.1 d_Edges_fan_68 (gl_at hl rfl) ?_
          exact g_iret X B ⟨by rw [← hi29_2, e_fc_end (by omega), Nat.add_zero], rfl⟩ (fun _ h => by cases h) d_Edges_fan_70 (by omega) (by omega)
        · refine lv_aload_n X.1.1 X.1.2.1 d_Edges_fan_35 rfl (gl_at hl rfl) ?_
          refine g_get X kc_Edges ho 0 (by decide) lk_Edges_9 rfl d_Edges_fan_36 ?_
          refine lv_iload X.1.1 X.1.2.1 d_Edges_fan_39 (gl_at hl rfl) ?_
          refine g_iald X 0 hS rfl t (by omega) (by decide) d_Edges_fan_41 ?_
          have q1 := hsb t
          refine g_top (nI (sb t)) (hSb _ (by omega)) ?_
          refine lv_iload X.1.1 X.1.2.1 d_Edges_fan_42 (gl_at hl rfl) ?_
          refine gn_lt X.1.1 X.1.2.1 (sb t) (sb i) (by omega) (by omega) d_Edges_fan_44 rfl (fun hc44 => ?_) (fun hc44 => ?_)
          · refine lv_iload X.1.1 X.1.2.1 d_Edges_fan_68 (gl_at hl rfl) ?_
            exact g_iret X B ⟨by rw [← hi29_2, e_fc_end (by omega), Nat.add_zero], rfl⟩ (fun _ h => by cases h) d_Edges_fan_70 (by omega) (by omega)
          · refine lv_aload_n X.1.1 X.1.2.1 d_Edges_fan_47 rfl (gl_at hl rfl) ?_
            refine g_get X kc_Edges ho 0 (by decide) lk_Edges_9 rfl d_Edges_fan_48 ?_
            refine lv_iload X.1.1 X.1.2.1 d_Edges_fan_51 (gl_at hl rfl) ?_
            refine g_iald X 0 hS rfl t (by omega) (by decide) d_Edges_fan_53 ?_
            refine g_top (nI (sb t)) (hSb _ (by omega)) ?_
            refine lv_iload X.1.1 X.1.2.1 d_Edges_fan_54 (gl_at hl rfl) ?_
            refine gn_ne X.1.1 X.1.2.1 (sb t) (sb i) (by omega) (by omega) d_Edges_fan_56 rfl (fun hc56 => ?_) (fun hc56 => ?_)
            · refine g_iinc X.1.1 X.1.2.1 (nI (t + 1)) hl 6 d_Edges_fan_62 rfl (nI_1 _) rfl (fun ls hl => ?_)
              refine lv_goto X.1.1 X.1.2.1 d_Edges_fan_65 rfl ?_
              exact ih29 (t + 1) k ls (by omega) (by omega) (by omega) (by rw [← hi29_2, e_fc_step hc32 hc44]; first | (rw [if_pos hc56]; omega) | (rw [if_neg hc56]; omega)) hl
            · refine g_iinc X.1.1 X.1.2.1 (nI (k + 1)) hl 5 d_Edges_fan_59 rfl (nI_1 _) rfl (fun ls hl => ?_)
              refine g_iinc X.1.1 X.1.2.1 (nI (t + 1)) hl 6 d_Edges_fan_62 rfl (nI_1 _) rfl (fun ls hl => ?_)
              refine lv_goto X.1.1 X.1.2.1 d_Edges_fan_65 rfl ?_
              exact ih29 (t + 1) (k + 1) ls (by omega) (by omega) (by omega) (by rw [← hi29_2, e_fc_step hc32 hc44]; first | (rw [if_pos hc56]; omega) | (rw [if_neg hc56]; omega)) hl
    exact loop29 _ i 1 ls (Nat.lt_succ_self _) (Nat.le_refl _) (by omega) (by unfold e_fan; first | rw [if_pos hc16] | rw [if_neg hc16]) hl
  · refine lv_iconst (v := nI 0) X.1.1 X.1.2.1 d_Edges_fan_19 (by decide) ?_
    refine lv_goto X.1.1 X.1.2.1 d_Edges_fan_20 rfl ?_
    refine g_ist X.1.1 X.1.2.1 hl 5 d_Edges_fan_24 (Nat.le_of_ble_eq_true rfl) rfl (fun ls hl => ?_)
    refine lv_iload_n X.1.1 X.1.2.1 d_Edges_fan_26 rfl (gl_at hl rfl) ?_
    refine g_ist X.1.1 X.1.2.1 hl 6 d_Edges_fan_27 (Nat.le_of_ble_eq_true rfl) rfl (fun ls hl => ?_)
    have loop29 : ∀ (fu : Nat) (t : Nat) (k : Nat) (ls : Array Slot), pairs - t < fu → (i ≤ t) → (t ≤ pairs) → (k + e_fc sb (sb i) pairs (pairs - t) t = e_fan sb pairs i xs.length) →  gl ls [some (.ref eb), some (.int (nI i)), some (.int (nI pairs)), some (.ref a), some (.int (nI (sb i))), some (.int (nI k)), some (.int (nI t))] → W p l e (gR 0 0 0 0) s m ([.ref eb, .int (nI i), .int (nI pairs), .ref a] : List Value).toArray below meth c H [] 0 0 (gQ below ([.ref eb, .int (nI i), .int (nI pairs), .ref a] : List Value).toArray s (fun v H1 => v = some (.int (nI (e_fan sb pairs i xs.length))) ∧ H1 = H) 0 0 (fun _ => False)) (F0 m 29 ls []) := by
      intro fu
      induction fu with
      | zero => intro t k ls hmu; omega
      | succ fu ih29 =>
        intro t k ls hmu29 hi29_0 hi29_1 hi29_2 hl
        refine lv_iload X.1.1 X.1.2.1 d_Edges_fan_29 (gl_at hl rfl) ?_
        refine lv_iload_n X.1.1 X.1.2.1 d_Edges_fan_31 rfl (gl_at hl rfl) ?_
        refine gn_ge X.1.1 X.1.2.1 t pairs (by omega) (by omega) d_Edges_fan_32 rfl (fun hc32 => ?_) (fun hc32 => ?_)
        · refine lv_iload X.1.1 X.1.2.1 d_Edges_fan_68 (gl_at hl rfl) ?_
          exact g_iret X B ⟨by rw [← hi29_2, e_fc_end (by omega), Nat.add_zero], rfl⟩ (fun _ h => by cases h) d_Edges_fan_70 (by omega) (by omega)
        · refine lv_aload_n X.1.1 X.1.2.1 d_Edges_fan_35 rfl (gl_at hl rfl) ?_
          refine g_get X kc_Edges ho 0 (by decide) lk_Edges_9 rfl d_Edges_fan_36 ?_
          refine lv_iload X.1.1 X.1.2.1 d_Edges_fan_39 (gl_at hl rfl) ?_
          refine g_iald X 0 hS rfl t (by omega) (by decide) d_Edges_fan_41 ?_
          have q1 := hsb t
          refine g_top (nI (sb t)) (hSb _ (by omega)) ?_
          refine lv_iload X.1.1 X.1.2.1 d_Edges_fan_42 (gl_at hl rfl) ?_
          refine gn_lt X.1.1 X.1.2.1 (sb t) (sb i) (by omega) (by omega) d_Edges_fan_44 rfl (fun hc44 => ?_) (fun hc44 => ?_)
          · refine lv_iload X.1.1 X.1.2.1 d_Edges_fan_68 (gl_at hl rfl) ?_
            exact g_iret X B ⟨by rw [← hi29_2, e_fc_end (by omega), Nat.add_zero], rfl⟩ (fun _ h => by cases h) d_Edges_fan_70 (by omega) (by omega)
          · refine lv_aload_n X.1.1 X.1.2.1 d_Edges_fan_47 rfl (gl_at hl rfl) ?_
            refine g_get X kc_Edges ho 0 (by decide) lk_Edges_9 rfl d_Edges_fan_48 ?_
            refine lv_iload X.1.1 X.1.2.1 d_Edges_fan_51 (gl_at hl rfl) ?_
            refine g_iald X 0 hS rfl t (by omega) (by decide) d_Edges_fan_53 ?_
            refine g_top (nI (sb t)) (hSb _ (by omega)) ?_
            refine lv_iload X.1.1 X.1.2.1 d_Edges_fan_54 (gl_at hl rfl) ?_
            refine gn_ne X.1.1 X.1.2.1 (sb t) (sb i) (by omega) (by omega) d_Edges_fan_56 rfl (fun hc56 => ?_) (fun hc56 => ?_)
            · refine g_iinc X.1.1 X.1.2.1 (nI (t + 1)) hl 6 d_Edges_fan_62 rfl (nI_1 _) rfl (fun ls hl => ?_)
              refine lv_goto X.1.1 X.1.2.1 d_Edges_fan_65 rfl ?_
              exact ih29 (t + 1) k ls (by omega) (by omega) (by omega) (by rw [← hi29_2, e_fc_step hc32 hc44]; first | (rw [if_pos hc56]; omega) | (rw [if_neg hc56]; omega)) hl
            · refine g_iinc X.1.1 X.1.2.1 (nI (k + 1)) hl 5 d_Edges_fan_59 rfl (nI_1 _) rfl (fun ls hl => ?_)
              refine g_iinc X.1.1 X.1.2.1 (nI (t + 1)) hl 6 d_Edges_fan_62 rfl (nI_1 _) rfl (fun ls hl => ?_)
              refine lv_goto X.1.1 X.1.2.1 d_Edges_fan_65 rfl ?_
              exact ih29 (t + 1) (k + 1) ls (by omega) (by omega) (by omega) (by rw [← hi29_2, e_fc_step hc32 hc44]; first | (rw [if_pos hc56]; omega) | (rw [if_neg hc56]; omega)) hl
    exact loop29 _ i 0 ls (Nat.lt_succ_self _) (Nat.le_refl _) (by omega) (by unfold e_fan; first | rw [if_pos hc16] | rw [if_neg hc16]) hl

set_option maxHeartbeats 4000000 in
set_option maxRecDepth 100000 in
theorem c_Edges_init (l : Launch) (D : va_G) (q : Nat → ClassId) (H : Heap) (eb : Nat) (hz : H.size = eb + 1) (ho : va_at D CL (eb, .inr (4, [.null, .null])) H) : gC l y_Edges_init (Cond.code y_Edges_init b_Edges_init 1 none :: gWS) (gR 1 12 2 200) D CL (gY q) (fun _ => True) [.ref eb] H (fun v H1 => v = none ∧ va_at D CL (eb, .inr (4, [.ref (eb + 1), .ref (eb + 2)])) H1 ∧ (∃ S, va_at D CL (eb + 1, .inl (q 0, 64, .inl S)) H1) ∧ (∃ T, va_at D CL (eb + 2, .inl (q 1, 136, .inl T)) H1) ∧ H1.size = eb + 3 ∧ ∀ p : Nat, p < eb → H1[p]? = H[p]?) 2 200 (fun p => eb ≤ p) := by
  refine gC.ofW R_Edges "<init>" (by decide) rfl rfl ?_
  intro p e s m below meth c hadm X hE hH B hne
  refine g_entry [some (.ref eb)] rfl rfl (Nat.le_of_ble_eq_true rfl) (fun ls hl => ?_)
  refine lv_aload_n X.1.1 X.1.2.1 d_Edges_init_0 rfl (gl_at hl rfl) ?_
  refine W.objInit X.1.1 X.1.2.1 X.1.2.2.2.1 (X.1.2.2.2.2 _ mo_Edges_3.1) (X.1.2.2.2.2 _ mo_Edges_3.2.1) (X.1.2.2.2.2 _ mo_Edges_3.2.2) rfl (by rw [X.1.2.2.1]; exact hl.1) rfl d_Edges_init_1 (Nat.le_of_ble_eq_true rfl) (Nat.le_of_ble_eq_true rfl) ?_
  refine W.eq (g2 := F0 m 4 ls []) rfl ?_
  refine lv_aload_n X.1.1 X.1.2.1 d_Edges_init_4 rfl (gl_at hl rfl) ?_
  refine lv_bipush (v := nI 64) X.1.1 X.1.2.1 d_Edges_init_5 (by decide) ?_
  refine g_newi X 0 rfl ka_int 64 (by decide) (Nat.le_of_ble_eq_true rfl) (Nat.le_of_ble_eq_true rfl) d_Edges_init_7 (fun H1 h2 z3 o4 => ?_)
  rw [hz] at h2 z3 o4 ⊢
  replace ho := ho.kept (o4 _ (by omega))
  refine g_putF (A := (fun p => eb ≤ p)) X B.2.2 kc_Edges ho 0 (by decide) lk_Edges_9 rfl rfl rfl rfl (Nat.le_of_ble_eq_true rfl) d_Edges_init_9 (show eb ≤ _ by omega) (fun _ h => by cases h) (fun H5 locs h6 z7 oq8 hL => ?_)
  replace h2 := h2.kept (oq8 _ (by omega))
  have hz9 := z7.trans z3
  refine lv_aload_n X.1.1 X.1.2.1 d_Edges_init_12 rfl (gl_at hl rfl) ?_
  refine lv_sipush (v := nI 136) X.1.1 X.1.2.1 d_Edges_init_13 (by decide) ?_
  refine g_newz X 1 rfl ka_boolean 136 (by decide) (Nat.le_of_ble_eq_true rfl) (Nat.le_of_ble_eq_true rfl) d_Edges_init_16 (fun H10 h11 z12 o13 => ?_)
  rw [hz9] at h11 z12 o13 ⊢
  replace h6 := h6.kept (o13 _ (by omega))
  replace h2 := h2.kept (o13 _ (by omega))
  refine g_putF (A := (fun p => eb ≤ p)) X B.2.2 kc_Edges h6 1 (by decide) lk_Edges_15 rfl rfl rfl rfl (Nat.le_of_ble_eq_true rfl) d_Edges_init_18 (show eb ≤ _ by omega) hL (fun H14 locs h15 z16 oq17 hL => ?_)
  replace h2 := h2.kept (oq17 _ (by omega))
  replace h11 := h11.kept (oq17 _ (by omega))
  have hz18 := z16.trans z12
  exact g_vret X B ⟨rfl, h15, ⟨_, h2⟩, ⟨_, h11⟩, by omega, fun p hp => ((oq17 p (by omega)).trans ((o13 p (by omega)).trans ((oq8 p (by omega)).trans (o4 p (by omega)))))⟩ hL d_Edges_init_21 (by omega) (by omega)
end
section
/-! the class Edges, 2: printed by wip/specs/edges2.py -/
noncomputable def e_inn (sb : Nat → Nat) (ks : Nat → List Nat) (pairs lf mf : Nat) : Nat → Bool := fun i => @decide (e_new sb i ∧ lf ≤ e_fan sb pairs i (ks i).length ∧ e_fan sb pairs i (ks i).length ≤ mf) (Classical.propDecidable _)
theorem e_inn_t {sb : Nat → Nat} {ks : Nat → List Nat} {pairs lf mf i : Nat} (h : e_new sb i ∧ lf ≤ e_fan sb pairs i (ks i).length ∧ e_fan sb pairs i (ks i).length ≤ mf) : e_inn sb ks pairs lf mf i = true := @decide_eq_true _ (Classical.propDecidable _) h
theorem e_inn_f {sb : Nat → Nat} {ks : Nat → List Nat} {pairs lf mf i : Nat} (h : ¬ (e_new sb i ∧ lf ≤ e_fan sb pairs i (ks i).length ∧ e_fan sb pairs i (ks i).length ≤ mf)) : e_inn sb ks pairs lf mf i = false := @decide_eq_false _ (Classical.propDecidable _) h
abbrev e_sbk (ks : Nat → List Nat) : Nat → Nat := fun j => if (ks j).length ≤ 8 then e_sb (ks j) (ks (j + 1)) else 0
theorem e_sbk_le (ks : Nat → List Nat) (j : Nat) : e_sbk ks j ≤ 17 := by
  unfold e_sbk
  split
  · exact e_sb_le (by assumption)
  · omega
theorem en_t {sb : Nat → Nat} {i : Nat} (h : ¬ nI (@ite _ (e_new sb i) (e_newd sb i) 1 0) = 0) : e_new sb i := @gz_t _ (e_newd sb i) h
theorem en_f {sb : Nat → Nat} {i : Nat} (h : nI (@ite _ (e_new sb i) (e_newd sb i) 1 0) = 0) : ¬ e_new sb i := @gz_f _ (e_newd sb i) h

set_option maxHeartbeats 4000000 in
set_option maxRecDepth 100000 in
theorem c_Edges_countInner0 (l : Launch) (D : va_G) (q : Nat → ClassId) (H : Heap) (eb mb : Nat) (chg lf mf : Nat) (ho : va_at D CL (mb, .inr (1, [.ref (mb + 1), .ref (mb + 130), .int (nI 0), .int (nI chg)])) H) : gC l y_Edges_countInner (Cond.code y_Edges_countInner b_Edges_countInner 8 (some .int) :: gWS) (gR 2 46 0 0) D CL (gY q) (fun _ => True) [.ref eb, .ref mb, .int (nI lf), .int (nI mf)] H (fun v H1 => v = some (.int (nI 0)) ∧ H1 = H) 0 0 (fun _ => False) := by
  refine gC.ofW R_Edges "countInner" (by decide) rfl rfl ?_
  intro p e s m below meth c hadm X hE hH B hne
  refine g_entry [some (.ref eb), some (.ref mb), some (.int (nI lf)), some (.int (nI mf)), none, none, none, none] rfl rfl (Nat.le_of_ble_eq_true rfl) (fun ls hl => ?_)
  refine lv_aload_n X.1.1 X.1.2.1 d_Edges_countInner_0 rfl (gl_at hl rfl) ?_
  refine g_get X kc_KeyMap ho 2 (by decide) lk_Edges_19 rfl d_Edges_countInner_1 ?_
  refine lv_iconst (v := nI 1) X.1.1 X.1.2.1 d_Edges_countInner_4 (by decide) ?_
  refine lv_isub X.1.1 X.1.2.1 d_Edges_countInner_5 ?_
  refine g_ist X.1.1 X.1.2.1 hl 4 d_Edges_countInner_6 (Nat.le_of_ble_eq_true rfl) rfl (fun ls hl => ?_)
  refine lv_iconst (v := nI 0) X.1.1 X.1.2.1 d_Edges_countInner_8 (by decide) ?_
  refine g_ist X.1.1 X.1.2.1 hl 5 d_Edges_countInner_9 (Nat.le_of_ble_eq_true rfl) rfl (fun ls hl => ?_)
  refine lv_iload X.1.1 X.1.2.1 d_Edges_countInner_11 (gl_at hl rfl) ?_
  refine lv_iload X.1.1 X.1.2.1 d_Edges_countInner_13 (gl_at hl rfl) ?_
  refine lv_icmp_ge X.1.1 X.1.2.1 d_Edges_countInner_15 rfl (fun hc15 => ?_) (fun hc15 => ?_)
  · refine lv_iconst (v := nI 0) X.1.1 X.1.2.1 d_Edges_countInner_51 (by decide) ?_
    refine g_ist X.1.1 X.1.2.1 hl 5 d_Edges_countInner_52 (Nat.le_of_ble_eq_true rfl) rfl (fun ls hl => ?_)
    refine lv_iconst (v := nI 0) X.1.1 X.1.2.1 d_Edges_countInner_54 (by decide) ?_
    refine g_ist X.1.1 X.1.2.1 hl 6 d_Edges_countInner_55 (Nat.le_of_ble_eq_true rfl) rfl (fun ls hl => ?_)
    refine lv_iload X.1.1 X.1.2.1 d_Edges_countInner_57 (gl_at hl rfl) ?_
    refine lv_iload X.1.1 X.1.2.1 d_Edges_countInner_59 (gl_at hl rfl) ?_
    refine lv_icmp_ge X.1.1 X.1.2.1 d_Edges_countInner_61 rfl (fun hc61 => ?_) (fun hc61 => ?_)
    · refine lv_iload X.1.1 X.1.2.1 d_Edges_countInner_111 (gl_at hl rfl) ?_
      exact g_iret X B ⟨rfl, rfl⟩ (fun _ h => by cases h) d_Edges_countInner_113 (by omega) (by omega)
    · exact absurd (by decide) hc61
  · exact absurd (by decide) hc15

set_option maxHeartbeats 4000000 in
set_option maxRecDepth 100000 in
theorem c_Edges_countInner (l : Launch) (D : va_G) (q : Nat → ClassId) (H : Heap) (eb : Nat) (S : Nat → Int32) (ho : va_at D CL (eb, .inr (4, [.ref (eb + 1), .ref (eb + 2)])) H) (hS : va_at D CL (eb + 1, .inl (q 0, 64, .inl S)) H) (mb n : Nat) (ks : Nat → List Nat) (vs : Nat → Int32) (chg : Nat) (hm : mA D q H mb n ks vs chg) (hem : eb + 2 < mb ∨ mb + 130 < eb) (hn0 : 0 < n) (lf mf : Nat) (hlf : lf < 2 ^ 31) (hmf : mf < 2 ^ 31) : gC l y_Edges_countInner (Cond.code y_Edges_countInner b_Edges_countInner 8 (some .int) :: gWS) (gR 2 46 0 0) D CL (gY q) (fun _ => True) [.ref eb, .ref mb, .int (nI lf), .int (nI mf)] H (fun v H1 => v = some (.int (nI (v_cnt (e_inn (e_sbk ks) ks (n - 1) lf mf) 0 (n - 1)))) ∧ (∃ S1, va_at D CL (eb + 1, .inl (q 0, 64, .inl S1)) H1) ∧ H1.size = H.size ∧ ∀ p : Nat, p ≠ eb + 1 → H1[p]? = H[p]?) 0 0 (fun p => p = eb + 1) := by
  refine gC.ofW R_Edges "countInner" (by decide) rfl rfl ?_
  intro p e s m below meth c hadm X hE hH B hne
  refine g_entry [some (.ref eb), some (.ref mb), some (.int (nI lf)), some (.int (nI mf)), none, none, none, none] rfl rfl (Nat.le_of_ble_eq_true rfl) (fun ls hl => ?_)
  have ho0 := ho
  have hS0 := hS
  obtain ⟨hm0, hn, ⟨f, g, hf0, hfg, hg, hgi, hks⟩, hvv⟩ := hm
  have hmo := hm0
  have hf := hf0
  refine lv_aload_n X.1.1 X.1.2.1 d_Edges_countInner_0 rfl (gl_at hl rfl) ?_
  refine g_get X kc_KeyMap hmo 2 (by decide) lk_Edges_19 rfl d_Edges_countInner_1 ?_
  refine lv_iconst (v := nI 1) X.1.1 X.1.2.1 d_Edges_countInner_4 (by decide) ?_
  refine lv_isub X.1.1 X.1.2.1 d_Edges_countInner_5 ?_
  refine g_top (nI (n - 1)) (pk_sub (by omega)) ?_
  refine g_ist X.1.1 X.1.2.1 hl 4 d_Edges_countInner_6 (Nat.le_of_ble_eq_true rfl) rfl (fun ls hl => ?_)
  refine lv_iconst (v := nI 0) X.1.1 X.1.2.1 d_Edges_countInner_8 (by decide) ?_
  refine g_ist X.1.1 X.1.2.1 hl 5 d_Edges_countInner_9 (Nat.le_of_ble_eq_true rfl) rfl (fun ls hl => ?_)
  have loop11 : ∀ (fu : Nat) (i : Nat) (S : Nat → Int32) (Hn : Heap) (locs : List Loc) (ls : Array Slot), n - 1 - i < fu → (i ≤ n - 1) → (∀ j, j < i → S j = nI (e_sbk ks j)) → (va_at D CL (eb + 1, .inl (q 0, 64, .inl S)) Hn) → (∀ p : Nat, p ≠ eb + 1 → Hn[p]? = H[p]?) → (Hn.size = H.size) → (∀ x ∈ locs, (fun p => p = eb + 1) x.base) → gl ls [some (.ref eb), some (.ref mb), some (.int (nI lf)), some (.int (nI mf)), some (.int (nI (n - 1))), some (.int (nI i)), none, none] → W p l e (gR 2 46 0 0) s m ([.ref eb, .ref mb, .int (nI lf), .int (nI mf)] : List Value).toArray below meth c Hn locs 0 0 (gQ below ([.ref eb, .ref mb, .int (nI lf), .int (nI mf)] : List Value).toArray s (fun v H1 => v = some (.int (nI (v_cnt (e_inn (e_sbk ks) ks (n - 1) lf mf) 0 (n - 1)))) ∧ (∃ S1, va_at D CL (eb + 1, .inl (q 0, 64, .inl S1)) H1) ∧ H1.size = H.size ∧ ∀ p : Nat, p ≠ eb + 1 → H1[p]? = H[p]?) 0 0 (fun p => p = eb + 1)) (F0 m 11 ls []) := by
    intro fu
    induction fu with
    | zero => intro i S Hn locs ls hmu; omega
    | succ fu ih11 =>
      intro i S Hn locs ls hmu11 hi11_0 hi11_1 hS fr zz hL hl
      have ho := ho0.kept (fr eb (by omega))
      have hmo := hm0.kept (fr mb (by omega))
      have hf := va_at.kept hf0 (fr (mb + 1) (by omega))
      refine lv_iload X.1.1 X.1.2.1 d_Edges_countInner_11 (gl_at hl rfl) ?_
      refine lv_iload X.1.1 X.1.2.1 d_Edges_countInner_13 (gl_at hl rfl) ?_
      refine gn_ge X.1.1 X.1.2.1 i (n - 1) (by omega) (by omega) d_Edges_countInner_15 rfl (fun hc15 => ?_) (fun hc15 => ?_)
      · have e9 : n - 1 = i := by omega
        subst e9
        refine lv_iconst (v := nI 0) X.1.1 X.1.2.1 d_Edges_countInner_51 (by decide) ?_
        refine g_ist X.1.1 X.1.2.1 hl 5 d_Edges_countInner_52 (Nat.le_of_ble_eq_true rfl) rfl (fun ls hl => ?_)
        refine lv_iconst (v := nI 0) X.1.1 X.1.2.1 d_Edges_countInner_54 (by decide) ?_
        refine g_ist X.1.1 X.1.2.1 hl 6 d_Edges_countInner_55 (Nat.le_of_ble_eq_true rfl) rfl (fun ls hl => ?_)
        have loop57 : ∀ (fu : Nat) (i : Nat) (k : Nat) (locs : List Loc) (ls : Array Slot), n - 1 - i < fu → (i ≤ n - 1) → (k = v_cnt (e_inn (e_sbk ks) ks (n - 1) lf mf) 0 i) → (∀ x ∈ locs, (fun p => p = eb + 1) x.base) → gl ls [some (.ref eb), some (.ref mb), some (.int (nI lf)), some (.int (nI mf)), some (.int (nI (n - 1))), some (.int (nI k)), some (.int (nI i)), none] → W p l e (gR 2 46 0 0) s m ([.ref eb, .ref mb, .int (nI lf), .int (nI mf)] : List Value).toArray below meth c Hn locs 0 0 (gQ below ([.ref eb, .ref mb, .int (nI lf), .int (nI mf)] : List Value).toArray s (fun v H1 => v = some (.int (nI (v_cnt (e_inn (e_sbk ks) ks (n - 1) lf mf) 0 (n - 1)))) ∧ (∃ S1, va_at D CL (eb + 1, .inl (q 0, 64, .inl S1)) H1) ∧ H1.size = H.size ∧ ∀ p : Nat, p ≠ eb + 1 → H1[p]? = H[p]?) 0 0 (fun p => p = eb + 1)) (F0 m 57 ls []) := by
          intro fu
          induction fu with
          | zero => intro i k locs ls hmu; omega
          | succ fu ih57 =>
            intro i k locs ls hmu57 hi57_0 hi57_1 hL hl
            have hk9 := v_cnt_le (e_inn (e_sbk ks) ks (n - 1) lf mf) 0 i
            refine lv_iload X.1.1 X.1.2.1 d_Edges_countInner_57 (gl_at hl rfl) ?_
            refine lv_iload X.1.1 X.1.2.1 d_Edges_countInner_59 (gl_at hl rfl) ?_
            refine gn_ge X.1.1 X.1.2.1 i (n - 1) (by omega) (by omega) d_Edges_countInner_61 rfl (fun hc61 => ?_) (fun hc61 => ?_)
            · have e8 : i = n - 1 := by omega
              rw [e8] at hi57_1
              refine lv_iload X.1.1 X.1.2.1 d_Edges_countInner_111 (gl_at hl rfl) ?_
              exact g_iret X B ⟨by rw [hi57_1], ⟨S, hS⟩, zz, fr⟩ hL d_Edges_countInner_113 (by omega) (by omega)
            · refine lv_aload_n X.1.1 X.1.2.1 d_Edges_countInner_64 rfl (gl_at hl rfl) ?_
              refine lv_iload X.1.1 X.1.2.1 d_Edges_countInner_65 (gl_at hl rfl) ?_
              refine g_cv (A := (fun p => p = eb + 1)) X gWS_good mw_Edges_33 kc_Edges ho (c_Edges_isNewText l D q Hn eb S ho hS (e_sbk ks) (n - 1) (by omega) (fun j hj => hi11_1 j (by omega)) (e_sbk_le ks) i (by omega)) (fun _ _ _ => trivial) gBlind.tt rfl rfl hl.1 (Nat.le_of_ble_eq_true rfl) rfl rfl ⟨by decide, by decide⟩ ⟨by decide, by decide⟩ d_Edges_countInner_67 (fun _ h => h.elim) hL (fun v1 H2 locs hp3 hL => ?_)
              obtain ⟨rfl, hHe⟩ := hp3
              rw [hHe]
              refine lv_if_eq X.1.1 X.1.2.1 d_Edges_countInner_70 rfl (fun hc70 => ?_) (fun hc70 => ?_)
              · refine g_iinc X.1.1 X.1.2.1 (nI (i + 1)) hl 6 d_Edges_countInner_105 rfl (nI_1 _) rfl (fun ls hl => ?_)
                refine lv_goto X.1.1 X.1.2.1 d_Edges_countInner_108 rfl ?_
                exact ih57 (i + 1) k locs ls (by omega) (by omega) (by rw [v_cnt, Nat.zero_add]; first | (rw [e_inn_t ⟨en_t hc70, hc93, hc99⟩, if_pos rfl]; omega) | (rw [e_inn_f (fun h => by have h1 := h.2.1; have h2 := h.2.2; omega), if_neg (by decide)]; omega) | (rw [e_inn_f (fun h => en_f hc70 h.1), if_neg (by decide)]; omega)) hL hl
              · refine lv_aload_n X.1.1 X.1.2.1 d_Edges_countInner_73 rfl (gl_at hl rfl) ?_
                refine lv_iload X.1.1 X.1.2.1 d_Edges_countInner_74 (gl_at hl rfl) ?_
                refine lv_iload X.1.1 X.1.2.1 d_Edges_countInner_76 (gl_at hl rfl) ?_
                refine lv_aload_n X.1.1 X.1.2.1 d_Edges_countInner_78 rfl (gl_at hl rfl) ?_
                refine g_get X kc_KeyMap hmo 0 (by decide) lk_Edges_25 rfl d_Edges_countInner_79 ?_
                refine lv_iload X.1.1 X.1.2.1 d_Edges_countInner_82 (gl_at hl rfl) ?_
                refine g_aald X 3 hf rfl i (by omega) (by decide) (v := .ref (g i)) (by rw [hfg _ (by omega)]; rfl) d_Edges_countInner_84 ?_
                obtain ⟨j8, hj8, hgj8⟩ := hg i (by omega)
                have hk1 := (hks i (by omega)).kept (fr _ (by omega)) (fr _ (by omega))
                have hfl := e_fan_le (sb := e_sbk ks) (pairs := n - 1) (i := i) (k := (ks i).length)
                refine g_cv (A := (fun p => p = eb + 1)) X gWS_good mw_Edges_37 kc_Edges ho (c_Edges_fan l D q Hn eb S ho hS (e_sbk ks) (n - 1) (by omega) (fun j hj => hi11_1 j (by omega)) (e_sbk_le ks) i (by omega) (g i) (ks i) hk1) (fun _ _ _ => trivial) gBlind.tt rfl rfl hl.1 (Nat.le_of_ble_eq_true rfl) rfl rfl ⟨by decide, by decide⟩ ⟨by decide, by decide⟩ d_Edges_countInner_85 (fun _ h => h.elim) hL (fun v4 H5 locs hp6 hL => ?_)
                obtain ⟨rfl, hHe⟩ := hp6
                rw [hHe]
                refine g_ist X.1.1 X.1.2.1 hl 7 d_Edges_countInner_88 (Nat.le_of_ble_eq_true rfl) rfl (fun ls hl => ?_)
                refine lv_iload X.1.1 X.1.2.1 d_Edges_countInner_90 (gl_at hl rfl) ?_
                refine lv_iload_n X.1.1 X.1.2.1 d_Edges_countInner_92 rfl (gl_at hl rfl) ?_
                refine gn_lt X.1.1 X.1.2.1 (e_fan (e_sbk ks) (n - 1) i (ks i).length) lf (by omega) (by omega) d_Edges_countInner_93 rfl (fun hc93 => ?_) (fun hc93 => ?_)
                · refine g_iinc X.1.1 X.1.2.1 (nI (i + 1)) hl 6 d_Edges_countInner_105 rfl (nI_1 _) rfl (fun ls hl => ?_)
                  refine lv_goto X.1.1 X.1.2.1 d_Edges_countInner_108 rfl ?_
                  exact ih57 (i + 1) k locs ls (by omega) (by omega) (by rw [v_cnt, Nat.zero_add]; first | (rw [e_inn_t ⟨en_t hc70, hc93, hc99⟩, if_pos rfl]; omega) | (rw [e_inn_f (fun h => by have h1 := h.2.1; have h2 := h.2.2; omega), if_neg (by decide)]; omega) | (rw [e_inn_f (fun h => en_f hc70 h.1), if_neg (by decide)]; omega)) hL (gl_forget hl 7)
                · refine lv_iload X.1.1 X.1.2.1 d_Edges_countInner_96 (gl_at hl rfl) ?_
                  refine lv_iload_n X.1.1 X.1.2.1 d_Edges_countInner_98 rfl (gl_at hl rfl) ?_
                  refine gn_gt X.1.1 X.1.2.1 (e_fan (e_sbk ks) (n - 1) i (ks i).length) mf (by omega) (by omega) d_Edges_countInner_99 rfl (fun hc99 => ?_) (fun hc99 => ?_)
                  · refine g_iinc X.1.1 X.1.2.1 (nI (i + 1)) hl 6 d_Edges_countInner_105 rfl (nI_1 _) rfl (fun ls hl => ?_)
                    refine lv_goto X.1.1 X.1.2.1 d_Edges_countInner_108 rfl ?_
                    exact ih57 (i + 1) k locs ls (by omega) (by omega) (by rw [v_cnt, Nat.zero_add]; first | (rw [e_inn_t ⟨en_t hc70, hc93, hc99⟩, if_pos rfl]; omega) | (rw [e_inn_f (fun h => by have h1 := h.2.1; have h2 := h.2.2; omega), if_neg (by decide)]; omega) | (rw [e_inn_f (fun h => en_f hc70 h.1), if_neg (by decide)]; omega)) hL (gl_forget hl 7)
                  · refine g_iinc X.1.1 X.1.2.1 (nI (k + 1)) hl 5 d_Edges_countInner_102 rfl (nI_1 _) rfl (fun ls hl => ?_)
                    refine g_iinc X.1.1 X.1.2.1 (nI (i + 1)) hl 6 d_Edges_countInner_105 rfl (nI_1 _) rfl (fun ls hl => ?_)
                    refine lv_goto X.1.1 X.1.2.1 d_Edges_countInner_108 rfl ?_
                    exact ih57 (i + 1) (k + 1) locs ls (by omega) (by omega) (by rw [v_cnt, Nat.zero_add]; first | (rw [e_inn_t ⟨en_t hc70, hc93, hc99⟩, if_pos rfl]; omega) | (rw [e_inn_f (fun h => by have h1 := h.2.1; have h2 := h.2.2; omega), if_neg (by decide)]; omega) | (rw [e_inn_f (fun h => en_f hc70 h.1), if_neg (by decide)]; omega)) hL (gl_forget hl 7)
        exact loop57 _ 0 0 locs ls (Nat.lt_succ_self _) (Nat.zero_le _) rfl hL hl
      · refine lv_aload_n X.1.1 X.1.2.1 d_Edges_countInner_18 rfl (gl_at hl rfl) ?_
        refine g_get X kc_Edges ho 0 (by decide) lk_Edges_9 rfl d_Edges_countInner_19 ?_
        refine lv_iload X.1.1 X.1.2.1 d_Edges_countInner_22 (gl_at hl rfl) ?_
        refine lv_aload_n X.1.1 X.1.2.1 d_Edges_countInner_24 rfl (gl_at hl rfl) ?_
        refine lv_aload_n X.1.1 X.1.2.1 d_Edges_countInner_25 rfl (gl_at hl rfl) ?_
        refine g_get X kc_KeyMap hmo 0 (by decide) lk_Edges_25 rfl d_Edges_countInner_26 ?_
        refine lv_iload X.1.1 X.1.2.1 d_Edges_countInner_29 (gl_at hl rfl) ?_
        refine g_aald X 3 hf rfl i (by omega) (by decide) (v := .ref (g i)) (by rw [hfg _ (by omega)]; rfl) d_Edges_countInner_31 ?_
        refine lv_aload_n X.1.1 X.1.2.1 d_Edges_countInner_32 rfl (gl_at hl rfl) ?_
        refine g_get X kc_KeyMap hmo 0 (by decide) lk_Edges_25 rfl d_Edges_countInner_33 ?_
        refine lv_iload X.1.1 X.1.2.1 d_Edges_countInner_36 (gl_at hl rfl) ?_
        refine lv_iconst (v := nI 1) X.1.1 X.1.2.1 d_Edges_countInner_38 (by decide) ?_
        refine lv_iadd X.1.1 X.1.2.1 d_Edges_countInner_39 ?_
        refine g_top (nI (i + 1)) (nI_add _ _) ?_
        refine g_aald X 3 hf rfl (i + 1) (by omega) (by decide) (v := .ref (g (i + 1))) (by rw [hfg _ (by omega)]; rfl) d_Edges_countInner_40 ?_
        obtain ⟨j8, hj8, hgj8⟩ := hg i (by omega)
        obtain ⟨j9, hj9, hgj9⟩ := hg (i + 1) (by omega)
        have hk1 := (hks i (by omega)).kept (fr _ (by omega)) (fr _ (by omega))
        have hk2 := (hks (i + 1) (by omega)).kept (fr _ (by omega)) (fr _ (by omega))
        have hsbe : e_sb (ks i) (ks (i + 1)) = e_sbk ks i := by unfold e_sbk; rw [if_pos hk1.2.2.1]
        refine g_cv (A := (fun p => p = eb + 1)) X gWS_good mw_Edges_29 kc_Edges ho (c_Edges_countSharedBytes l D q Hn eb (g i) (g (i + 1)) (ks i) (ks (i + 1)) hk1 hk2) (fun _ _ _ => trivial) gBlind.tt rfl rfl hl.1 (Nat.le_of_ble_eq_true rfl) rfl rfl ⟨by decide, by decide⟩ ⟨by decide, by decide⟩ d_Edges_countInner_41 (fun _ h => h.elim) hL (fun v7 H8 locs hp9 hL => ?_)
        obtain ⟨rfl, hHe⟩ := hp9
        rw [hHe]
        refine g_top (nI (e_sbk ks i)) (by rw [← hsbe]) ?_
        refine g_iast (A := (fun p => p = eb + 1)) X 0 hS rfl i (by omega) (by decide) d_Edges_countInner_44 rfl hL (fun H10 locs h11 z12 oq13 hL => ?_)
        replace ho := ho.kept (oq13 _ (by omega))
        replace hmo := hmo.kept (oq13 _ (by omega))
        replace hf := hf.kept (oq13 _ (by omega))
        refine g_iinc X.1.1 X.1.2.1 (nI (i + 1)) hl 5 d_Edges_countInner_45 rfl (nI_1 _) rfl (fun ls hl => ?_)
        refine lv_goto X.1.1 X.1.2.1 d_Edges_countInner_48 rfl ?_
        exact ih11 (i + 1) (upd S i (nI (e_sbk ks i))) H10 locs ls (by omega) (by omega) (fun j hj => by
          by_cases h9 : j = i
          · rw [h9, pk_us]
          · rw [pk_un h9]
            exact hi11_1 j (by omega)) h11 (fun p hp => ((oq13 p hp).trans (fr p hp))) (z12.trans zz) hL hl
  exact loop11 _ 0 S H [] ls (Nat.lt_succ_self _) (Nat.zero_le _) (fun j hj => absurd hj (Nat.not_lt_zero j)) hS (fun _ _ => rfl) rfl (fun _ h => by cases h) hl

theorem mS_ne {n : Nat} {ks : Nat → List Nat} (hs : mS n ks) {i j : Nat} (hi : i < n) (hj : j < n) (h : i ≠ j) : ks i ≠ ks j := by
  intro e
  rcases Nat.lt_or_ge i j with h1 | h1
  · have := hs i j h1 hj
    rw [e, t_ord_refl] at this
    omega
  · have := hs j i (by omega) hi
    rw [e, t_ord_refl] at this
    omega

set_option maxHeartbeats 4000000 in
set_option maxRecDepth 100000 in
theorem c_Edges_depth (l : Launch) (D : va_G) (q : Nat → ClassId) (H : Heap) (eb : Nat) (T : Nat → Int32) (ho : va_at D CL (eb, .inr (4, [.ref (eb + 1), .ref (eb + 2)])) H) (hT : va_at D CL (eb + 2, .inl (q 1, 136, .inl T)) H) (mb n : Nat) (ks : Nat → List Nat) (vs : Nat → Int32) (chg : Nat) (hm : mA D q H mb n ks vs chg) (hs : mS n ks) (hem : eb + 2 < mb ∨ mb + 130 < eb) (pl : Nat) (hpl : pl < n) : gC l y_Edges_depth (Cond.code y_Edges_depth b_Edges_depth 6 (some .int) :: gWS) (gR 2 48 0 0) D CL (gY q) (fun _ => True) [.ref eb, .ref mb, .int (nI pl)] H (fun v H1 => v = some (.int (nI (e_dep (fun j => e_fdb (ks pl) (ks j)) pl n))) ∧ (∃ T1, va_at D CL (eb + 2, .inl (q 1, 136, .inl T1)) H1) ∧ H1.size = H.size ∧ ∀ p : Nat, p ≠ eb + 2 → H1[p]? = H[p]?) 0 0 (fun p => p = eb + 2) := by
  refine gC.ofW R_Edges "depth" (by decide) rfl rfl ?_
  intro p e s m below meth c hadm X hE hH B hne
  refine g_entry [some (.ref eb), some (.ref mb), some (.int (nI pl)), none, none, none] rfl rfl (Nat.le_of_ble_eq_true rfl) (fun ls hl => ?_)
  have ho0 := ho
  obtain ⟨hm0, hn, ⟨f, g, hf0, hfg, hg, hgi, hks⟩, hvv⟩ := hm
  have hmo := hm0
  have hf := hf0
  refine lv_iconst (v := nI 0) X.1.1 X.1.2.1 d_Edges_depth_0 (by decide) ?_
  refine g_istn X.1.1 X.1.2.1 hl 3 d_Edges_depth_1 rfl (Nat.le_of_ble_eq_true rfl) rfl (fun ls hl => ?_)
  have loop2 : ∀ (fu : Nat) (i : Nat) (T : Nat → Int32) (Hn : Heap) (locs : List Loc) (ls : Array Slot), 136 - i < fu → (i ≤ 136) → (∀ j, j < i → T j = nI 0) → (va_at D CL (eb + 2, .inl (q 1, 136, .inl T)) Hn) → (∀ p : Nat, p ≠ eb + 2 → Hn[p]? = H[p]?) → (Hn.size = H.size) → (∀ x ∈ locs, (fun p => p = eb + 2) x.base) → gl ls [some (.ref eb), some (.ref mb), some (.int (nI pl)), some (.int (nI i)), none, none] → W p l e (gR 2 48 0 0) s m ([.ref eb, .ref mb, .int (nI pl)] : List Value).toArray below meth c Hn locs 0 0 (gQ below ([.ref eb, .ref mb, .int (nI pl)] : List Value).toArray s (fun v H1 => v = some (.int (nI (e_dep (fun j => e_fdb (ks pl) (ks j)) pl n))) ∧ (∃ T1, va_at D CL (eb + 2, .inl (q 1, 136, .inl T1)) H1) ∧ H1.size = H.size ∧ ∀ p : Nat, p ≠ eb + 2 → H1[p]? = H[p]?) 0 0 (fun p => p = eb + 2)) (F0 m 2 ls []) := by
    intro fu
    induction fu with
    | zero => intro i T Hn locs ls hmu; omega
    | succ fu ih2 =>
      intro i T Hn locs ls hmu2 hi2_0 hi2_1 hT fr zz hL hl
      have ho := ho0.kept (fr eb (by omega))
      have hmo := hm0.kept (fr mb (by omega))
      have hf := va_at.kept hf0 (fr (mb + 1) (by omega))
      refine lv_iload_n X.1.1 X.1.2.1 d_Edges_depth_2 rfl (gl_at hl rfl) ?_
      refine lv_aload_n X.1.1 X.1.2.1 d_Edges_depth_3 rfl (gl_at hl rfl) ?_
      refine g_get X kc_Edges ho 1 (by decide) lk_Edges_15 rfl d_Edges_depth_4 ?_
      refine g_alen X 1 hT rfl d_Edges_depth_7 ?_
      refine gn_ge X.1.1 X.1.2.1 i 136 (by omega) (by omega) d_Edges_depth_8 rfl (fun hc8 => ?_) (fun hc8 => ?_)
      · refine lv_iconst (v := nI 0) X.1.1 X.1.2.1 d_Edges_depth_24 (by decide) ?_
        refine g_istn X.1.1 X.1.2.1 hl 3 d_Edges_depth_25 rfl (Nat.le_of_ble_eq_true rfl) rfl (fun ls hl => ?_)
        refine lv_iconst (v := nI 0) X.1.1 X.1.2.1 d_Edges_depth_26 (by decide) ?_
        refine g_ist X.1.1 X.1.2.1 hl 4 d_Edges_depth_27 (Nat.le_of_ble_eq_true rfl) rfl (fun ls hl => ?_)
        have loop29 : ∀ (fu : Nat) (i : Nat) (k : Nat) (T : Nat → Int32) (Hn : Heap) (locs : List Loc) (ls : Array Slot), n - i < fu → (i ≤ n) → (∀ b, b < 136 → T b = nI (if e_has (fun j => e_fdb (ks pl) (ks j)) pl i b = true then 1 else 0)) → (k = e_dep (fun j => e_fdb (ks pl) (ks j)) pl i) → (va_at D CL (eb + 2, .inl (q 1, 136, .inl T)) Hn) → (∀ p : Nat, p ≠ eb + 2 → Hn[p]? = H[p]?) → (Hn.size = H.size) → (∀ x ∈ locs, (fun p => p = eb + 2) x.base) → gl ls [some (.ref eb), some (.ref mb), some (.int (nI pl)), some (.int (nI k)), some (.int (nI i)), none] → W p l e (gR 2 48 0 0) s m ([.ref eb, .ref mb, .int (nI pl)] : List Value).toArray below meth c Hn locs 0 0 (gQ below ([.ref eb, .ref mb, .int (nI pl)] : List Value).toArray s (fun v H1 => v = some (.int (nI (e_dep (fun j => e_fdb (ks pl) (ks j)) pl n))) ∧ (∃ T1, va_at D CL (eb + 2, .inl (q 1, 136, .inl T1)) H1) ∧ H1.size = H.size ∧ ∀ p : Nat, p ≠ eb + 2 → H1[p]? = H[p]?) 0 0 (fun p => p = eb + 2)) (F0 m 29 ls []) := by
          intro fu
          induction fu with
          | zero => intro i k T Hn locs ls hmu; omega
          | succ fu ih29 =>
            intro i k T Hn locs ls hmu29 hi29_0 hi29_1 hi29_2 hT fr zz hL hl
            have ho := ho0.kept (fr eb (by omega))
            have hmo := hm0.kept (fr mb (by omega))
            have hf := va_at.kept hf0 (fr (mb + 1) (by omega))
            have hd8 := e_dep_le (fun j => e_fdb (ks pl) (ks j)) pl i
            refine lv_iload X.1.1 X.1.2.1 d_Edges_depth_29 (gl_at hl rfl) ?_
            refine lv_aload_n X.1.1 X.1.2.1 d_Edges_depth_31 rfl (gl_at hl rfl) ?_
            refine g_get X kc_KeyMap hmo 2 (by decide) lk_Edges_19 rfl d_Edges_depth_32 ?_
            refine gn_ge X.1.1 X.1.2.1 i n (by omega) (by omega) d_Edges_depth_35 rfl (fun hc35 => ?_) (fun hc35 => ?_)
            · have e9 : i = n := by omega
              rw [e9] at hi29_2
              refine lv_iload_n X.1.1 X.1.2.1 d_Edges_depth_95 rfl (gl_at hl rfl) ?_
              exact g_iret X B ⟨by rw [hi29_2], ⟨T, hT⟩, zz, fr⟩ hL d_Edges_depth_96 (by omega) (by omega)
            · refine lv_iload X.1.1 X.1.2.1 d_Edges_depth_38 (gl_at hl rfl) ?_
              refine lv_iload_n X.1.1 X.1.2.1 d_Edges_depth_40 rfl (gl_at hl rfl) ?_
              refine gn_eq X.1.1 X.1.2.1 i pl (by omega) (by omega) d_Edges_depth_41 rfl (fun hc41 => ?_) (fun hc41 => ?_)
              · refine g_iinc X.1.1 X.1.2.1 (nI (i + 1)) hl 4 d_Edges_depth_89 rfl (nI_1 _) rfl (fun ls hl => ?_)
                refine lv_goto X.1.1 X.1.2.1 d_Edges_depth_92 rfl ?_
                exact ih29 (i + 1) k T Hn locs ls (by omega) (by omega) (fun b hb => by rw [e_has_pl hc41]; exact hi29_1 b hb) (by rw [e_dep, if_pos (Or.inl hc41), hi29_2]; rfl) hT (fun p hp => (fr p hp)) zz hL hl
              · refine lv_aload_n X.1.1 X.1.2.1 d_Edges_depth_44 rfl (gl_at hl rfl) ?_
                refine lv_aload_n X.1.1 X.1.2.1 d_Edges_depth_45 rfl (gl_at hl rfl) ?_
                refine g_get X kc_KeyMap hmo 0 (by decide) lk_Edges_25 rfl d_Edges_depth_46 ?_
                refine lv_iload_n X.1.1 X.1.2.1 d_Edges_depth_49 rfl (gl_at hl rfl) ?_
                refine g_aald X 3 hf rfl pl (by omega) (by decide) (v := .ref (g pl)) (by rw [hfg _ (by omega)]; rfl) d_Edges_depth_50 ?_
                refine lv_aload_n X.1.1 X.1.2.1 d_Edges_depth_51 rfl (gl_at hl rfl) ?_
                refine g_get X kc_KeyMap hmo 0 (by decide) lk_Edges_25 rfl d_Edges_depth_52 ?_
                refine lv_iload X.1.1 X.1.2.1 d_Edges_depth_55 (gl_at hl rfl) ?_
                refine g_aald X 3 hf rfl i (by omega) (by decide) (v := .ref (g i)) (by rw [hfg _ (by omega)]; rfl) d_Edges_depth_57 ?_
                obtain ⟨j8, hj8, hgj8⟩ := hg i (by omega)
                obtain ⟨j9, hj9, hgj9⟩ := hg pl (by omega)
                have hk1 := (hks pl (by omega)).kept (fr _ (by omega)) (fr _ (by omega))
                have hk2 := (hks i (by omega)).kept (fr _ (by omega)) (fr _ (by omega))
                have hne9 : ks pl ≠ ks i := mS_ne hs hpl (by omega) (fun h => hc41 h.symm)
                have hb9 := e_fdb_lt hk1.2.2.1 hk2.2.2.1 hne9
                have hd9 := e_dep_le (fun j => e_fdb (ks pl) (ks j)) pl i
                refine g_cv (A := (fun p => p = eb + 2)) X gWS_good mw_Edges_53 kc_Edges ho (c_Edges_firstDifferentBit l D q Hn eb (g pl) (g i) (ks pl) (ks i) hk1 hk2) (fun _ _ _ => trivial) gBlind.tt rfl rfl hl.1 (Nat.le_of_ble_eq_true rfl) rfl rfl ⟨by decide, by decide⟩ ⟨by decide, by decide⟩ d_Edges_depth_58 (fun _ h => h.elim) hL (fun v1 H2 locs hp3 hL => ?_)
                obtain ⟨rfl, hHe⟩ := hp3
                rw [hHe]
                refine g_ist X.1.1 X.1.2.1 hl 5 d_Edges_depth_61 (Nat.le_of_ble_eq_true rfl) rfl (fun ls hl => ?_)
                refine lv_iload_n X.1.1 X.1.2.1 d_Edges_depth_63 rfl (gl_at hl rfl) ?_
                refine lv_aload_n X.1.1 X.1.2.1 d_Edges_depth_64 rfl (gl_at hl rfl) ?_
                refine g_get X kc_Edges ho 1 (by decide) lk_Edges_15 rfl d_Edges_depth_65 ?_
                refine lv_iload X.1.1 X.1.2.1 d_Edges_depth_68 (gl_at hl rfl) ?_
                refine g_zald X 1 hT rfl (e_fdb (ks pl) (ks i)) (by omega) (by decide) d_Edges_depth_70 ?_
                refine g_top (nI (if e_has (fun j => e_fdb (ks pl) (ks j)) pl i (e_fdb (ks pl) (ks i)) = true then 1 else 0)) (hi29_1 _ hb9) ?_
                refine lv_if_eq X.1.1 X.1.2.1 d_Edges_depth_71 rfl (fun hc71 => ?_) (fun hc71 => ?_)
                · replace hc71 := gz_f hc71
                  refine lv_iconst (v := nI 1) X.1.1 X.1.2.1 d_Edges_depth_78 (by decide) ?_
                  refine lv_iadd X.1.1 X.1.2.1 d_Edges_depth_79 ?_
                  refine g_top (nI (k + 1)) (nI_add _ _) ?_
                  refine g_istn X.1.1 X.1.2.1 hl 3 d_Edges_depth_80 rfl (Nat.le_of_ble_eq_true rfl) rfl (fun ls hl => ?_)
                  refine lv_aload_n X.1.1 X.1.2.1 d_Edges_depth_81 rfl (gl_at hl rfl) ?_
                  refine g_get X kc_Edges ho 1 (by decide) lk_Edges_15 rfl d_Edges_depth_82 ?_
                  refine lv_iload X.1.1 X.1.2.1 d_Edges_depth_85 (gl_at hl rfl) ?_
                  refine lv_iconst (v := nI 1) X.1.1 X.1.2.1 d_Edges_depth_87 (by decide) ?_
                  refine g_zast (A := (fun p => p = eb + 2)) X 1 hT rfl (e_fdb (ks pl) (ks i)) (by omega) (by decide) (by decide) d_Edges_depth_88 rfl hL (fun H4 locs h5 z6 oq7 hL => ?_)
                  replace ho := ho.kept (oq7 _ (by omega))
                  replace hmo := hmo.kept (oq7 _ (by omega))
                  replace hf := hf.kept (oq7 _ (by omega))
                  refine g_iinc X.1.1 X.1.2.1 (nI (i + 1)) hl 4 d_Edges_depth_89 rfl (nI_1 _) rfl (fun ls hl => ?_)
                  refine lv_goto X.1.1 X.1.2.1 d_Edges_depth_92 rfl ?_
                  exact ih29 (i + 1) (k + 1) (upd T (e_fdb (ks pl) (ks i)) (nI 1)) H4 locs ls (by omega) (by omega) (fun b hb => by
                    rw [e_has_s hc41]
                    by_cases h9 : b = e_fdb (ks pl) (ks i)
                    · rw [h9, pk_us, if_pos (by simp)]
                    · rw [pk_un h9, hi29_1 b hb]
                      congr 2
                      simp [Ne.symm h9]) (by rw [e_dep, hi29_2]; first | (rw [if_pos (Or.inr hc71)]) | (rw [if_neg (fun h => h.elim hc41 hc71)])) h5 (fun p hp => ((oq7 p hp).trans (fr p hp))) (z6.trans zz) hL (gl_forget hl 5)
                · replace hc71 := gz_t hc71
                  refine lv_iconst (v := nI 0) X.1.1 X.1.2.1 d_Edges_depth_74 (by decide) ?_
                  refine lv_goto X.1.1 X.1.2.1 d_Edges_depth_75 rfl ?_
                  refine lv_iadd X.1.1 X.1.2.1 d_Edges_depth_79 ?_
                  refine g_top (nI (k + 0)) (nI_add _ _) ?_
                  refine g_istn X.1.1 X.1.2.1 hl 3 d_Edges_depth_80 rfl (Nat.le_of_ble_eq_true rfl) rfl (fun ls hl => ?_)
                  refine lv_aload_n X.1.1 X.1.2.1 d_Edges_depth_81 rfl (gl_at hl rfl) ?_
                  refine g_get X kc_Edges ho 1 (by decide) lk_Edges_15 rfl d_Edges_depth_82 ?_
                  refine lv_iload X.1.1 X.1.2.1 d_Edges_depth_85 (gl_at hl rfl) ?_
                  refine lv_iconst (v := nI 1) X.1.1 X.1.2.1 d_Edges_depth_87 (by decide) ?_
                  refine g_zast (A := (fun p => p = eb + 2)) X 1 hT rfl (e_fdb (ks pl) (ks i)) (by omega) (by decide) (by decide) d_Edges_depth_88 rfl hL (fun H8 locs h9 z10 oq11 hL => ?_)
                  replace ho := ho.kept (oq11 _ (by omega))
                  replace hmo := hmo.kept (oq11 _ (by omega))
                  replace hf := hf.kept (oq11 _ (by omega))
                  refine g_iinc X.1.1 X.1.2.1 (nI (i + 1)) hl 4 d_Edges_depth_89 rfl (nI_1 _) rfl (fun ls hl => ?_)
                  refine lv_goto X.1.1 X.1.2.1 d_Edges_depth_92 rfl ?_
                  exact ih29 (i + 1) (k + 0) (upd T (e_fdb (ks pl) (ks i)) (nI 1)) H8 locs ls (by omega) (by omega) (fun b hb => by
                    rw [e_has_s hc41]
                    by_cases h9 : b = e_fdb (ks pl) (ks i)
                    · rw [h9, pk_us, if_pos (by simp)]
                    · rw [pk_un h9, hi29_1 b hb]
                      congr 2
                      simp [Ne.symm h9]) (by rw [e_dep, hi29_2]; first | (rw [if_pos (Or.inr hc71)]) | (rw [if_neg (fun h => h.elim hc41 hc71)])) h9 (fun p hp => ((oq11 p hp).trans (fr p hp))) (z10.trans zz) hL (gl_forget hl 5)
        exact loop29 _ 0 0 T Hn locs ls (Nat.lt_succ_self _) (Nat.zero_le _) (fun b hb => hi2_1 b (by omega)) rfl hT fr zz hL hl
      · refine lv_aload_n X.1.1 X.1.2.1 d_Edges_depth_11 rfl (gl_at hl rfl) ?_
        refine g_get X kc_Edges ho 1 (by decide) lk_Edges_15 rfl d_Edges_depth_12 ?_
        refine lv_iload_n X.1.1 X.1.2.1 d_Edges_depth_15 rfl (gl_at hl rfl) ?_
        refine lv_iconst (v := nI 0) X.1.1 X.1.2.1 d_Edges_depth_16 (by decide) ?_
        refine g_zast (A := (fun p => p = eb + 2)) X 1 hT rfl i (by omega) (by decide) (by decide) d_Edges_depth_17 rfl hL (fun H12 locs h13 z14 oq15 hL => ?_)
        replace ho := ho.kept (oq15 _ (by omega))
        replace hmo := hmo.kept (oq15 _ (by omega))
        replace hf := hf.kept (oq15 _ (by omega))
        refine g_iinc X.1.1 X.1.2.1 (nI (i + 1)) hl 3 d_Edges_depth_18 rfl (nI_1 _) rfl (fun ls hl => ?_)
        refine lv_goto X.1.1 X.1.2.1 d_Edges_depth_21 rfl ?_
        exact ih2 (i + 1) (upd T i (nI 0)) H12 locs ls (by omega) (by omega) (fun j hj => by
          by_cases h9 : j = i
          · rw [h9, pk_us]
          · rw [pk_un h9]
            exact hi2_1 j (by omega)) h13 (fun p hp => ((oq15 p hp).trans (fr p hp))) (z14.trans zz) hL hl
  exact loop2 _ 0 T H [] ls (Nat.lt_succ_self _) (Nat.zero_le _) (fun j hj => absurd hj (Nat.not_lt_zero j)) hT (fun _ _ => rfl) rfl (fun _ h => by cases h) hl
end
section
/-! own rows, 5: calls that throw; what is caught -/
section GTC
variable {p : Program} {l : Launch} {e : Env} {R : Room} {s : State} {m : MethodId} {args : Array Value} {below : List Frame} {meth : Method} {c : Code} {H : Heap} {locs : List Loc} {cells slots : Nat} {Q : State → Prop}
variable {cc : ByteArray} {nL pc : Nat} {ls : Array Slot} {rest : List Value} {D : va_G} {cl : List vw_C} {A A1 : Nat → Prop} {a : Nat} {tys : List (ClassId × FieldType)} {own C : String} {T : u_T} {N ci index : Nat} {Ts : List Cond} {ty : Nat → FieldType} {Post Post' : Nat → Heap → Prop} {mc ms mc' ms' : Nat} {name : String} {E : State → Prop}
variable {y : MethodName} {bytes : ByteArray} {maxL n : Nat} {ret : Option FieldType} {rm : Room} {b : Nat} {fs As st : List Value}
/-- a call has thrown x: the note lies over the caller's frame -/
def gThr (p : Program) (l : Launch) (e : Env) (R : Room) (s : State) (m : MethodId) (args : Array Value) (below : List Frame) (meth : Method) (c : Code) (H : Heap) (locs : List Loc) (cells slots mc ms : Nat) (g g' : JFrame) (Post' : Nat → Heap → Prop) (A1 : Nat → Prop) : Prop :=
  ∀ T : State, T.heap = H → Stand p l e R s m args below meth c T locs cells slots → ∃ (x : Nat) (T' : State) (L : List Loc), Stand p l e R s m args below meth c T' (locs ++ L) (cells + mc) (slots + ms) ∧ Post' x T'.heap ∧ (∀ q ∈ L, A1 q.base) ∧
    ∀ target, Steps p.tables e below ((T'.setTop g').pushFrame (.throwing x)) target → Steps p.tables e below (T.setTop g) target
theorem g_thr0 {U : State} (X₁ : Stand p l e R s m args below meth c U locs cells slots) (hU : U.heap = H) (hG : ∀ w ∈ (Cond.code y bytes maxL ret :: Ts), ∀ (a' : Array Value) (V : State), s.WarmedH V.vm → w.before a' V = true) (hini : (Cond.initialized y.cls).before args s = true)
    {vs : List Value} (hM : gT l y (Cond.code y bytes maxL ret :: Ts) rm D cl tys E vs H Post' mc ms A1) (hK : va_K D cl tys s) (hE : ∀ V : State, V.heap = H → s.WarmedH V.vm → E V) (hEb : gBlind E)
    {g : JFrame} (hg : g.method = m) (hsize : g.locals.size = c.maxLocals) {mk : MethodId} (hn : U.methodNamed? y = some mk) {ig : Instr} (hdg : decode c.code g.pc = .ok (ig, 3)) (hW : 2 * g.monitorRoom + (g.stack.map fun v => v.category).sum ≤ 8)
    (hrc : rm.cells = mc) (hrs : rm.slots = ms) (hR : rm.frames + 1 ≤ R.frames ∧ 8 + (maxL + 11) + rm.locals ≤ R.locals) (hf : cells + mc ≤ R.cells ∧ slots + ms ≤ R.slots) :
    ∃ (x : Nat) (T' : State) (L : List Loc), Stand p l e R s m args below meth c T' (locs ++ L) (cells + mc) (slots + ms) ∧ Post' x T'.heap ∧ (∀ q ∈ L, A1 q.base) ∧ Steps p.tables e below (doInvoke e (U.setTop g) [] mk vs.toArray).1 ((T'.setTop g).pushFrame (.throwing x)) := by
  have hall : ∀ w ∈ (Cond.code y bytes maxL ret :: Ts), w.before vs.toArray U = true := fun w hw => hG w hw _ _ X₁.warmed
  obtain ⟨methY, cY, hmY, hcY, -, hlY, -, -, -, -⟩ := Cond.code_spec hn (hall _ List.mem_cons_self)
  obtain ⟨kY, hkY, -⟩ := className_of_methodNamed hn
  have hini' : (Cond.initialized y.cls).before args U = true := word_at X₁.warmed (Or.inl (by first | rfl | simp [Cond.onTables, Cond.keeps, Cond.steady])) hini
  have hinitY : kY.init = .initialized := Cond.initialized_spec (findClass_of_methodNamed hn) hkY hini'
  have h : At U g.method c below := by rw [hg]; exact X₁.here
  have happ : (headSpec (Cond.code y bytes maxL ret :: Ts) rm).appliesLoose y e.platform (U.calling g mk vs.toArray) = true :=
    Spec.appliesLoose_calling (g := g) h hdg hn hkY hinitY
      (X₁.room_calling (g := g) (R' := rm) hsize hmY hcY hR.1 (by rw [hlY]; have := hR.2; omega) (by rw [hrc]; exact hf.1) (by rw [hrs]; exact hf.2)) (atoms_intro hall)
  obtain ⟨mid, hmid⟩ := h.above
  have hfr : (U.setTop g).frames = (.java g :: mid) ++ below := by rw [State.frames_setTop' g h.top, hmid]; rfl
  have hPc : va_Pc vs (fun V => V.heap = H ∧ va_K D cl tys V ∧ E V) vs.toArray (U.calling g mk vs.toArray) :=
    ⟨rfl, hU, va_K.moved (u := U) (U := U.calling g mk vs.toArray) (Vm.Alike.refl U.vm) (va_K.moved X₁.warmed.alike hK), hEb _ _ _ _ (hE U hU X₁.warmed)⟩
  obtain ⟨o, s₂, hsteps, -, hend, hq⟩ := Steps.callFree hM p X₁.admits X₁.cas X₁.clock (acts := []) hfr happ hPc trivial
  obtain ⟨x, rfl, hpost, L, hW₂, hsame, hL'⟩ := hq
  rw [State.frames_setTop' g h.top, X₁.tail] at hend
  obtain ⟨T', X', -, -, ht⟩ := X₁.outOfThrown (g := g) hg (mk := mk) (a := vs.toArray) hend hW₂ hsame
  refine ⟨x, T', L, X', ?_, hL', ?_⟩
  · have e1 : s₂.heap = T'.heap := by rw [ht]; exact Stand.throwing_heap T' g x
    rw [← e1]
    exact hpost
  · rw [← ht]
    exact hsteps
theorem g_tv (X : gX p m c cc nL s args own Ts D cl tys) (hG : gGood Ts) (w : gwV Ts own index y bytes maxL ret n) (K : gk Ts cl ci y.cls T N ty) (hrec : va_at D cl (b, .inr (ci, fs)) H)
    (hM : gT l y (Cond.code y bytes maxL ret :: Ts) rm D cl tys E (.ref b :: As) H Post' mc ms A1) (hE : ∀ U : State, U.heap = H → s.WarmedH U.vm → E U) (hEb : gBlind E)
    (hn : As.length = n) (hst : st = As.reverse ++ .ref b :: rest) (hls : ls.size = nL) (hW : (rest.map fun v => v.category).sum ≤ 8) (hrc : rm.cells = mc) (hrs : rm.slots = ms) (hR : rm.frames + 1 ≤ R.frames ∧ 8 + (maxL + 11) + rm.locals ≤ R.locals) (hf : cells + mc ≤ R.cells ∧ slots + ms ≤ R.slots)
    (hdg : decode cc pc = .ok (.invokevirtual index, 3)) : gThr p l e R s m args below meth c H locs cells slots mc ms (F0 m pc ls st) (F0 m pc ls rest) Post' A1 := by
  obtain ⟨⟨hexec, hb, hml, hown, hts⟩, hK⟩ := X
  have win : ∀ w' ∈ wsV own index y.cls y [Cond.code y bytes maxL ret], w'.before args s = true := fun w' h => hts _ (w.1 w' h)
  have hinst : (Cond.instanceMethod y).before args s = true := win _ (by simp [wsV])
  have hlink : (Cond.methodLink own index y).before args s = true := win _ (by simp [wsV])
  have hsel : (Cond.selects y.cls y y).before args s = true := win _ (by simp [wsV])
  have hini : (Cond.initialized y.cls).before args s = true := win _ (by simp [wsV])
  have hcode : (Cond.code y bytes maxL ret).before args s = true := win _ (by simp [wsV])
  have hcin : Cond.code y bytes maxL ret ∈ Ts := w.1 _ (by simp [wsV])
  have hgood : ∀ w' ∈ (Cond.code y bytes maxL ret :: Ts), ∀ (a' : Array Value) (V : State), s.WarmedH V.vm → w'.before a' V = true := by
    intro w' hw' a' V hV
    have hin : w' ∈ Ts := by
      rcases List.mem_cons.mp hw' with h | h
      · rw [h]; exact hcin
      · exact h
    exact word_at hV (hG w' hin) (hts w' hin)
  have hlen : ∀ sig, parseMethodDescriptor y.desc = some sig → As.length = sig.parameters.length := by
    intro sig h
    have h2 := w.2.2.2
    rw [h] at h2
    rw [hn]
    exact (Option.some.inj h2).symm
  obtain ⟨cellB, hcB, hoB, hclB⟩ := va_recv hK (g_P1 hrec) K.2.2.2 (q0 := 0) rfl
  intro T hT XS
  obtain ⟨mk, methM, hnamed, hmethM, hstM, habM⟩ := Cond.instanceMethod_spec hinst
  obtain ⟨methM', cM, hmethM', -, -, -, -, -, -, hsigM⟩ := Cond.code_spec hnamed hcode
  cases hmethM.symm.trans hmethM'
  obtain ⟨c2, r2, m2, q1, q2, q3, q4, kP, hkP, hkPi⟩ := Cond.selects_spec hsel
  cases hclB.symm.trans q1
  cases (State.methodFound?_of_named hnamed ⟨w.2.1, w.2.2.1⟩).symm.trans q2
  cases hnamed.symm.trans q3
  have hselP : selectMethod e.platform s.vm cellB.cls mk = .method mk := by rw [Launch.admits_selectMethod XS.admits]; exact q4
  obtain ⟨vm₁, X₁, hstep₁⟩ := XS.invokevirtual hexec hown hlink hnamed hmethM hstM hkP hkPi ⟨w.2.1, w.2.2.1⟩ (a := b) (cell := cellB) (by rw [hT]; exact hcB)
    (fun z h => by rw [h] at hoB; cases hoB) hselP hmethM habM hkP hkPi (g := F0 m pc ls st) rfl (argsL := As) (rest := rest) (hlen _ hsigM) hst (by rw [hb]; exact hdg)
  obtain ⟨x, T', L, X', hp, hL', hs⟩ := g_thr0 X₁ (H := H) hT hgood hini hM hK hE hEb (g := F0 m pc ls rest) rfl (hls.trans hml.symm) (X₁.named hnamed) (by rw [hb]; exact hdg) (lv_room hW) hrc hrs hR hf
  exact ⟨x, T', L, X', hp, hL', fun target h => hstep₁ _ fun acts => by rw [doInvoke_state]; exact hs.trans h⟩
/-- what a callee throws leaves the method that has no table -/
theorem g_leave (B : gB meth ret name) (hne : c.exceptionTable.isEmpty = true) {g : JFrame} (hth : gThr p l e R s m args below meth c H locs cells slots mc ms g (F0 m pc ls rest) Post' A1) (hP : ∀ x H1, Post' x H1 → Post x H1) (hA : ∀ q, A1 q → A q) (hL : ∀ x ∈ locs, A x.base) (hc : cells + mc ≤ mc') (hs : slots + ms ≤ ms') : W p l e R s m args below meth c H locs cells slots (gTQ below s Post mc' ms' A) g := by
  intro T hT X
  obtain ⟨x, T', L, X', hp, hL', st⟩ := hth T hT X
  have X2 := stand_widen X' hc hs
  have h0 : c.exceptionTable.toList = [] := List.eq_nil_of_length_eq_zero (by simpa [Array.isEmpty] using hne)
  obtain ⟨hwalk, hrun, hended, hW, hsame⟩ := X2.leaveThrown x (g := F0 m pc ls rest) rfl rfl rfl (fun z hz => by rw [h0] at hz; cases hz) B.2.1
  refine ⟨_, st _ hwalk, x, hrun, hended, hP x _ hp, locs ++ L, hW, hsame, fun q hq => ?_⟩
  rcases List.mem_append.mp hq with h | h
  · exact hL q h
  · exact hA _ (hL' q h)
/-- the constructor of an exception, in a walk -/
theorem g_exinit (X : gX p m c cc nL s args own Ts D cl tys) (htr : ∀ e', l.admits e' → e'.platform.stackTraces = false) {cls : String} {names : List String} {ic : Nat} (hcls : Jvm.Bundle.fit cls = true) (hnames : ∀ n ∈ names, Jvm.Bundle.fit n = true)
    (h : ∀ a ∈ Jvm.Bundle.ownAtoms0 own ic cls names, a.before args s = true) {b0 : Nat} (hlocs : ∀ x ∈ locs, b0 ≤ x.base) (hst : ∀ (c0 : ClassId) (k0 : Class) (z : Nat), s.vm.findClass Jvm.Bundle.tN = some c0 → s.vm.classes[c0]? = some k0 → k0.statics = some z → z < b0)
    {cX : ClassId} {kX : Class} (hfoundX : s.vm.findClass cls = some cX) (hkX : s.vm.classes[cX]? = some kX) (hcell : H[a]? = some (freshCell cX kX)) (hnew : s.heap.size ≤ a) (hls : ls.size = nL)
    (hdg : decode cc pc = .ok (.invokespecial ic, 3)) (hRf : names.length + 3 < R.frames) (hRl : ((Value.ref a :: rest).map fun v => v.category).sum + (13 * (names.length + 1) + 41) ≤ R.locals)
    (kk : ∀ (H1 : Heap) (ce : Cell), H1[a]? = some ce → ce.cls = cX → ce.vm = .none → H1.size = H.size → (∀ q : Nat, q ≠ a → H1[q]? = H[q]?) → W p l e R s m args below meth c H1 locs cells slots Q (F0 m (pc + 3) ls (.ref a :: rest))) : W p l e R s m args below meth c H locs cells slots Q (F0 m pc ls (.ref a :: .ref a :: rest)) := by
  obtain ⟨⟨hexec, hb, hml, hown, hts⟩, hK⟩ := X
  intro T hT XS
  obtain ⟨vm', ce, L, hL, h1, h2, X', st⟩ := g_exinit0 (W := T) XS hexec (htr e XS.admits) hown hcls hnames h hlocs hst hfoundX hkX (by rw [hT]; exact hcell) hnew (g := F0 m pc ls (.ref a :: .ref a :: rest)) rfl (hls.trans hml.symm) (rest := rest) rfl (by rw [hb]; exact hdg) hRf (by show 2 * 0 + _ + _ ≤ _; omega)
  have hlt : a < T.heap.size := by rw [hT]; exact (Array.getElem?_eq_some_iff.mp hcell).1
  have X2 := Stand.forget (extra := L) X' (fun q hq => by rw [hL q hq]; exact hnew)
  have e1 : ((T.setVm vm').setCell a ce).heap[a]? = some ce := heapAt_setCell_self (s := T.setVm vm') _ hlt
  obtain ⟨t, a1, b1⟩ := kk ((T.setVm vm').setCell a ce).heap ce e1 h1 h2 (by rw [size_setCell]; exact congrArg Array.size hT) (fun q hq => by rw [heapAt_setCell_ne _ (Ne.symm hq)]; exact congrArg (fun z : Heap => z[q]?) hT) _ rfl X2
  exact ⟨t, st t a1, b1⟩
end GTC
end
section
/-! the automaton: pictures, and pure facts -/
def aK (D : va_G) (q : Nat → ClassId) (H : Heap) (ab : Nat) (ks : Nat → List Nat) : Prop :=
  (∃ f : Nat → Option Nat, va_at D CL (ab + 1, .inl (q 3, 64, .inr (.inr (.inr (.inr f))))) H ∧ ∀ i, i < 64 → f i = some (ab + 2 + 2 * i)) ∧ ∀ i, i < 64 → kA D q H (ab + 2 + 2 * i) (ks i)
theorem aK.kept {D : va_G} {q : Nat → ClassId} {H H1 : Heap} {ab : Nat} {ks : Nat → List Nat} (h : aK D q H ab ks) (hk : ∀ p : Nat, ab + 1 ≤ p → p ≤ ab + 129 → H1[p]? = H[p]?) : aK D q H1 ab ks := by
  obtain ⟨⟨f, hf, hfg⟩, hks⟩ := h
  exact ⟨⟨f, va_at.kept hf (hk _ (by omega) (by omega)), hfg⟩, fun i hi => (hks i hi).kept (hk _ (by omega) (by omega)) (hk _ (by omega) (by omega))⟩
/-- what follows a text of length len: the last letter seen from key fr on, and how many different ones -/
def a_lv : Option Nat → Int32
  | none => -1
  | some x => nI x
theorem a_lv_eq {x : Nat} {la : Option Nat} (hx : x < 65536) (hla : ∀ y, la = some y → y < 65536) : nI x = a_lv la ↔ la = some x := by
  cases la with
  | none => exact ⟨fun h => absurd (congrArg Int32.toInt h) (by rw [nI_toInt (by omega)]; show (x : Int) ≠ -1; omega), fun h => nomatch h⟩
  | some y =>
    have hy := hla y rfl
    refine ⟨fun h => ?_, fun h => by rw [Option.some.inj h]; rfl⟩
    have h1 := congrArg Int32.toInt h
    rw [show a_lv (some y) = nI y from rfl, nI_toInt (by omega), nI_toInt (by omega)] at h1
    rw [show y = x by omega]
def a_lat (ks : Nat → List Nat) (len fr : Nat) : Nat → Option Nat
  | 0 => none
  | i + 1 => if i < fr then none else if len < (ks i).length then some ((ks i).getD len 0) else a_lat ks len fr i
def a_fol (ks : Nat → List Nat) (len fr : Nat) : Nat → Nat
  | 0 => 0
  | i + 1 => if i < fr then 0 else a_fol ks len fr i + if len < (ks i).length ∧ a_lat ks len fr i ≠ some ((ks i).getD len 0) then 1 else 0
theorem a_lat_0 {ks : Nat → List Nat} {len fr : Nat} : a_lat ks len fr fr = none := by
  cases fr with
  | zero => rfl
  | succ n => rw [a_lat, if_pos (by omega)]
theorem a_fol_0 {ks : Nat → List Nat} {len fr : Nat} : a_fol ks len fr fr = 0 := by
  cases fr with
  | zero => rfl
  | succ n => rw [a_fol, if_pos (by omega)]
theorem a_lat_f {ks : Nat → List Nat} {len fr i : Nat} (h : fr ≤ i) (h1 : (ks i).length ≤ len) : a_lat ks len fr (i + 1) = a_lat ks len fr i := by
  rw [a_lat, if_neg (by omega), if_neg (by omega)]
theorem a_lat_t {ks : Nat → List Nat} {len fr i : Nat} (h : fr ≤ i) (h1 : len < (ks i).length) : a_lat ks len fr (i + 1) = some ((ks i).getD len 0) := by
  rw [a_lat, if_neg (by omega), if_pos h1]
theorem a_fol_f {ks : Nat → List Nat} {len fr i : Nat} (h : fr ≤ i) (h1 : ¬ (len < (ks i).length ∧ a_lat ks len fr i ≠ some ((ks i).getD len 0))) : a_fol ks len fr (i + 1) = a_fol ks len fr i := by
  rw [a_fol, if_neg (by omega), if_neg h1]; rfl
theorem a_fol_t {ks : Nat → List Nat} {len fr i : Nat} (h : fr ≤ i) (h1 : len < (ks i).length) (h2 : a_lat ks len fr i ≠ some ((ks i).getD len 0)) : a_fol ks len fr (i + 1) = a_fol ks len fr i + 1 := by
  rw [a_fol, if_neg (by omega), if_pos ⟨h1, h2⟩]
theorem a_fol_le (ks : Nat → List Nat) (len fr : Nat) : ∀ i, a_fol ks len fr i ≤ i
  | 0 => Nat.le_refl 0
  | i + 1 => by
    have := a_fol_le ks len fr i
    unfold a_fol
    split
    · omega
    · split <;> omega
/-- the same texts behind both -/
def a_alr (ks : Nat → List Nat) (f1 t1 n1 f2 t2 n2 : Nat) : Bool := decide (t1 - f1 = t2 - f2) && (List.range (t1 - f1)).all (fun i => decide ((ks (f1 + i)).drop n1 = (ks (f2 + i)).drop n2))
theorem a_alr_iff {ks : Nat → List Nat} {f1 t1 n1 f2 t2 n2 : Nat} : a_alr ks f1 t1 n1 f2 t2 n2 = true ↔ (t1 - f1 = t2 - f2 ∧ ∀ i, i < t1 - f1 → (ks (f1 + i)).drop n1 = (ks (f2 + i)).drop n2) := by
  unfold a_alr
  rw [Bool.and_eq_true, List.all_eq_true]
  exact ⟨fun h => ⟨of_decide_eq_true h.1, fun i hi => of_decide_eq_true (h.2 i (List.mem_range.mpr hi))⟩, fun h => ⟨decide_eq_true h.1, fun i hi => decide_eq_true (h.2 i (List.mem_range.mp hi))⟩⟩
/-- where the keys that begin alike end -/
def a_toF (ks : Nat → List Nat) (n fr len : Nat) : Nat → Nat → Nat
  | 0, t => t
  | f + 1, t => if t < n ∧ len ≤ t_lcp (ks t) (ks fr) then a_toF ks n fr len f (t + 1) else t
def a_hiF (ks : Nat → List Nat) (n fr len : Nat) : Nat → Nat → Nat → Nat
  | 0, _, m => m
  | f + 1, t, m => if t < n ∧ len ≤ t_lcp (ks t) (ks fr) then a_hiF ks n fr len f (t + 1) (if m < (ks t).length then (ks t).length else m) else m
def a_to (ks : Nat → List Nat) (n fr len : Nat) : Nat := a_toF ks n fr len (n - fr) fr
def a_he (ks : Nat → List Nat) (n fr len : Nat) : Nat := a_hiF ks n fr len (n - fr) fr len - len
theorem a_toF_end {ks : Nat → List Nat} {n fr len t : Nat} (h : ¬ (t < n ∧ len ≤ t_lcp (ks t) (ks fr))) : a_toF ks n fr len (n - t) t = t := by
  cases hf : n - t with
  | zero => rfl
  | succ u => rw [a_toF, if_neg h]
theorem a_hiF_end {ks : Nat → List Nat} {n fr len t m : Nat} (h : ¬ (t < n ∧ len ≤ t_lcp (ks t) (ks fr))) : a_hiF ks n fr len (n - t) t m = m := by
  cases hf : n - t with
  | zero => rfl
  | succ u => rw [a_hiF, if_neg h]
theorem a_toF_s {ks : Nat → List Nat} {n fr len t : Nat} (h : t < n) (h1 : len ≤ t_lcp (ks t) (ks fr)) : a_toF ks n fr len (n - t) t = a_toF ks n fr len (n - (t + 1)) (t + 1) := by
  rw [show n - t = (n - (t + 1)) + 1 by omega, a_toF, if_pos ⟨h, h1⟩]
theorem a_hiF_s {ks : Nat → List Nat} {n fr len t m : Nat} (h : t < n) (h1 : len ≤ t_lcp (ks t) (ks fr)) : a_hiF ks n fr len (n - t) t m = a_hiF ks n fr len (n - (t + 1)) (t + 1) (if m < (ks t).length then (ks t).length else m) := by
  rw [show n - t = (n - (t + 1)) + 1 by omega, a_hiF, if_pos ⟨h, h1⟩]
theorem a_toF_run (ks : Nat → List Nat) (n fr len : Nat) : ∀ (f t : Nat), t ≤ n → t ≤ a_toF ks n fr len f t ∧ a_toF ks n fr len f t ≤ n ∧ ∀ j, t ≤ j → j < a_toF ks n fr len f t → len ≤ t_lcp (ks j) (ks fr)
  | 0, t, h => ⟨Nat.le_refl t, h, fun j h1 (h2 : j < t) => by omega⟩
  | f + 1, t, h => by
    unfold a_toF
    split
    · rename_i h1
      obtain ⟨a1, a2, a3⟩ := a_toF_run ks n fr len f (t + 1) (by omega)
      refine ⟨by omega, a2, fun j h2 h3 => ?_⟩
      by_cases h4 : j = t
      · rw [h4]; exact h1.2
      · exact a3 j (by omega) h3
    · exact ⟨Nat.le_refl t, h, fun j h1 h2 => by omega⟩
theorem a_hiF_le (ks : Nat → List Nat) (n fr len : Nat) (hk : ∀ i, i < n → (ks i).length ≤ 8) : ∀ (f t m : Nat), m ≤ 8 → a_hiF ks n fr len f t m ≤ 8
  | 0, _, m, h => h
  | f + 1, t, m, h => by
    unfold a_hiF
    split
    · rename_i h1
      have := hk t h1.1
      exact a_hiF_le ks n fr len hk f (t + 1) _ (by split <;> omega)
    · exact h
theorem t_lcp_self (xs : List Nat) : t_lcp xs xs = xs.length := t_lcp_eq xs xs xs.length (Nat.le_refl _) (Nat.le_refl _) (fun _ _ => rfl) (Or.inl rfl)
theorem a_to_ok {ks : Nat → List Nat} {n fr len : Nat} (h : fr < n) (h1 : len ≤ (ks fr).length) : fr < a_to ks n fr len ∧ a_to ks n fr len ≤ n ∧ ∀ j, fr ≤ j → j < a_to ks n fr len → len ≤ (ks j).length := by
  unfold a_to
  rw [a_toF_s h (by rw [t_lcp_self]; exact h1)]
  obtain ⟨a1, a2, a3⟩ := a_toF_run ks n fr len (n - (fr + 1)) (fr + 1) (by omega)
  refine ⟨by omega, a2, fun j h2 h3 => ?_⟩
  by_cases h4 : j = fr
  · rw [h4]; exact h1
  · exact Nat.le_trans (a3 j (by omega) h3) (t_lcp_le1 _ _)
theorem a_he_le {ks : Nat → List Nat} {n fr len : Nat} (hk : ∀ i, i < n → (ks i).length ≤ 8) (h : len ≤ 8) : a_he ks n fr len ≤ 8 := by
  have := a_hiF_le ks n fr len hk (n - fr) fr len h
  unfold a_he
  omega
/-- the texts with which keys begin: key and length -/
def a_f (es : List (Nat × Nat)) (x : Nat) : Nat := (es.getD x (0, 0)).1
def a_n (es : List (Nat × Nat)) (x : Nat) : Nat := (es.getD x (0, 0)).2
def a_t (ks : Nat → List Nat) (n : Nat) (es : List (Nat × Nat)) (x : Nat) : Nat := a_to ks n (a_f es x) (a_n es x)
def a_h (ks : Nat → List Nat) (n : Nat) (es : List (Nat × Nat)) (x : Nat) : Nat := a_he ks n (a_f es x) (a_n es x)
def a_ok (ks : Nat → List Nat) (n : Nat) (es : List (Nat × Nat)) : Prop := ∀ x, x < es.length → a_f es x < n ∧ a_n es x ≤ (ks (a_f es x)).length
def aE (ks : Nat → List Nat) (n : Nat) (es : List (Nat × Nat)) (F T L G : Nat → Int32) : Prop := ∀ x, x < es.length → F x = nI (a_f es x) ∧ T x = nI (a_t ks n es x) ∧ L x = nI (a_n es x) ∧ G x = nI (a_h ks n es x)
theorem a_f_app {es : List (Nat × Nat)} {z : Nat × Nat} {x : Nat} (h : x < es.length) : a_f (es ++ [z]) x = a_f es x := by
  unfold a_f; rw [List.getD_eq_getElem?_getD, List.getD_eq_getElem?_getD, List.getElem?_append_left h]
theorem a_n_app {es : List (Nat × Nat)} {z : Nat × Nat} {x : Nat} (h : x < es.length) : a_n (es ++ [z]) x = a_n es x := by
  unfold a_n; rw [List.getD_eq_getElem?_getD, List.getD_eq_getElem?_getD, List.getElem?_append_left h]
theorem a_f_last {es : List (Nat × Nat)} {z : Nat × Nat} : a_f (es ++ [z]) es.length = z.1 := by
  unfold a_f; rw [List.getD_eq_getElem?_getD]; simp
theorem a_n_last {es : List (Nat × Nat)} {z : Nat × Nat} : a_n (es ++ [z]) es.length = z.2 := by
  unfold a_n; rw [List.getD_eq_getElem?_getD]; simp
theorem a_ok.app {ks : Nat → List Nat} {n i len : Nat} {es : List (Nat × Nat)} (h : a_ok ks n es) (hi : i < n) (hl : len ≤ (ks i).length) : a_ok ks n (es ++ [(i, len)]) := by
  intro x hx
  rw [List.length_append, List.length_singleton] at hx
  by_cases h1 : x = es.length
  · rw [h1, a_f_last, a_n_last]; exact ⟨hi, hl⟩
  · rw [a_f_app (by omega), a_n_app (by omega)]; exact h x (by omega)
theorem aE.app {ks : Nat → List Nat} {n i len t m : Nat} {es : List (Nat × Nat)} {F T L G : Nat → Int32} (h : aE ks n es F T L G) (ht : a_to ks n i len = t) (hm : a_he ks n i len = m) :
    aE ks n (es ++ [(i, len)]) (upd F es.length (nI i)) (upd T es.length (nI t)) (upd L es.length (nI len)) (upd G es.length (nI m)) := by
  intro x hx
  rw [List.length_append, List.length_singleton] at hx
  by_cases h1 : x = es.length
  · rw [h1, pk_us, pk_us, pk_us, pk_us]
    unfold a_t a_h
    rw [a_f_last, a_n_last, ht, hm]
    exact ⟨rfl, rfl, rfl, rfl⟩
  · rw [pk_un h1, pk_un h1, pk_un h1, pk_un h1]
    unfold a_t a_h
    rw [a_f_app (by omega), a_n_app (by omega)]
    exact h x (by omega)
def a_sh (ks : Nat → List Nat) (i : Nat) : Nat := if i = 0 then 0 else t_lcp (ks i) (ks (i - 1)) + 1
def a_seg (i sh : Nat) : Nat → List (Nat × Nat)
  | 0 => []
  | c + 1 => a_seg i sh c ++ [(i, sh + c)]
def a_pre (ks : Nat → List Nat) : Nat → List (Nat × Nat)
  | 0 => []
  | i + 1 => a_pre ks i ++ a_seg i (a_sh ks i) ((ks i).length + 1 - a_sh ks i)
theorem a_seg_len (i sh : Nat) : ∀ c, (a_seg i sh c).length = c
  | 0 => rfl
  | c + 1 => by rw [a_seg, List.length_append, a_seg_len i sh c, List.length_singleton]
theorem a_pre_len {ks : Nat → List Nat} {n : Nat} (hk : ∀ i, i < n → (ks i).length ≤ 8) : ∀ i, i ≤ n → (a_pre ks i).length ≤ 1 + 8 * i
  | 0, _ => by show 0 ≤ _; omega
  | i + 1, h => by
    have h1 := a_pre_len hk i (by omega)
    have h2 := hk i (by omega)
    rw [a_pre, List.length_append, a_seg_len]
    by_cases h3 : i = 0
    · subst h3
      have h4 : (a_pre ks 0).length = 0 := rfl
      omega
    · have h5 : 1 ≤ a_sh ks i := by unfold a_sh; rw [if_neg h3]; omega
      omega
/-- the states: one text for each -/
def a_al (ks : Nat → List Nat) (n : Nat) (es : List (Nat × Nat)) (x y : Nat) : Bool := a_alr ks (a_f es x) (a_t ks n es x) (a_n es x) (a_f es y) (a_t ks n es y) (a_n es y)
def a_kn (ks : Nat → List Nat) (n : Nat) (es : List (Nat × Nat)) (us : List Nat) (f0 x : Nat) : Bool := (List.range us.length).any (fun t => decide (f0 ≤ t) && a_al ks n es x (us.getD t 0))
theorem a_kn_iff {ks : Nat → List Nat} {n : Nat} {es : List (Nat × Nat)} {us : List Nat} {f0 x : Nat} : a_kn ks n es us f0 x = true ↔ ∃ t, f0 ≤ t ∧ t < us.length ∧ a_al ks n es x (us.getD t 0) = true := by
  unfold a_kn
  rw [List.any_eq_true]
  refine ⟨fun ⟨t, h1, h2⟩ => ?_, fun ⟨t, h1, h2, h3⟩ => ⟨t, List.mem_range.mpr h2, by rw [decide_eq_true h1, h3]; rfl⟩⟩
  rw [Bool.and_eq_true] at h2
  exact ⟨t, of_decide_eq_true h2.1, List.mem_range.mp h1, h2.2⟩
theorem a_pig : ∀ (P : Nat) (us : List Nat), us.Nodup → (∀ u, u ∈ us → u < P) → us.length ≤ P
  | 0, us, _, h => by
    cases us with
    | nil => exact Nat.le_refl 0
    | cons a b => exact absurd (h a (by simp)) (Nat.not_lt_zero _)
  | P + 1, us, hn, h => by
    have h1 := a_pig P (us.erase P) (hn.erase P) (fun u hu => by
      have h2 := hn.mem_erase_iff.mp hu
      have h3 := h u h2.2
      have h4 := h2.1
      omega)
    rw [List.length_erase] at h1
    split at h1 <;> omega
def a_stI (ks : Nat → List Nat) (n : Nat) (es : List (Nat × Nat)) (h x : Nat) (us : List Nat) : Prop :=
  us.Nodup ∧ (∀ u, u ∈ us → u < es.length ∧ (a_h ks n es u < h ∨ a_h ks n es u = h ∧ u < x)) ∧ us.Pairwise (fun a b => a_h ks n es a = a_h ks n es b → ¬ a_al ks n es b a = true) ∧
  ∀ y, y < es.length → a_h ks n es y < h ∨ a_h ks n es y = h ∧ y < x → ∃ u, u ∈ us ∧ a_h ks n es u = a_h ks n es y ∧ (y = u ∨ a_al ks n es y u = true)
/-- the texts up to place f0 are lower than h, those from there on of height h -/
def a_lo (ks : Nat → List Nat) (n : Nat) (es : List (Nat × Nat)) (h f0 : Nat) (us : List Nat) : Prop := f0 ≤ us.length ∧ (∀ t, t < f0 → a_h ks n es (us.getD t 0) < h) ∧ ∀ t, f0 ≤ t → t < us.length → a_h ks n es (us.getD t 0) = h
theorem a_mem {us : List Nat} {t : Nat} (h : t < us.length) : us.getD t 0 ∈ us := by
  rw [List.getD_eq_getElem?_getD, List.getElem?_eq_getElem h]
  exact List.getElem_mem h
theorem a_stI.lt {ks : Nat → List Nat} {n h x : Nat} {es : List (Nat × Nat)} {us : List Nat} (hs : a_stI ks n es h x us) (hx : x < es.length) (hh : a_h ks n es x = h) : us.length < es.length := by
  obtain ⟨h1, h2, h3, h4⟩ := hs
  have hm : x ∉ us := fun h9 => by
    have := (h2 x h9).2
    omega
  have h5 := a_pig es.length (x :: us) (List.nodup_cons.mpr ⟨hm, h1⟩) (fun u hu => by
    rcases List.mem_cons.mp hu with h6 | h6
    · rw [h6]; exact hx
    · exact (h2 u h6).1)
  rw [List.length_cons] at h5
  omega
theorem a_stI.skip {ks : Nat → List Nat} {n h x : Nat} {es : List (Nat × Nat)} {us : List Nat} (hs : a_stI ks n es h x us) (hh : ¬ a_h ks n es x = h) : a_stI ks n es h (x + 1) us := by
  obtain ⟨h1, h2, h3, h4⟩ := hs
  refine ⟨h1, fun u hu => ⟨(h2 u hu).1, by have := (h2 u hu).2; omega⟩, h3, fun y hy h5 => h4 y hy ?_⟩
  rcases h5 with h5 | h5
  · exact Or.inl h5
  · by_cases h6 : y = x
    · rw [h6] at h5; exact absurd h5.1 hh
    · exact Or.inr ⟨h5.1, by omega⟩
theorem a_stI.known {ks : Nat → List Nat} {n h x f0 : Nat} {es : List (Nat × Nat)} {us : List Nat} (hs : a_stI ks n es h x us) (hl : a_lo ks n es h f0 us) (hh : a_h ks n es x = h) (hk : a_kn ks n es us f0 x = true) : a_stI ks n es h (x + 1) us := by
  obtain ⟨h1, h2, h3, h4⟩ := hs
  refine ⟨h1, fun u hu => ⟨(h2 u hu).1, by have := (h2 u hu).2; omega⟩, h3, fun y hy h5 => ?_⟩
  by_cases h6 : y = x
  · obtain ⟨t, k1, k2, k3⟩ := a_kn_iff.mp hk
    exact ⟨us.getD t 0, a_mem k2, by rw [hl.2.2 t k1 k2, h6, hh], Or.inr (by rw [h6]; exact k3)⟩
  · exact h4 y hy (by omega)
theorem a_stI.add {ks : Nat → List Nat} {n h x f0 : Nat} {es : List (Nat × Nat)} {us : List Nat} (hs : a_stI ks n es h x us) (hl : a_lo ks n es h f0 us) (hx : x < es.length) (hh : a_h ks n es x = h) (hk : ¬ a_kn ks n es us f0 x = true) : a_stI ks n es h (x + 1) (us ++ [x]) := by
  obtain ⟨h1, h2, h3, h4⟩ := hs
  have hm : x ∉ us := fun h9 => by
    have := (h2 x h9).2
    omega
  refine ⟨?_, fun u hu => ?_, ?_, fun y hy h5 => ?_⟩
  · rw [List.nodup_append]
    refine ⟨h1, by simp, fun a ha b hb => ?_⟩
    rw [List.mem_singleton.mp hb]
    exact fun h9 => hm (h9 ▸ ha)
  · rcases List.mem_append.mp hu with h6 | h6
    · exact ⟨(h2 u h6).1, by have := (h2 u h6).2; omega⟩
    · rw [List.mem_singleton.mp h6]
      exact ⟨hx, Or.inr ⟨hh, by omega⟩⟩
  · rw [List.pairwise_append]
    refine ⟨h3, by simp, fun a ha b hb h7 h8 => ?_⟩
    rw [List.mem_singleton.mp hb] at h7 h8
    obtain ⟨t, ht, hat⟩ := List.getElem_of_mem ha
    have e1 : us.getD t 0 = a := by rw [List.getD_eq_getElem?_getD, List.getElem?_eq_getElem ht, hat]; rfl
    rcases Nat.lt_or_ge t f0 with h9 | h9
    · have := hl.2.1 t h9
      rw [e1] at this
      omega
    · exact hk (a_kn_iff.mpr ⟨t, h9, ht, by rw [e1]; exact h8⟩)
  · by_cases h6 : y = x
    · exact ⟨x, by simp, by rw [h6], Or.inl h6⟩
    · obtain ⟨u, k1, k2⟩ := h4 y hy (by omega)
      exact ⟨u, List.mem_append.mpr (Or.inl k1), k2⟩
theorem a_lo.add {ks : Nat → List Nat} {n h x f0 : Nat} {es : List (Nat × Nat)} {us : List Nat} (hl : a_lo ks n es h f0 us) (hh : a_h ks n es x = h) : a_lo ks n es h f0 (us ++ [x]) := by
  obtain ⟨h1, h2, h3⟩ := hl
  refine ⟨by rw [List.length_append]; omega, fun t ht => ?_, fun t k1 k2 => ?_⟩
  · rw [t_get_app (by omega)]; exact h2 t ht
  · rw [List.length_append, List.length_singleton] at k2
    by_cases h4 : t = us.length
    · rw [h4, t_get_last]; exact hh
    · rw [t_get_app (by omega)]; exact h3 t k1 (by omega)
theorem a_stI.next {ks : Nat → List Nat} {n h : Nat} {es : List (Nat × Nat)} {us : List Nat} (hs : a_stI ks n es h es.length us) : a_stI ks n es (h + 1) 0 us := by
  obtain ⟨h1, h2, h3, h4⟩ := hs
  exact ⟨h1, fun u hu => ⟨(h2 u hu).1, by have := (h2 u hu).2; omega⟩, h3, fun y hy h5 => h4 y hy (by omega)⟩
theorem a_stI.lo {ks : Nat → List Nat} {n h : Nat} {es : List (Nat × Nat)} {us : List Nat} (hs : a_stI ks n es h 0 us) : a_lo ks n es h us.length us :=
  ⟨Nat.le_refl _, fun t ht => by have := (hs.2.1 _ (a_mem ht)).2; omega, fun t k1 k2 => by omega⟩
theorem a_stI_0 {ks : Nat → List Nat} {n : Nat} {es : List (Nat × Nat)} : a_stI ks n es 0 0 [] := ⟨List.nodup_nil, fun u hu => absurd hu (by simp), List.Pairwise.nil, fun y hy h5 => by omega⟩
/-- a full set of states -/
def a_fin (ks : Nat → List Nat) (n : Nat) (es : List (Nat × Nat)) (us : List Nat) : Prop :=
  us.Nodup ∧ (∀ u, u ∈ us → u < es.length) ∧ us.Pairwise (fun a b => a_h ks n es a = a_h ks n es b → ¬ a_al ks n es b a = true) ∧ ∀ y, y < es.length → ∃ u, u ∈ us ∧ a_h ks n es u = a_h ks n es y ∧ (y = u ∨ a_al ks n es y u = true)
theorem a_stI.fin {ks : Nat → List Nat} {n : Nat} {es : List (Nat × Nat)} {us : List Nat} (hs : a_stI ks n es 9 0 us) (hk : ∀ i, i < n → (ks i).length ≤ 8) (ho : a_ok ks n es) : a_fin ks n es us := by
  obtain ⟨h1, h2, h3, h4⟩ := hs
  refine ⟨h1, fun u hu => (h2 u hu).1, h3, fun y hy => h4 y hy (Or.inl ?_)⟩
  have a1 := ho y hy
  have a2 := hk _ a1.1
  have := a_he_le (ks := ks) (n := n) (fr := a_f es y) (len := a_n es y) hk (by omega)
  unfold a_h
  omega
def a_sum (f : Nat → Nat) (us : List Nat) : Nat := (us.map f).sum
theorem a_sum_app (f : Nat → Nat) (us : List Nat) (x : Nat) : a_sum f (us ++ [x]) = a_sum f us + f x := by
  unfold a_sum; rw [List.map_append, List.sum_append]; simp
/-- the steps from a state, and whether it is final -/
def a_stp (ks : Nat → List Nat) (n : Nat) (es : List (Nat × Nat)) (x : Nat) : Nat := a_fol ks (a_n es x) (a_f es x) (a_t ks n es x)
def a_fnl (ks : Nat → List Nat) (es : List (Nat × Nat)) (x : Nat) : Nat := if (ks (a_f es x)).length = a_n es x then 1 else 0
def a_rn (ks : Nat → List Nat) (ys : List Nat) : Nat → Nat
  | 0 => t_lcp (ks 0) ys
  | i + 1 => if a_rn ks ys i < t_lcp (ks (i + 1)) ys then t_lcp (ks (i + 1)) ys else a_rn ks ys i
theorem a_rn_le {ks : Nat → List Nat} {ys : List Nat} : ∀ i, a_rn ks ys i ≤ ys.length
  | 0 => t_lcp_le2 _ _
  | i + 1 => by
    have h1 := a_rn_le (ks := ks) (ys := ys) i
    have h2 := t_lcp_le2 (ks (i + 1)) ys
    unfold a_rn
    split <;> omega
/-- how far a text can be followed -/
def a_rv (ks : Nat → List Nat) (ys : List Nat) : Nat → Int32
  | 0 => -1
  | i + 1 => nI (a_rn ks ys i)
theorem a_rv_s {ks : Nat → List Nat} {ys : List Nat} (hy : ys.length ≤ 8) (i : Nat) : (if a_rv ks ys i < nI (t_lcp (ks i) ys) then nI (t_lcp (ks i) ys) else a_rv ks ys i) = a_rv ks ys (i + 1) := by
  have h2 := t_lcp_le2 (ks i) ys
  cases i with
  | zero =>
    rw [if_pos]
    · rfl
    · rw [Int32.lt_iff_toInt_lt, nI_toInt (by omega)]
      show (-1 : Int) < _
      omega
  | succ i =>
    have h3 := a_rn_le (ks := ks) (ys := ys) i
    show (if nI (a_rn ks ys i) < _ then _ else nI (a_rn ks ys i)) = nI (a_rn ks ys (i + 1))
    rw [gn_max (by omega) (by omega)]
    rfl
def a_ac (ks : Nat → List Nat) (n : Nat) (ys : List Nat) : Bool := (List.range n).any (fun i => decide (ks i = ys))
theorem a_ac_iff {ks : Nat → List Nat} {n : Nat} {ys : List Nat} : a_ac ks n ys = true ↔ ∃ i, i < n ∧ ks i = ys := by
  unfold a_ac
  rw [List.any_eq_true]
  exact ⟨fun ⟨t, h1, h2⟩ => ⟨t, List.mem_range.mp h1, of_decide_eq_true h2⟩, fun ⟨t, h1, h2⟩ => ⟨t, List.mem_range.mpr h1, decide_eq_true h2⟩⟩
theorem a_t_ok {ks : Nat → List Nat} {n : Nat} {es : List (Nat × Nat)} (h : a_ok ks n es) {x : Nat} (hx : x < es.length) : a_f es x < a_t ks n es x ∧ a_t ks n es x ≤ n ∧ ∀ j, a_f es x ≤ j → j < a_t ks n es x → a_n es x ≤ (ks j).length := a_to_ok (h x hx).1 (h x hx).2
/-- the texts listed so far, in the midst of key i -/
def a_es (ks : Nat → List Nat) (i len : Nat) : List (Nat × Nat) := a_pre ks i ++ a_seg i (a_sh ks i) (len - a_sh ks i)
theorem a_es_0 (ks : Nat → List Nat) (i : Nat) : a_es ks i (a_sh ks i) = a_pre ks i := by unfold a_es; rw [Nat.sub_self, a_seg, List.append_nil]
theorem a_es_s {ks : Nat → List Nat} {i len : Nat} (h : a_sh ks i ≤ len) : a_es ks i len ++ [(i, len)] = a_es ks i (len + 1) := by
  unfold a_es; rw [show len + 1 - a_sh ks i = (len - a_sh ks i) + 1 by omega, a_seg, show a_sh ks i + (len - a_sh ks i) = len by omega, List.append_assoc]
theorem a_es_end {ks : Nat → List Nat} {i len : Nat} (h : (ks i).length < len) (h1 : len ≤ (ks i).length + 1 ∨ len = a_sh ks i) : a_es ks i len = a_pre ks (i + 1) := by
  unfold a_es; rw [a_pre, show len - a_sh ks i = (ks i).length + 1 - a_sh ks i by omega]
theorem a_es_len {ks : Nat → List Nat} {n i len : Nat} (hk : ∀ j, j < n → (ks j).length ≤ 8) (hn : n ≤ 64) (hi : i < n) (h : a_sh ks i ≤ len) (h1 : len ≤ (ks i).length) : (a_es ks i len).length < 513 := by
  have a1 := a_pre_len hk i (by omega)
  have a2 := hk i hi
  unfold a_es
  rw [List.length_append, a_seg_len]
  by_cases h3 : i = 0
  · subst h3
    have h4 : (a_pre ks 0).length = 0 := rfl
    omega
  · have h5 : 1 ≤ a_sh ks i := by unfold a_sh; rw [if_neg h3]; omega
    omega
theorem a_pre_ok {ks : Nat → List Nat} {n : Nat} : ∀ i, i ≤ n → a_ok ks n (a_pre ks i)
  | 0, _ => fun x hx => absurd hx (Nat.not_lt_zero x)
  | i + 1, h => by
    have h1 := a_pre_ok (ks := ks) i (by omega : i ≤ n)
    have h2 : ∀ c, c ≤ (ks i).length + 1 - a_sh ks i → a_ok ks n (a_pre ks i ++ a_seg i (a_sh ks i) c) := by
      intro c
      induction c with
      | zero => intro _; rw [a_seg, List.append_nil]; exact h1
      | succ c ih =>
        intro hc
        rw [a_seg, ← List.append_assoc]
        exact (ih (by omega)).app (by omega) (by omega)
    exact h2 _ (Nat.le_refl _)
theorem a_h_le {ks : Nat → List Nat} {n : Nat} {es : List (Nat × Nat)} (hk : ∀ i, i < n → (ks i).length ≤ 8) (ho : a_ok ks n es) {y : Nat} (hy : y < es.length) : a_h ks n es y ≤ 8 := by
  have a1 := ho y hy
  have a2 := hk _ a1.1
  exact a_he_le (ks := ks) (n := n) (fr := a_f es y) (len := a_n es y) hk (by omega)
/-- the first i keys written over -/
def a_cp (km : Nat → List Nat) (f0 : Nat) (ks : Nat → List Nat) (i : Nat) : Nat → List Nat := fun j => if j < i then km (f0 + j) else ks j
theorem a_cp_0 (km : Nat → List Nat) (f0 : Nat) (ks : Nat → List Nat) : a_cp km f0 ks 0 = ks := by
  funext j; unfold a_cp; rw [if_neg (by omega)]
theorem aK.cp {D : va_G} {q : Nat → ClassId} {H H1 : Heap} {ab i f0 : Nat} {km ks : Nat → List Nat} (h : aK D q H ab (a_cp km f0 ks i)) (hi : i < 64) (h1 : kA D q H1 (ab + 2 + 2 * i) (km (f0 + i))) (fr : ∀ p : Nat, ¬ (p = ab + 2 + 2 * i ∨ p = ab + 2 + 2 * i + 1) → H1[p]? = H[p]?) : aK D q H1 ab (a_cp km f0 ks (i + 1)) := by
  obtain ⟨⟨f, hf, hfg⟩, hks⟩ := h
  refine ⟨⟨f, va_at.kept hf (fr _ (by omega)), hfg⟩, fun j hj => ?_⟩
  unfold a_cp
  by_cases h2 : j = i
  · rw [h2, if_pos (by omega)]; exact h1
  · have h3 := (hks j hj).kept (fr _ (by omega)) (fr _ (by omega))
    unfold a_cp at h3
    by_cases h4 : j < i
    · rw [if_pos h4] at h3; rw [if_pos (by omega)]; exact h3
    · rw [if_neg h4] at h3; rw [if_neg (by omega)]; exact h3
/-- the whole automaton: of n keys ks, its states us -/
def aA (D : va_G) (q : Nat → ClassId) (H : Heap) (ab n : Nat) (ks : Nat → List Nat) (us : List Nat) : Prop :=
  va_at D CL (ab, .inr (5, [.ref (ab + 1), .int (nI n), .ref (ab + 130), .ref (ab + 131), .ref (ab + 132), .ref (ab + 133), .int (nI (a_pre ks n).length), .ref (ab + 134), .int (nI us.length), .int (nI (a_sum (a_stp ks n (a_pre ks n)) us)), .int (nI (a_sum (a_fnl ks (a_pre ks n)) us))])) H ∧ aK D q H ab ks ∧ n ≤ 64 ∧
  (∃ F T L G U : Nat → Int32, va_at D CL (ab + 130, .inl (q 0, 513, .inl F)) H ∧ va_at D CL (ab + 131, .inl (q 0, 513, .inl T)) H ∧ va_at D CL (ab + 132, .inl (q 0, 513, .inl L)) H ∧ va_at D CL (ab + 133, .inl (q 0, 513, .inl G)) H ∧ va_at D CL (ab + 134, .inl (q 0, 513, .inl U)) H) ∧ a_fin ks n (a_pre ks n) us
theorem aA.kept {D : va_G} {q : Nat → ClassId} {H H1 : Heap} {ab n : Nat} {ks : Nat → List Nat} {us : List Nat} (h : aA D q H ab n ks us) (hk : ∀ p : Nat, ab ≤ p → p ≤ ab + 134 → H1[p]? = H[p]?) : aA D q H1 ab n ks us := by
  obtain ⟨h1, h2, h3, ⟨F, T, L, G, U, k1, k2, k3, k4, k5⟩, h4⟩ := h
  exact ⟨va_at.kept h1 (hk _ (by omega) (by omega)), h2.kept (fun p a b => hk p (by omega) (by omega)), h3, ⟨F, T, L, G, U, va_at.kept k1 (hk _ (by omega) (by omega)), va_at.kept k2 (hk _ (by omega) (by omega)), va_at.kept k3 (hk _ (by omega) (by omega)), va_at.kept k4 (hk _ (by omega) (by omega)), va_at.kept k5 (hk _ (by omega) (by omega))⟩, h4⟩
theorem a_fin_0 {ks : Nat → List Nat} : a_fin ks 0 (a_pre ks 0) [] := ⟨List.nodup_nil, fun u hu => absurd hu (by simp), List.Pairwise.nil, fun y hy => absurd hy (Nat.not_lt_zero y)⟩
end
section
/-! the class Automaton: printed by wip/specs/aut.py -/
set_option maxHeartbeats 4000000 in
set_option maxRecDepth 100000 in
theorem c_Automaton_countFollowing (l : Launch) (D : va_G) (q : Nat → ClassId) (H : Heap) (ab n P S sp fi : Nat) (ks : Nat → List Nat) (ho : va_at D CL (ab, .inr (5, [.ref (ab + 1), .int (nI n), .ref (ab + 130), .ref (ab + 131), .ref (ab + 132), .ref (ab + 133), .int (nI P), .ref (ab + 134), .int (nI S), .int (nI sp), .int (nI fi)])) H) (hk : aK D q H ab ks) (hn : n ≤ 64) (F T L : Nat → Int32) (hF : va_at D CL (ab + 130, .inl (q 0, 513, .inl F)) H) (hT : va_at D CL (ab + 131, .inl (q 0, 513, .inl T)) H) (hL0 : va_at D CL (ab + 132, .inl (q 0, 513, .inl L)) H) (x : Nat) (hx : x < 513) (fr to len : Nat) (hFx : F x = nI fr) (hTx : T x = nI to) (hLx : L x = nI len) (hft : fr ≤ to) (hto : to ≤ 64) (hlen : len ≤ 8) : gC l y_Automaton_countFollowing (Cond.code y_Automaton_countFollowing b_Automaton_countFollowing 6 (some .int) :: gWS) (gR 0 0 0 0) D CL (gY q) (fun _ => True) [.ref ab, .int (nI x)] H (fun v H1 => v = some (.int (nI (a_fol ks len fr to))) ∧ H1 = H) 0 0 (fun _ => False) := by
  refine gC.ofW R_Automaton "countFollowing" (by decide) rfl rfl ?_
  intro p e s m below meth c hadm X hE hH B hne
  refine g_entry [some (.ref ab), some (.int (nI x)), none, none, none, none] rfl rfl (Nat.le_of_ble_eq_true rfl) (fun ls hl => ?_)
  have hk0 := hk
  obtain ⟨⟨kf, hkf, hkg⟩, hks⟩ := hk
  have hk := hk0
  refine lv_aload_n X.1.1 X.1.2.1 d_Automaton_countFollowing_0 rfl (gl_at hl rfl) ?_
  refine g_get X kc_Automaton ho 4 (by decide) lk_Automaton_25 rfl d_Automaton_countFollowing_1 ?_
  refine lv_iload_n X.1.1 X.1.2.1 d_Automaton_countFollowing_4 rfl (gl_at hl rfl) ?_
  refine g_iald X 0 hL0 rfl x (by omega) (by decide) d_Automaton_countFollowing_5 ?_
  refine g_top (nI len) hLx ?_
  refine g_istn X.1.1 X.1.2.1 hl 2 d_Automaton_countFollowing_6 rfl (Nat.le_of_ble_eq_true rfl) rfl (fun ls hl => ?_)
  refine lv_iconst (v := nI 0) X.1.1 X.1.2.1 d_Automaton_countFollowing_7 (by decide) ?_
  refine g_istn X.1.1 X.1.2.1 hl 3 d_Automaton_countFollowing_8 rfl (Nat.le_of_ble_eq_true rfl) rfl (fun ls hl => ?_)
  refine lv_iconst (v := (-1)) X.1.1 X.1.2.1 d_Automaton_countFollowing_9 (by decide) ?_
  refine g_ist X.1.1 X.1.2.1 hl 4 d_Automaton_countFollowing_10 (Nat.le_of_ble_eq_true rfl) rfl (fun ls hl => ?_)
  refine lv_aload_n X.1.1 X.1.2.1 d_Automaton_countFollowing_12 rfl (gl_at hl rfl) ?_
  refine g_get X kc_Automaton ho 2 (by decide) lk_Automaton_18 rfl d_Automaton_countFollowing_13 ?_
  refine lv_iload_n X.1.1 X.1.2.1 d_Automaton_countFollowing_16 rfl (gl_at hl rfl) ?_
  refine g_iald X 0 hF rfl x (by omega) (by decide) d_Automaton_countFollowing_17 ?_
  refine g_top (nI fr) hFx ?_
  refine g_ist X.1.1 X.1.2.1 hl 5 d_Automaton_countFollowing_18 (Nat.le_of_ble_eq_true rfl) rfl (fun ls hl => ?_)
  have loop20 : ∀ (fu : Nat) (i : Nat) (k : Nat) (la : Option Nat) (ls : Array Slot), to - i < fu → (fr ≤ i) → (i ≤ to) → (k = a_fol ks len fr i) → (la = a_lat ks len fr i) → (∀ y, la = some y → y < 65536) →  gl ls [some (.ref ab), some (.int (nI x)), some (.int (nI len)), some (.int (nI k)), some (.int (a_lv la)), some (.int (nI i))] → W p l e (gR 0 0 0 0) s m ([.ref ab, .int (nI x)] : List Value).toArray below meth c H [] 0 0 (gQ below ([.ref ab, .int (nI x)] : List Value).toArray s (fun v H1 => v = some (.int (nI (a_fol ks len fr to))) ∧ H1 = H) 0 0 (fun _ => False)) (F0 m 20 ls []) := by
    intro fu
    induction fu with
    | zero => intro i k la ls hmu; omega
    | succ fu ih20 =>
      intro i k la ls hmu20 hi20_0 hi20_1 hi20_2 hi20_3 hi20_4 hl
      refine lv_iload X.1.1 X.1.2.1 d_Automaton_countFollowing_20 (gl_at hl rfl) ?_
      refine lv_aload_n X.1.1 X.1.2.1 d_Automaton_countFollowing_22 rfl (gl_at hl rfl) ?_
      refine g_get X kc_Automaton ho 3 (by decide) lk_Automaton_22 rfl d_Automaton_countFollowing_23 ?_
      refine lv_iload_n X.1.1 X.1.2.1 d_Automaton_countFollowing_26 rfl (gl_at hl rfl) ?_
      refine g_iald X 0 hT rfl x (by omega) (by decide) d_Automaton_countFollowing_27 ?_
      refine g_top (nI to) hTx ?_
      refine gn_ge X.1.1 X.1.2.1 i to (by omega) (by omega) d_Automaton_countFollowing_28 rfl (fun hc28 => ?_) (fun hc28 => ?_)
      · have e9 : i = to := by omega
        rw [e9] at hi20_2
        refine lv_iload_n X.1.1 X.1.2.1 d_Automaton_countFollowing_85 rfl (gl_at hl rfl) ?_
        exact g_iret X B ⟨by rw [hi20_2], rfl⟩ (fun _ h => by cases h) d_Automaton_countFollowing_86 (by omega) (by omega)
      · obtain ⟨hki, ⟨fl, hli, hfl⟩, hxl, hxc⟩ := hks i (by omega)
        refine lv_aload_n X.1.1 X.1.2.1 d_Automaton_countFollowing_31 rfl (gl_at hl rfl) ?_
        refine g_get X kc_Automaton ho 0 (by decide) lk_Automaton_11 rfl d_Automaton_countFollowing_32 ?_
        refine lv_iload X.1.1 X.1.2.1 d_Automaton_countFollowing_35 (gl_at hl rfl) ?_
        refine g_aald X 3 hkf rfl i (by omega) (by decide) (v := .ref (ab + 2 + 2 * i)) (by rw [hkg _ (by omega)]; rfl) d_Automaton_countFollowing_37 ?_
        refine g_get X kc_Key hki 1 (by decide) lk_Automaton_70 rfl d_Automaton_countFollowing_38 ?_
        refine lv_iload_n X.1.1 X.1.2.1 d_Automaton_countFollowing_41 rfl (gl_at hl rfl) ?_
        refine gn_le X.1.1 X.1.2.1 ((ks i).length) len (by omega) (by omega) d_Automaton_countFollowing_42 rfl (fun hc42 => ?_) (fun hc42 => ?_)
        · refine g_iinc X.1.1 X.1.2.1 (nI (i + 1)) hl 5 d_Automaton_countFollowing_79 rfl (nI_1 _) rfl (fun ls hl => ?_)
          refine lv_goto X.1.1 X.1.2.1 d_Automaton_countFollowing_82 rfl ?_
          exact ih20 (i + 1) k la ls (by omega) (by omega) (by omega) (by rw [a_fol_f (by omega) (fun h => by first | (have h1 := h.1; omega) | exact h.2 (by rw [← hi20_3]; exact (a_lv_eq e1 hi20_4).mp hc59)), hi20_2]) (by first | (rw [a_lat_f (by omega) (by omega)]; exact hi20_3) | (rw [a_lat_t (by omega) (by omega)]; exact (a_lv_eq e1 hi20_4).mp hc59)) hi20_4 hl
        · refine lv_aload_n X.1.1 X.1.2.1 d_Automaton_countFollowing_45 rfl (gl_at hl rfl) ?_
          refine g_get X kc_Automaton ho 0 (by decide) lk_Automaton_11 rfl d_Automaton_countFollowing_46 ?_
          refine lv_iload X.1.1 X.1.2.1 d_Automaton_countFollowing_49 (gl_at hl rfl) ?_
          refine g_aald X 3 hkf rfl i (by omega) (by decide) (v := .ref (ab + 2 + 2 * i)) (by rw [hkg _ (by omega)]; rfl) d_Automaton_countFollowing_51 ?_
          refine g_get X kc_Key hki 0 (by decide) lk_Automaton_111 rfl d_Automaton_countFollowing_52 ?_
          refine lv_iload_n X.1.1 X.1.2.1 d_Automaton_countFollowing_55 rfl (gl_at hl rfl) ?_
          refine g_iald X 0 hli rfl len (by omega) (by decide) d_Automaton_countFollowing_56 ?_
          have e1 := t_lt hxc len
          refine g_top (nI ((ks i).getD len 0)) (hfl _ (by omega)) ?_
          refine lv_iload X.1.1 X.1.2.1 d_Automaton_countFollowing_57 (gl_at hl rfl) ?_
          refine lv_icmp_eq X.1.1 X.1.2.1 d_Automaton_countFollowing_59 rfl (fun hc59 => ?_) (fun hc59 => ?_)
          · refine g_iinc X.1.1 X.1.2.1 (nI (i + 1)) hl 5 d_Automaton_countFollowing_79 rfl (nI_1 _) rfl (fun ls hl => ?_)
            refine lv_goto X.1.1 X.1.2.1 d_Automaton_countFollowing_82 rfl ?_
            exact ih20 (i + 1) k la ls (by omega) (by omega) (by omega) (by rw [a_fol_f (by omega) (fun h => by first | (have h1 := h.1; omega) | exact h.2 (by rw [← hi20_3]; exact (a_lv_eq e1 hi20_4).mp hc59)), hi20_2]) (by first | (rw [a_lat_f (by omega) (by omega)]; exact hi20_3) | (rw [a_lat_t (by omega) (by omega)]; exact (a_lv_eq e1 hi20_4).mp hc59)) hi20_4 hl
          · refine lv_aload_n X.1.1 X.1.2.1 d_Automaton_countFollowing_62 rfl (gl_at hl rfl) ?_
            refine g_get X kc_Automaton ho 0 (by decide) lk_Automaton_11 rfl d_Automaton_countFollowing_63 ?_
            refine lv_iload X.1.1 X.1.2.1 d_Automaton_countFollowing_66 (gl_at hl rfl) ?_
            refine g_aald X 3 hkf rfl i (by omega) (by decide) (v := .ref (ab + 2 + 2 * i)) (by rw [hkg _ (by omega)]; rfl) d_Automaton_countFollowing_68 ?_
            refine g_get X kc_Key hki 0 (by decide) lk_Automaton_111 rfl d_Automaton_countFollowing_69 ?_
            refine lv_iload_n X.1.1 X.1.2.1 d_Automaton_countFollowing_72 rfl (gl_at hl rfl) ?_
            refine g_iald X 0 hli rfl len (by omega) (by decide) d_Automaton_countFollowing_73 ?_
            refine g_top (nI ((ks i).getD len 0)) (hfl _ (by omega)) ?_
            refine g_ist X.1.1 X.1.2.1 hl 4 d_Automaton_countFollowing_74 (Nat.le_of_ble_eq_true rfl) rfl (fun ls hl => ?_)
            refine g_iinc X.1.1 X.1.2.1 (nI (k + 1)) hl 3 d_Automaton_countFollowing_76 rfl (nI_1 _) rfl (fun ls hl => ?_)
            refine g_iinc X.1.1 X.1.2.1 (nI (i + 1)) hl 5 d_Automaton_countFollowing_79 rfl (nI_1 _) rfl (fun ls hl => ?_)
            refine lv_goto X.1.1 X.1.2.1 d_Automaton_countFollowing_82 rfl ?_
            exact ih20 (i + 1) (k + 1) (some ((ks i).getD len 0)) ls (by omega) (by omega) (by omega) (by rw [a_fol_t (by omega) (by omega) (by rw [← hi20_3]; exact fun h => hc59 ((a_lv_eq e1 hi20_4).mpr h)), hi20_2]) (by rw [a_lat_t (by omega) (by omega)]) (fun y h => by rw [← Option.some.inj h]; exact e1) hl
  exact loop20 _ fr 0 none ls (Nat.lt_succ_self _) (Nat.le_refl _) hft a_fol_0.symm a_lat_0.symm (fun y h => nomatch h) hl

set_option maxHeartbeats 4000000 in
set_option maxRecDepth 100000 in
theorem c_Automaton_leadAlike (l : Launch) (D : va_G) (q : Nat → ClassId) (H : Heap) (ab n P S sp fi : Nat) (ks : Nat → List Nat) (ho : va_at D CL (ab, .inr (5, [.ref (ab + 1), .int (nI n), .ref (ab + 130), .ref (ab + 131), .ref (ab + 132), .ref (ab + 133), .int (nI P), .ref (ab + 134), .int (nI S), .int (nI sp), .int (nI fi)])) H) (hk : aK D q H ab ks) (hn : n ≤ 64) (F T L : Nat → Int32) (hF : va_at D CL (ab + 130, .inl (q 0, 513, .inl F)) H) (hT : va_at D CL (ab + 131, .inl (q 0, 513, .inl T)) H) (hL0 : va_at D CL (ab + 132, .inl (q 0, 513, .inl L)) H) (x y : Nat) (hx : x < 513) (hy : y < 513) (f1 t1 n1 : Nat) (hF1 : F x = nI f1) (hT1 : T x = nI t1) (hL1 : L x = nI n1) (hf1 : f1 ≤ t1) (ht1 : t1 ≤ 64) (hn1 : ∀ j, f1 ≤ j → j < t1 → n1 ≤ (ks j).length) (f2 t2 n2 : Nat) (hF2 : F y = nI f2) (hT2 : T y = nI t2) (hL2 : L y = nI n2) (hf2 : f2 ≤ t2) (ht2 : t2 ≤ 64) (hn2 : ∀ j, f2 ≤ j → j < t2 → n2 ≤ (ks j).length) : gC l y_Automaton_leadAlike (Cond.code y_Automaton_leadAlike b_Automaton_leadAlike 7 (some .boolean) :: gWS) (gR 1 24 0 0) D CL (gY q) (fun _ => True) [.ref ab, .int (nI x), .int (nI y)] H (fun v H1 => v = some (.int (nI (if a_alr ks f1 t1 n1 f2 t2 n2 = true then 1 else 0))) ∧ H1 = H) 0 0 (fun _ => False) := by
  refine gC.ofW R_Automaton "leadAlike" (by decide) rfl rfl ?_
  intro p e s m below meth c hadm X hE hH B hne
  refine g_entry [some (.ref ab), some (.int (nI x)), some (.int (nI y)), none, none, none, none] rfl rfl (Nat.le_of_ble_eq_true rfl) (fun ls hl => ?_)
  have hk0 := hk
  obtain ⟨⟨kf, hkf, hkg⟩, hks⟩ := hk
  have hk := hk0
  refine lv_aload_n X.1.1 X.1.2.1 d_Automaton_leadAlike_0 rfl (gl_at hl rfl) ?_
  refine g_get X kc_Automaton ho 3 (by decide) lk_Automaton_22 rfl d_Automaton_leadAlike_1 ?_
  refine lv_iload_n X.1.1 X.1.2.1 d_Automaton_leadAlike_4 rfl (gl_at hl rfl) ?_
  refine g_iald X 0 hT rfl x (by omega) (by decide) d_Automaton_leadAlike_5 ?_
  refine g_top (nI t1) hT1 ?_
  refine lv_aload_n X.1.1 X.1.2.1 d_Automaton_leadAlike_6 rfl (gl_at hl rfl) ?_
  refine g_get X kc_Automaton ho 2 (by decide) lk_Automaton_18 rfl d_Automaton_leadAlike_7 ?_
  refine lv_iload_n X.1.1 X.1.2.1 d_Automaton_leadAlike_10 rfl (gl_at hl rfl) ?_
  refine g_iald X 0 hF rfl x (by omega) (by decide) d_Automaton_leadAlike_11 ?_
  refine g_top (nI f1) hF1 ?_
  refine lv_isub X.1.1 X.1.2.1 d_Automaton_leadAlike_12 ?_
  refine g_top (nI (t1 - f1)) (pk_sub (by omega)) ?_
  refine g_istn X.1.1 X.1.2.1 hl 3 d_Automaton_leadAlike_13 rfl (Nat.le_of_ble_eq_true rfl) rfl (fun ls hl => ?_)
  refine lv_iload_n X.1.1 X.1.2.1 d_Automaton_leadAlike_14 rfl (gl_at hl rfl) ?_
  refine lv_aload_n X.1.1 X.1.2.1 d_Automaton_leadAlike_15 rfl (gl_at hl rfl) ?_
  refine g_get X kc_Automaton ho 3 (by decide) lk_Automaton_22 rfl d_Automaton_leadAlike_16 ?_
  refine lv_iload_n X.1.1 X.1.2.1 d_Automaton_leadAlike_19 rfl (gl_at hl rfl) ?_
  refine g_iald X 0 hT rfl y (by omega) (by decide) d_Automaton_leadAlike_20 ?_
  refine g_top (nI t2) hT2 ?_
  refine lv_aload_n X.1.1 X.1.2.1 d_Automaton_leadAlike_21 rfl (gl_at hl rfl) ?_
  refine g_get X kc_Automaton ho 2 (by decide) lk_Automaton_18 rfl d_Automaton_leadAlike_22 ?_
  refine lv_iload_n X.1.1 X.1.2.1 d_Automaton_leadAlike_25 rfl (gl_at hl rfl) ?_
  refine g_iald X 0 hF rfl y (by omega) (by decide) d_Automaton_leadAlike_26 ?_
  refine g_top (nI f2) hF2 ?_
  refine lv_isub X.1.1 X.1.2.1 d_Automaton_leadAlike_27 ?_
  refine g_top (nI (t2 - f2)) (pk_sub (by omega)) ?_
  refine gn_eq X.1.1 X.1.2.1 (t1 - f1) (t2 - f2) (by omega) (by omega) d_Automaton_leadAlike_28 rfl (fun hc28 => ?_) (fun hc28 => ?_)
  · refine lv_iconst (v := nI 0) X.1.1 X.1.2.1 d_Automaton_leadAlike_33 (by decide) ?_
    refine g_ist X.1.1 X.1.2.1 hl 4 d_Automaton_leadAlike_34 (Nat.le_of_ble_eq_true rfl) rfl (fun ls hl => ?_)
    have loop36 : ∀ (fu : Nat) (i : Nat) (locs : List Loc) (ls : Array Slot), t1 - f1 - i < fu → (i ≤ t1 - f1) → (∀ j, j < i → (ks (f1 + j)).drop n1 = (ks (f2 + j)).drop n2) → (∀ x ∈ locs, (fun _ => False) x.base) → gl ls [some (.ref ab), some (.int (nI x)), some (.int (nI y)), some (.int (nI (t1 - f1))), some (.int (nI i)), none, none] → W p l e (gR 1 24 0 0) s m ([.ref ab, .int (nI x), .int (nI y)] : List Value).toArray below meth c H locs 0 0 (gQ below ([.ref ab, .int (nI x), .int (nI y)] : List Value).toArray s (fun v H1 => v = some (.int (nI (if a_alr ks f1 t1 n1 f2 t2 n2 = true then 1 else 0))) ∧ H1 = H) 0 0 (fun _ => False)) (F0 m 36 ls []) := by
      intro fu
      induction fu with
      | zero => intro i locs ls hmu; omega
      | succ fu ih36 =>
        intro i locs ls hmu36 hi36_0 hi36_1 hL hl
        refine lv_iload X.1.1 X.1.2.1 d_Automaton_leadAlike_36 (gl_at hl rfl) ?_
        refine lv_iload_n X.1.1 X.1.2.1 d_Automaton_leadAlike_38 rfl (gl_at hl rfl) ?_
        refine gn_ge X.1.1 X.1.2.1 i (t1 - f1) (by omega) (by omega) d_Automaton_leadAlike_39 rfl (fun hc39 => ?_) (fun hc39 => ?_)
        · refine lv_iconst (v := nI 1) X.1.1 X.1.2.1 d_Automaton_leadAlike_104 (by decide) ?_
          exact g_zret X B (by decide) ⟨by rw [if_pos (a_alr_iff.mpr ⟨hc28, fun j hj => hi36_1 j (by omega)⟩)], rfl⟩ hL d_Automaton_leadAlike_105 (by omega) (by omega)
        · refine lv_aload_n X.1.1 X.1.2.1 d_Automaton_leadAlike_42 rfl (gl_at hl rfl) ?_
          refine g_get X kc_Automaton ho 0 (by decide) lk_Automaton_11 rfl d_Automaton_leadAlike_43 ?_
          refine lv_aload_n X.1.1 X.1.2.1 d_Automaton_leadAlike_46 rfl (gl_at hl rfl) ?_
          refine g_get X kc_Automaton ho 2 (by decide) lk_Automaton_18 rfl d_Automaton_leadAlike_47 ?_
          refine lv_iload_n X.1.1 X.1.2.1 d_Automaton_leadAlike_50 rfl (gl_at hl rfl) ?_
          refine g_iald X 0 hF rfl x (by omega) (by decide) d_Automaton_leadAlike_51 ?_
          refine g_top (nI f1) hF1 ?_
          refine lv_iload X.1.1 X.1.2.1 d_Automaton_leadAlike_52 (gl_at hl rfl) ?_
          refine lv_iadd X.1.1 X.1.2.1 d_Automaton_leadAlike_54 ?_
          refine g_top (nI (f1 + i)) (nI_add _ _) ?_
          refine g_aald X 3 hkf rfl (f1 + i) (by omega) (by decide) (v := .ref (ab + 2 + 2 * (f1 + i))) (by rw [hkg _ (by omega)]; rfl) d_Automaton_leadAlike_55 ?_
          refine g_ast X.1.1 X.1.2.1 hl 5 d_Automaton_leadAlike_56 (Nat.le_of_ble_eq_true rfl) rfl (fun ls hl => ?_)
          refine lv_aload_n X.1.1 X.1.2.1 d_Automaton_leadAlike_58 rfl (gl_at hl rfl) ?_
          refine g_get X kc_Automaton ho 0 (by decide) lk_Automaton_11 rfl d_Automaton_leadAlike_59 ?_
          refine lv_aload_n X.1.1 X.1.2.1 d_Automaton_leadAlike_62 rfl (gl_at hl rfl) ?_
          refine g_get X kc_Automaton ho 2 (by decide) lk_Automaton_18 rfl d_Automaton_leadAlike_63 ?_
          refine lv_iload_n X.1.1 X.1.2.1 d_Automaton_leadAlike_66 rfl (gl_at hl rfl) ?_
          refine g_iald X 0 hF rfl y (by omega) (by decide) d_Automaton_leadAlike_67 ?_
          refine g_top (nI f2) hF2 ?_
          refine lv_iload X.1.1 X.1.2.1 d_Automaton_leadAlike_68 (gl_at hl rfl) ?_
          refine lv_iadd X.1.1 X.1.2.1 d_Automaton_leadAlike_70 ?_
          refine g_top (nI (f2 + i)) (nI_add _ _) ?_
          refine g_aald X 3 hkf rfl (f2 + i) (by omega) (by decide) (v := .ref (ab + 2 + 2 * (f2 + i))) (by rw [hkg _ (by omega)]; rfl) d_Automaton_leadAlike_71 ?_
          refine g_ast X.1.1 X.1.2.1 hl 6 d_Automaton_leadAlike_72 (Nat.le_of_ble_eq_true rfl) rfl (fun ls hl => ?_)
          refine lv_aload X.1.1 X.1.2.1 d_Automaton_leadAlike_74 (gl_at hl rfl) ?_
          refine lv_aload_n X.1.1 X.1.2.1 d_Automaton_leadAlike_76 rfl (gl_at hl rfl) ?_
          refine g_get X kc_Automaton ho 4 (by decide) lk_Automaton_25 rfl d_Automaton_leadAlike_77 ?_
          refine lv_iload_n X.1.1 X.1.2.1 d_Automaton_leadAlike_80 rfl (gl_at hl rfl) ?_
          refine g_iald X 0 hL0 rfl x (by omega) (by decide) d_Automaton_leadAlike_81 ?_
          refine g_top (nI n1) hL1 ?_
          refine lv_aload X.1.1 X.1.2.1 d_Automaton_leadAlike_82 (gl_at hl rfl) ?_
          refine lv_aload_n X.1.1 X.1.2.1 d_Automaton_leadAlike_84 rfl (gl_at hl rfl) ?_
          refine g_get X kc_Automaton ho 4 (by decide) lk_Automaton_25 rfl d_Automaton_leadAlike_85 ?_
          refine lv_iload_n X.1.1 X.1.2.1 d_Automaton_leadAlike_88 rfl (gl_at hl rfl) ?_
          refine g_iald X 0 hL0 rfl y (by omega) (by decide) d_Automaton_leadAlike_89 ?_
          refine g_top (nI n2) hL2 ?_
          refine g_cv (A := (fun _ => False)) X gWS_good mw_Automaton_103 kc_Key (hks (f1 + i) (by omega)).1 (c_Key_hasTail l D q H (ab + 2 + 2 * (f1 + i)) (ab + 2 + 2 * (f2 + i)) (ks (f1 + i)) (ks (f2 + i)) (hks _ (by omega)) (hks _ (by omega)) n1 n2 (hn1 _ (by omega) (by omega)) (hn2 _ (by omega) (by omega))) (fun _ _ _ => trivial) gBlind.tt rfl rfl hl.1 (Nat.le_of_ble_eq_true rfl) rfl rfl ⟨by decide, by decide⟩ ⟨by decide, by decide⟩ d_Automaton_leadAlike_90 (fun _ h => h.elim) hL (fun v1 H2 locs hp3 hL => ?_)
          obtain ⟨rfl, hHe⟩ := hp3
          rw [hHe]
          refine lv_if_ne X.1.1 X.1.2.1 d_Automaton_leadAlike_93 rfl (fun hc93 => ?_) (fun hc93 => ?_)
          · replace hc93 := gz_t hc93
            refine g_iinc X.1.1 X.1.2.1 (nI (i + 1)) hl 4 d_Automaton_leadAlike_98 rfl (nI_1 _) rfl (fun ls hl => ?_)
            refine lv_goto X.1.1 X.1.2.1 d_Automaton_leadAlike_101 rfl ?_
            exact ih36 (i + 1) locs ls (by omega) (by omega) (lt_s hi36_1 hc93) hL (gl_forget (gl_forget hl 5) 6)
          · replace hc93 := gz_f hc93
            refine lv_iconst (v := nI 0) X.1.1 X.1.2.1 d_Automaton_leadAlike_96 (by decide) ?_
            exact g_zret X B (by decide) ⟨by rw [if_neg (fun h => hc93 ((a_alr_iff.mp h).2 i (by omega)))], rfl⟩ hL d_Automaton_leadAlike_97 (by omega) (by omega)
    exact loop36 _ 0 [] ls (Nat.lt_succ_self _) (Nat.zero_le _) (fun j hj => absurd hj (Nat.not_lt_zero j)) (fun _ h => by cases h) hl
  · refine lv_iconst (v := nI 0) X.1.1 X.1.2.1 d_Automaton_leadAlike_31 (by decide) ?_
    exact g_zret X B (by decide) ⟨by rw [if_neg (fun h => hc28 (a_alr_iff.mp h).1)], rfl⟩ (fun _ h => by cases h) d_Automaton_leadAlike_32 (by omega) (by omega)

set_option maxHeartbeats 4000000 in
set_option maxRecDepth 100000 in
theorem c_Automaton_isKnown (l : Launch) (D : va_G) (q : Nat → ClassId) (H : Heap) (ab n : Nat) (es : List (Nat × Nat)) (us : List Nat) (sp fi : Nat) (ks : Nat → List Nat) (ho : va_at D CL (ab, .inr (5, [.ref (ab + 1), .int (nI n), .ref (ab + 130), .ref (ab + 131), .ref (ab + 132), .ref (ab + 133), .int (nI es.length), .ref (ab + 134), .int (nI us.length), .int (nI sp), .int (nI fi)])) H) (hk : aK D q H ab ks) (hn : n ≤ 64) (F T L G U : Nat → Int32) (hF : va_at D CL (ab + 130, .inl (q 0, 513, .inl F)) H) (hT : va_at D CL (ab + 131, .inl (q 0, 513, .inl T)) H) (hL0 : va_at D CL (ab + 132, .inl (q 0, 513, .inl L)) H) (hG : va_at D CL (ab + 133, .inl (q 0, 513, .inl G)) H) (hU : va_at D CL (ab + 134, .inl (q 0, 513, .inl U)) H) (hE0 : aE ks n es F T L G) (hok : a_ok ks n es) (hes : es.length ≤ 513) (hul : us.length ≤ 513) (hus : ∀ t, t < us.length → U t = nI (us.getD t 0) ∧ us.getD t 0 < es.length) (x f0 : Nat) (hx : x < es.length) (hf0 : f0 ≤ us.length) : gC l y_Automaton_isKnown (Cond.code y_Automaton_isKnown b_Automaton_isKnown 4 (some .boolean) :: gWS) (gR 2 50 0 0) D CL (gY q) (fun _ => True) [.ref ab, .int (nI x), .int (nI f0)] H (fun v H1 => v = some (.int (nI (if a_kn ks n es us f0 x = true then 1 else 0))) ∧ H1 = H) 0 0 (fun _ => False) := by
  refine gC.ofW R_Automaton "isKnown" (by decide) rfl rfl ?_
  intro p e s m below meth c hadm X hE hH B hne
  refine g_entry [some (.ref ab), some (.int (nI x)), some (.int (nI f0)), none] rfl rfl (Nat.le_of_ble_eq_true rfl) (fun ls hl => ?_)
  refine lv_iload_n X.1.1 X.1.2.1 d_Automaton_isKnown_0 rfl (gl_at hl rfl) ?_
  refine g_istn X.1.1 X.1.2.1 hl 3 d_Automaton_isKnown_1 rfl (Nat.le_of_ble_eq_true rfl) rfl (fun ls hl => ?_)
  have loop2 : ∀ (fu : Nat) (t : Nat) (locs : List Loc) (ls : Array Slot), us.length - t < fu → (f0 ≤ t) → (t ≤ us.length) → (∀ j, f0 ≤ j → j < t → ¬ a_al ks n es x (us.getD j 0) = true) → (∀ x ∈ locs, (fun _ => False) x.base) → gl ls [some (.ref ab), some (.int (nI x)), some (.int (nI f0)), some (.int (nI t))] → W p l e (gR 2 50 0 0) s m ([.ref ab, .int (nI x), .int (nI f0)] : List Value).toArray below meth c H locs 0 0 (gQ below ([.ref ab, .int (nI x), .int (nI f0)] : List Value).toArray s (fun v H1 => v = some (.int (nI (if a_kn ks n es us f0 x = true then 1 else 0))) ∧ H1 = H) 0 0 (fun _ => False)) (F0 m 2 ls []) := by
    intro fu
    induction fu with
    | zero => intro t locs ls hmu; omega
    | succ fu ih2 =>
      intro t locs ls hmu2 hi2_0 hi2_1 hi2_2 hL hl
      refine lv_iload_n X.1.1 X.1.2.1 d_Automaton_isKnown_2 rfl (gl_at hl rfl) ?_
      refine lv_aload_n X.1.1 X.1.2.1 d_Automaton_isKnown_3 rfl (gl_at hl rfl) ?_
      refine g_get X kc_Automaton ho 8 (by decide) lk_Automaton_83 rfl d_Automaton_isKnown_4 ?_
      refine gn_ge X.1.1 X.1.2.1 t us.length (by omega) (by omega) d_Automaton_isKnown_7 rfl (fun hc7 => ?_) (fun hc7 => ?_)
      · refine lv_iconst (v := nI 0) X.1.1 X.1.2.1 d_Automaton_isKnown_32 (by decide) ?_
        exact g_zret X B (by decide) ⟨by rw [if_neg (fun h => by obtain ⟨j, k1, k2, k3⟩ := a_kn_iff.mp h; exact hi2_2 j k1 (by omega) k3)], rfl⟩ hL d_Automaton_isKnown_33 (by omega) (by omega)
      · refine lv_aload_n X.1.1 X.1.2.1 d_Automaton_isKnown_10 rfl (gl_at hl rfl) ?_
        refine lv_iload_n X.1.1 X.1.2.1 d_Automaton_isKnown_11 rfl (gl_at hl rfl) ?_
        refine lv_aload_n X.1.1 X.1.2.1 d_Automaton_isKnown_12 rfl (gl_at hl rfl) ?_
        refine g_get X kc_Automaton ho 7 (by decide) lk_Automaton_31 rfl d_Automaton_isKnown_13 ?_
        refine lv_iload_n X.1.1 X.1.2.1 d_Automaton_isKnown_16 rfl (gl_at hl rfl) ?_
        refine g_iald X 0 hU rfl t (by omega) (by decide) d_Automaton_isKnown_17 ?_
        have hu2 := (hus t (by omega)).2
        refine g_top (nI (us.getD t 0)) (hus t (by omega)).1 ?_
        obtain ⟨x1, x2, x3, x4⟩ := hE0 x hx
        obtain ⟨y1, y2, y3, y4⟩ := hE0 (us.getD t 0) hu2
        obtain ⟨x5, x6, x7⟩ := a_t_ok hok hx
        obtain ⟨y5, y6, y7⟩ := a_t_ok hok hu2
        refine g_cv (A := (fun _ => False)) X gWS_good mw_Automaton_100 kc_Automaton ho (c_Automaton_leadAlike l D q H ab n es.length us.length sp fi ks ho hk hn F T L hF hT hL0 x (us.getD t 0) (by omega) (by omega) _ _ _ x1 x2 x3 (by omega) (by omega) x7 _ _ _ y1 y2 y3 (by omega) (by omega) y7) (fun _ _ _ => trivial) gBlind.tt rfl rfl hl.1 (Nat.le_of_ble_eq_true rfl) rfl rfl ⟨by decide, by decide⟩ ⟨by decide, by decide⟩ d_Automaton_isKnown_18 (fun _ h => h.elim) hL (fun v1 H2 locs hp3 hL => ?_)
        obtain ⟨rfl, hHe⟩ := hp3
        rw [hHe]
        refine lv_if_eq X.1.1 X.1.2.1 d_Automaton_isKnown_21 rfl (fun hc21 => ?_) (fun hc21 => ?_)
        · replace hc21 := gz_f hc21
          refine g_iinc X.1.1 X.1.2.1 (nI (t + 1)) hl 3 d_Automaton_isKnown_26 rfl (nI_1 _) rfl (fun ls hl => ?_)
          refine lv_goto X.1.1 X.1.2.1 d_Automaton_isKnown_29 rfl ?_
          exact ih2 (t + 1) locs ls (by omega) (by omega) (by omega) (fun j h1 h2 => by
            by_cases h9 : j = t
            · rw [h9]
              exact hc21
            · exact hi2_2 j h1 (by omega)) hL hl
        · replace hc21 := gz_t hc21
          refine lv_iconst (v := nI 1) X.1.1 X.1.2.1 d_Automaton_isKnown_24 (by decide) ?_
          exact g_zret X B (by decide) ⟨by rw [if_pos (a_kn_iff.mpr ⟨t, hi2_0, by omega, hc21⟩)], rfl⟩ hL d_Automaton_isKnown_25 (by omega) (by omega)
  exact loop2 _ f0 [] ls (Nat.lt_succ_self _) (Nat.le_refl _) hf0 (fun j h1 h2 => by omega) (fun _ h => by cases h) hl

set_option maxHeartbeats 4000000 in
set_option maxRecDepth 100000 in
theorem c_Automaton_addState (l : Launch) (D : va_G) (q : Nat → ClassId) (H : Heap) (ab n P S sp fi : Nat) (ks : Nat → List Nat) (ho : va_at D CL (ab, .inr (5, [.ref (ab + 1), .int (nI n), .ref (ab + 130), .ref (ab + 131), .ref (ab + 132), .ref (ab + 133), .int (nI P), .ref (ab + 134), .int (nI S), .int (nI sp), .int (nI fi)])) H) (hk : aK D q H ab ks) (hn : n ≤ 64) (F T L : Nat → Int32) (hF : va_at D CL (ab + 130, .inl (q 0, 513, .inl F)) H) (hT : va_at D CL (ab + 131, .inl (q 0, 513, .inl T)) H) (hL0 : va_at D CL (ab + 132, .inl (q 0, 513, .inl L)) H) (U : Nat → Int32) (hU : va_at D CL (ab + 134, .inl (q 0, 513, .inl U)) H) (hS : S < 513) (x : Nat) (hx : x < 513) (fr to len : Nat) (hFx : F x = nI fr) (hTx : T x = nI to) (hLx : L x = nI len) (hft : fr ≤ to) (hto : to ≤ 64) (hfr : fr < 64) (hlen : len ≤ 8) : gC l y_Automaton_addState (Cond.code y_Automaton_addState b_Automaton_addState 2 none :: gWS) (gR 1 25 0 0) D CL (gY q) (fun _ => True) [.ref ab, .int (nI x)] H (fun v H1 => v = none ∧ va_at D CL (ab, .inr (5, [.ref (ab + 1), .int (nI n), .ref (ab + 130), .ref (ab + 131), .ref (ab + 132), .ref (ab + 133), .int (nI P), .ref (ab + 134), .int (nI (S + 1)), .int (nI (sp + a_fol ks len fr to)), .int (nI (fi + if (ks fr).length = len then 1 else 0))])) H1 ∧ va_at D CL (ab + 134, .inl (q 0, 513, .inl (upd U S (nI x)))) H1 ∧ H1.size = H.size ∧ ∀ p : Nat, ¬ (p = ab ∨ p = ab + 134) → H1[p]? = H[p]?) 0 0 (fun p => p = ab ∨ p = ab + 134) := by
  refine gC.ofW R_Automaton "addState" (by decide) rfl rfl ?_
  intro p e s m below meth c hadm X hE hH B hne
  refine g_entry [some (.ref ab), some (.int (nI x))] rfl rfl (Nat.le_of_ble_eq_true rfl) (fun ls hl => ?_)
  have hk0 := hk
  obtain ⟨⟨kf, hkf, hkg⟩, hks⟩ := hk
  have hk := hk0
  refine lv_aload_n X.1.1 X.1.2.1 d_Automaton_addState_0 rfl (gl_at hl rfl) ?_
  refine g_get X kc_Automaton ho 7 (by decide) lk_Automaton_31 rfl d_Automaton_addState_1 ?_
  refine lv_aload_n X.1.1 X.1.2.1 d_Automaton_addState_4 rfl (gl_at hl rfl) ?_
  refine g_get X kc_Automaton ho 8 (by decide) lk_Automaton_83 rfl d_Automaton_addState_5 ?_
  refine lv_iload_n X.1.1 X.1.2.1 d_Automaton_addState_8 rfl (gl_at hl rfl) ?_
  refine g_iast (A := (fun p => p = ab ∨ p = ab + 134)) X 0 hU rfl S (by omega) (by decide) d_Automaton_addState_9 (Or.inr rfl) (fun _ h => by cases h) (fun H1 locs h2 z3 oq4 hL => ?_)
  replace ho := ho.kept (oq4 _ (by omega))
  replace hkf := hkf.kept (oq4 _ (by omega))
  replace hF := hF.kept (oq4 _ (by omega))
  replace hT := hT.kept (oq4 _ (by omega))
  replace hL0 := hL0.kept (oq4 _ (by omega))
  replace hk := hk.kept (fun p h1 h2 => oq4 p (by omega))
  refine lv_aload_n X.1.1 X.1.2.1 d_Automaton_addState_10 rfl (gl_at hl rfl) ?_
  refine lv_dup X.1.1 X.1.2.1 d_Automaton_addState_11 rfl ?_
  refine g_get X kc_Automaton ho 8 (by decide) lk_Automaton_83 rfl d_Automaton_addState_12 ?_
  refine lv_iconst (v := nI 1) X.1.1 X.1.2.1 d_Automaton_addState_15 (by decide) ?_
  refine lv_iadd X.1.1 X.1.2.1 d_Automaton_addState_16 ?_
  refine g_top (nI (S + 1)) (nI_add _ _) ?_
  refine g_put (A := (fun p => p = ab ∨ p = ab + 134)) X kc_Automaton ho 8 (by decide) lk_Automaton_83 rfl rfl rfl (Nat.le_of_ble_eq_true rfl) d_Automaton_addState_17 (Or.inl rfl) hL (fun H5 locs h6 z7 oq8 hL => ?_)
  replace hkf := hkf.kept (oq8 _ (by omega))
  replace hF := hF.kept (oq8 _ (by omega))
  replace hT := hT.kept (oq8 _ (by omega))
  replace hL0 := hL0.kept (oq8 _ (by omega))
  replace h2 := h2.kept (oq8 _ (by omega))
  replace hk := hk.kept (fun p h1 h2 => oq8 p (by omega))
  refine lv_aload_n X.1.1 X.1.2.1 d_Automaton_addState_20 rfl (gl_at hl rfl) ?_
  refine lv_dup X.1.1 X.1.2.1 d_Automaton_addState_21 rfl ?_
  refine g_get X kc_Automaton h6 9 (by decide) lk_Automaton_86 rfl d_Automaton_addState_22 ?_
  refine lv_aload_n X.1.1 X.1.2.1 d_Automaton_addState_25 rfl (gl_at hl rfl) ?_
  refine lv_iload_n X.1.1 X.1.2.1 d_Automaton_addState_26 rfl (gl_at hl rfl) ?_
  refine g_cv (A := (fun p => p = ab ∨ p = ab + 134)) X gWS_good mw_Automaton_107 kc_Automaton h6 (c_Automaton_countFollowing l D q H5 ab n P (S + 1) sp fi ks h6 hk hn F T L hF hT hL0 x hx fr to len hFx hTx hLx hft hto hlen) (fun _ _ _ => trivial) gBlind.tt rfl rfl hl.1 (Nat.le_of_ble_eq_true rfl) rfl rfl ⟨by decide, by decide⟩ ⟨by decide, by decide⟩ d_Automaton_addState_27 (fun _ h => h.elim) hL (fun v9 H10 locs hp11 hL => ?_)
  obtain ⟨rfl, hHe⟩ := hp11
  rw [hHe]
  refine lv_iadd X.1.1 X.1.2.1 d_Automaton_addState_30 ?_
  refine g_top (nI (sp + (a_fol ks len fr to))) (nI_add _ _) ?_
  refine g_put (A := (fun p => p = ab ∨ p = ab + 134)) X kc_Automaton h6 9 (by decide) lk_Automaton_86 rfl rfl rfl (Nat.le_of_ble_eq_true rfl) d_Automaton_addState_31 (Or.inl rfl) hL (fun H12 locs h13 z14 oq15 hL => ?_)
  replace hkf := hkf.kept (oq15 _ (by omega))
  replace hF := hF.kept (oq15 _ (by omega))
  replace hT := hT.kept (oq15 _ (by omega))
  replace hL0 := hL0.kept (oq15 _ (by omega))
  replace h2 := h2.kept (oq15 _ (by omega))
  replace hk := hk.kept (fun p h1 h2 => oq15 p (by omega))
  refine lv_aload_n X.1.1 X.1.2.1 d_Automaton_addState_34 rfl (gl_at hl rfl) ?_
  refine g_get X kc_Automaton h13 0 (by decide) lk_Automaton_11 rfl d_Automaton_addState_35 ?_
  refine lv_aload_n X.1.1 X.1.2.1 d_Automaton_addState_38 rfl (gl_at hl rfl) ?_
  refine g_get X kc_Automaton h13 2 (by decide) lk_Automaton_18 rfl d_Automaton_addState_39 ?_
  refine lv_iload_n X.1.1 X.1.2.1 d_Automaton_addState_42 rfl (gl_at hl rfl) ?_
  refine g_iald X 0 hF rfl x (by omega) (by decide) d_Automaton_addState_43 ?_
  refine g_top (nI fr) hFx ?_
  refine g_aald X 3 hkf rfl fr (by omega) (by decide) (v := .ref (ab + 2 + 2 * fr)) (by rw [hkg _ (by omega)]; rfl) d_Automaton_addState_44 ?_
  obtain ⟨hki, hli, hxl, hxc⟩ := hk.2 fr (by omega)
  refine g_get X kc_Key hki 1 (by decide) lk_Automaton_70 rfl d_Automaton_addState_45 ?_
  refine lv_aload_n X.1.1 X.1.2.1 d_Automaton_addState_48 rfl (gl_at hl rfl) ?_
  refine g_get X kc_Automaton h13 4 (by decide) lk_Automaton_25 rfl d_Automaton_addState_49 ?_
  refine lv_iload_n X.1.1 X.1.2.1 d_Automaton_addState_52 rfl (gl_at hl rfl) ?_
  refine g_iald X 0 hL0 rfl x (by omega) (by decide) d_Automaton_addState_53 ?_
  refine g_top (nI len) hLx ?_
  refine gn_ne X.1.1 X.1.2.1 ((ks fr).length) len (by omega) (by omega) d_Automaton_addState_54 rfl (fun hc54 => ?_) (fun hc54 => ?_)
  · exact g_vret X B ⟨rfl, by first | (rw [if_pos hc54]; exact h13) | (rw [if_neg hc54]; exact h13), h2, (z14.trans (z7.trans z3)), fun p hp => ((oq15 p (by omega)).trans ((oq8 p (by omega)).trans (oq4 p (by omega))))⟩ hL d_Automaton_addState_67 (by omega) (by omega)
  · refine lv_aload_n X.1.1 X.1.2.1 d_Automaton_addState_57 rfl (gl_at hl rfl) ?_
    refine lv_dup X.1.1 X.1.2.1 d_Automaton_addState_58 rfl ?_
    refine g_get X kc_Automaton h13 10 (by decide) lk_Automaton_89 rfl d_Automaton_addState_59 ?_
    refine lv_iconst (v := nI 1) X.1.1 X.1.2.1 d_Automaton_addState_62 (by decide) ?_
    refine lv_iadd X.1.1 X.1.2.1 d_Automaton_addState_63 ?_
    refine g_top (nI (fi + 1)) (nI_add _ _) ?_
    refine g_put (A := (fun p => p = ab ∨ p = ab + 134)) X kc_Automaton h13 10 (by decide) lk_Automaton_89 rfl rfl rfl (Nat.le_of_ble_eq_true rfl) d_Automaton_addState_64 (Or.inl rfl) hL (fun H16 locs h17 z18 oq19 hL => ?_)
    replace hkf := hkf.kept (oq19 _ (by omega))
    replace hF := hF.kept (oq19 _ (by omega))
    replace hT := hT.kept (oq19 _ (by omega))
    replace hL0 := hL0.kept (oq19 _ (by omega))
    replace h2 := h2.kept (oq19 _ (by omega))
    replace hki := hki.kept (oq19 _ (by omega))
    replace hk := hk.kept (fun p h1 h2 => oq19 p (by omega))
    exact g_vret X B ⟨rfl, by first | (rw [if_pos hc54]; exact h17) | (rw [if_neg hc54]; exact h17), h2, (z18.trans (z14.trans (z7.trans z3))), fun p hp => ((oq19 p (by omega)).trans ((oq15 p (by omega)).trans ((oq8 p (by omega)).trans (oq4 p (by omega)))))⟩ hL d_Automaton_addState_67 (by omega) (by omega)

set_option maxHeartbeats 4000000 in
set_option maxRecDepth 100000 in
theorem c_Automaton_reach (l : Launch) (D : va_G) (q : Nat → ClassId) (H : Heap) (ab n P S sp fi : Nat) (ks : Nat → List Nat) (ho : va_at D CL (ab, .inr (5, [.ref (ab + 1), .int (nI n), .ref (ab + 130), .ref (ab + 131), .ref (ab + 132), .ref (ab + 133), .int (nI P), .ref (ab + 134), .int (nI S), .int (nI sp), .int (nI fi)])) H) (hk : aK D q H ab ks) (hn : n ≤ 64) (b : Nat) (ys : List Nat) (hys : kA D q H b ys) : gC l y_Automaton_reach (Cond.code y_Automaton_reach b_Automaton_reach 4 (some .int) :: gWS) (gR 1 22 0 0) D CL (gY q) (fun _ => True) [.ref ab, .ref b] H (fun v H1 => v = some (.int (a_rv ks ys n)) ∧ H1 = H) 0 0 (fun _ => False) := by
  refine gC.ofW R_Automaton "reach" (by decide) rfl rfl ?_
  intro p e s m below meth c hadm X hE hH B hne
  refine g_entry [some (.ref ab), some (.ref b), none, none] rfl rfl (Nat.le_of_ble_eq_true rfl) (fun ls hl => ?_)
  have hk0 := hk
  obtain ⟨⟨kf, hkf, hkg⟩, hks⟩ := hk
  have hk := hk0
  refine lv_iconst (v := (-1)) X.1.1 X.1.2.1 d_Automaton_reach_0 (by decide) ?_
  refine g_istn X.1.1 X.1.2.1 hl 2 d_Automaton_reach_1 rfl (Nat.le_of_ble_eq_true rfl) rfl (fun ls hl => ?_)
  refine lv_iconst (v := nI 0) X.1.1 X.1.2.1 d_Automaton_reach_2 (by decide) ?_
  refine g_istn X.1.1 X.1.2.1 hl 3 d_Automaton_reach_3 rfl (Nat.le_of_ble_eq_true rfl) rfl (fun ls hl => ?_)
  have loop4 : ∀ (fu : Nat) (i : Nat) (locs : List Loc) (ls : Array Slot), n - i < fu → (i ≤ n) → (∀ x ∈ locs, (fun _ => False) x.base) → gl ls [some (.ref ab), some (.ref b), some (.int (a_rv ks ys i)), some (.int (nI i))] → W p l e (gR 1 22 0 0) s m ([.ref ab, .ref b] : List Value).toArray below meth c H locs 0 0 (gQ below ([.ref ab, .ref b] : List Value).toArray s (fun v H1 => v = some (.int (a_rv ks ys n)) ∧ H1 = H) 0 0 (fun _ => False)) (F0 m 4 ls []) := by
    intro fu
    induction fu with
    | zero => intro i locs ls hmu; omega
    | succ fu ih4 =>
      intro i locs ls hmu4 hi4_0 hL hl
      refine lv_iload_n X.1.1 X.1.2.1 d_Automaton_reach_4 rfl (gl_at hl rfl) ?_
      refine lv_aload_n X.1.1 X.1.2.1 d_Automaton_reach_5 rfl (gl_at hl rfl) ?_
      refine g_get X kc_Automaton ho 1 (by decide) lk_Automaton_40 rfl d_Automaton_reach_6 ?_
      refine gn_ge X.1.1 X.1.2.1 i n (by omega) (by omega) d_Automaton_reach_9 rfl (fun hc9 => ?_) (fun hc9 => ?_)
      · have e9 : i = n := by omega
        refine lv_iload_n X.1.1 X.1.2.1 d_Automaton_reach_33 rfl (gl_at hl rfl) ?_
        exact g_iret X B ⟨by rw [e9], rfl⟩ hL d_Automaton_reach_34 (by omega) (by omega)
      · refine lv_iload_n X.1.1 X.1.2.1 d_Automaton_reach_12 rfl (gl_at hl rfl) ?_
        refine lv_aload_n X.1.1 X.1.2.1 d_Automaton_reach_13 rfl (gl_at hl rfl) ?_
        refine g_get X kc_Automaton ho 0 (by decide) lk_Automaton_11 rfl d_Automaton_reach_14 ?_
        refine lv_iload_n X.1.1 X.1.2.1 d_Automaton_reach_17 rfl (gl_at hl rfl) ?_
        refine g_aald X 3 hkf rfl i (by omega) (by decide) (v := .ref (ab + 2 + 2 * i)) (by rw [hkg _ (by omega)]; rfl) d_Automaton_reach_18 ?_
        refine lv_aload_n X.1.1 X.1.2.1 d_Automaton_reach_19 rfl (gl_at hl rfl) ?_
        refine g_cv (A := (fun _ => False)) X gWS_good mw_Automaton_66 kc_Key (hks i (by omega)).1 (c_Key_shared l D q H (ab + 2 + 2 * i) b (ks i) ys (hks i (by omega)) hys) (fun _ _ _ => trivial) gBlind.tt rfl rfl hl.1 (Nat.le_of_ble_eq_true rfl) rfl rfl ⟨by decide, by decide⟩ ⟨by decide, by decide⟩ d_Automaton_reach_20 (fun _ h => h.elim) hL (fun v1 H2 locs hp3 hL => ?_)
        obtain ⟨rfl, hHe⟩ := hp3
        rw [hHe]
        refine va_mmax X.1.1 X.1.2.1 (by rw [X.1.2.2.1]; exact hl.1.symm) X.1.2.2.2.1 (X.1.2.2.2.2 _ mm_Automaton_77.1) (X.1.2.2.2.2 _ mm_Automaton_77.2.1) (X.1.2.2.2.2 _ mm_Automaton_77.2.2.1) (X.1.2.2.2.2 _ mm_Automaton_77.2.2.2) (by decide) (Nat.le_of_ble_eq_true rfl) (by decide) (by decide) d_Automaton_reach_23 ?_
        refine g_top (a_rv ks ys (i + 1)) (a_rv_s hys.2.2.1 i) ?_
        refine g_istn X.1.1 X.1.2.1 hl 2 d_Automaton_reach_26 rfl (Nat.le_of_ble_eq_true rfl) rfl (fun ls hl => ?_)
        refine g_iinc X.1.1 X.1.2.1 (nI (i + 1)) hl 3 d_Automaton_reach_27 rfl (nI_1 _) rfl (fun ls hl => ?_)
        refine lv_goto X.1.1 X.1.2.1 d_Automaton_reach_30 rfl ?_
        exact ih4 (i + 1) locs ls (by omega) (by omega) hL hl
  exact loop4 _ 0 [] ls (Nat.lt_succ_self _) (Nat.zero_le _) (fun _ h => by cases h) hl

set_option maxHeartbeats 4000000 in
set_option maxRecDepth 100000 in
theorem c_Automaton_accepts (l : Launch) (D : va_G) (q : Nat → ClassId) (H : Heap) (ab n P S sp fi : Nat) (ks : Nat → List Nat) (ho : va_at D CL (ab, .inr (5, [.ref (ab + 1), .int (nI n), .ref (ab + 130), .ref (ab + 131), .ref (ab + 132), .ref (ab + 133), .int (nI P), .ref (ab + 134), .int (nI S), .int (nI sp), .int (nI fi)])) H) (hk : aK D q H ab ks) (hn : n ≤ 64) (b : Nat) (ys : List Nat) (hys : kA D q H b ys) : gC l y_Automaton_accepts (Cond.code y_Automaton_accepts b_Automaton_accepts 3 (some .boolean) :: gWS) (gR 2 44 0 0) D CL (gY q) (fun _ => True) [.ref ab, .ref b] H (fun v H1 => v = some (.int (nI (if a_ac ks n ys = true then 1 else 0))) ∧ H1 = H) 0 0 (fun _ => False) := by
  refine gC.ofW R_Automaton "accepts" (by decide) rfl rfl ?_
  intro p e s m below meth c hadm X hE hH B hne
  refine g_entry [some (.ref ab), some (.ref b), none] rfl rfl (Nat.le_of_ble_eq_true rfl) (fun ls hl => ?_)
  have hk0 := hk
  obtain ⟨⟨kf, hkf, hkg⟩, hks⟩ := hk
  have hk := hk0
  refine lv_iconst (v := nI 0) X.1.1 X.1.2.1 d_Automaton_accepts_0 (by decide) ?_
  refine g_istn X.1.1 X.1.2.1 hl 2 d_Automaton_accepts_1 rfl (Nat.le_of_ble_eq_true rfl) rfl (fun ls hl => ?_)
  have loop2 : ∀ (fu : Nat) (i : Nat) (locs : List Loc) (ls : Array Slot), n - i < fu → (i ≤ n) → (∀ j, j < i → ks j ≠ ys) → (∀ x ∈ locs, (fun _ => False) x.base) → gl ls [some (.ref ab), some (.ref b), some (.int (nI i))] → W p l e (gR 2 44 0 0) s m ([.ref ab, .ref b] : List Value).toArray below meth c H locs 0 0 (gQ below ([.ref ab, .ref b] : List Value).toArray s (fun v H1 => v = some (.int (nI (if a_ac ks n ys = true then 1 else 0))) ∧ H1 = H) 0 0 (fun _ => False)) (F0 m 2 ls []) := by
    intro fu
    induction fu with
    | zero => intro i locs ls hmu; omega
    | succ fu ih2 =>
      intro i locs ls hmu2 hi2_0 hi2_1 hL hl
      refine lv_iload_n X.1.1 X.1.2.1 d_Automaton_accepts_2 rfl (gl_at hl rfl) ?_
      refine lv_aload_n X.1.1 X.1.2.1 d_Automaton_accepts_3 rfl (gl_at hl rfl) ?_
      refine g_get X kc_Automaton ho 1 (by decide) lk_Automaton_40 rfl d_Automaton_accepts_4 ?_
      refine gn_ge X.1.1 X.1.2.1 i n (by omega) (by omega) d_Automaton_accepts_7 rfl (fun hc7 => ?_) (fun hc7 => ?_)
      · refine lv_iconst (v := nI 0) X.1.1 X.1.2.1 d_Automaton_accepts_31 (by decide) ?_
        exact g_zret X B (by decide) ⟨by rw [if_neg (fun h => by obtain ⟨j, k1, k2⟩ := a_ac_iff.mp h; exact hi2_1 j (by omega) k2)], rfl⟩ hL d_Automaton_accepts_32 (by omega) (by omega)
      · refine lv_aload_n X.1.1 X.1.2.1 d_Automaton_accepts_10 rfl (gl_at hl rfl) ?_
        refine g_get X kc_Automaton ho 0 (by decide) lk_Automaton_11 rfl d_Automaton_accepts_11 ?_
        refine lv_iload_n X.1.1 X.1.2.1 d_Automaton_accepts_14 rfl (gl_at hl rfl) ?_
        refine g_aald X 3 hkf rfl i (by omega) (by decide) (v := .ref (ab + 2 + 2 * i)) (by rw [hkg _ (by omega)]; rfl) d_Automaton_accepts_15 ?_
        refine lv_aload_n X.1.1 X.1.2.1 d_Automaton_accepts_16 rfl (gl_at hl rfl) ?_
        refine g_cv (A := (fun _ => False)) X gWS_good mw_Automaton_114 kc_Key (hks i (by omega)).1 (c_Key_order l D q H (ab + 2 + 2 * i) b (ks i) ys (hks i (by omega)) hys) (fun _ _ _ => trivial) gBlind.tt rfl rfl hl.1 (Nat.le_of_ble_eq_true rfl) rfl rfl ⟨by decide, by decide⟩ ⟨by decide, by decide⟩ d_Automaton_accepts_17 (fun _ h => h.elim) hL (fun v1 H2 locs hp3 hL => ?_)
        obtain ⟨r, rfl, hr, hHe⟩ := hp3
        rw [hHe]
        refine lv_if_ne X.1.1 X.1.2.1 d_Automaton_accepts_20 rfl (fun hc20 => ?_) (fun hc20 => ?_)
        · refine g_iinc X.1.1 X.1.2.1 (nI (i + 1)) hl 2 d_Automaton_accepts_25 rfl (nI_1 _) rfl (fun ls hl => ?_)
          refine lv_goto X.1.1 X.1.2.1 d_Automaton_accepts_28 rfl ?_
          exact ih2 (i + 1) locs ls (by omega) (by omega) (lt_s hi2_1 (fun h9 => gi_ne hc20 (by rw [hr, h9, t_ord_refl]))) hL hl
        · refine lv_iconst (v := nI 1) X.1.1 X.1.2.1 d_Automaton_accepts_23 (by decide) ?_
          exact g_zret X B (by decide) ⟨by rw [if_pos (a_ac_iff.mpr ⟨i, by omega, t_ord_eq _ _ (by rw [← hr]; exact gi_eq hc20)⟩)], rfl⟩ hL d_Automaton_accepts_24 (by omega) (by omega)
  exact loop2 _ 0 [] ls (Nat.lt_succ_self _) (Nat.zero_le _) (fun j hj => absurd hj (Nat.not_lt_zero j)) (fun _ h => by cases h) hl

set_option maxHeartbeats 4000000 in
set_option maxRecDepth 100000 in
theorem c_Automaton_addPrefix (l : Launch) (D : va_G) (q : Nat → ClassId) (H : Heap) (ab n : Nat) (es : List (Nat × Nat)) (S sp fi : Nat) (ks : Nat → List Nat) (ho : va_at D CL (ab, .inr (5, [.ref (ab + 1), .int (nI n), .ref (ab + 130), .ref (ab + 131), .ref (ab + 132), .ref (ab + 133), .int (nI es.length), .ref (ab + 134), .int (nI S), .int (nI sp), .int (nI fi)])) H) (hk : aK D q H ab ks) (hn : n ≤ 64) (F T L G : Nat → Int32) (hF : va_at D CL (ab + 130, .inl (q 0, 513, .inl F)) H) (hT : va_at D CL (ab + 131, .inl (q 0, 513, .inl T)) H) (hL0 : va_at D CL (ab + 132, .inl (q 0, 513, .inl L)) H) (hG : va_at D CL (ab + 133, .inl (q 0, 513, .inl G)) H) (hE0 : aE ks n es F T L G) (hes : es.length < 513) (i len : Nat) (hi : i < n) (hlen : len ≤ (ks i).length) : gC l y_Automaton_addPrefix (Cond.code y_Automaton_addPrefix b_Automaton_addPrefix 5 none :: gWS) (gR 1 22 0 0) D CL (gY q) (fun _ => True) [.ref ab, .int (nI i), .int (nI len)] H (fun v H1 => v = none ∧ va_at D CL (ab, .inr (5, [.ref (ab + 1), .int (nI n), .ref (ab + 130), .ref (ab + 131), .ref (ab + 132), .ref (ab + 133), .int (nI (es ++ [(i, len)]).length), .ref (ab + 134), .int (nI S), .int (nI sp), .int (nI fi)])) H1 ∧ (∃ F1 T1 L1 G1 : Nat → Int32, va_at D CL (ab + 130, .inl (q 0, 513, .inl F1)) H1 ∧ va_at D CL (ab + 131, .inl (q 0, 513, .inl T1)) H1 ∧ va_at D CL (ab + 132, .inl (q 0, 513, .inl L1)) H1 ∧ va_at D CL (ab + 133, .inl (q 0, 513, .inl G1)) H1 ∧ aE ks n (es ++ [(i, len)]) F1 T1 L1 G1) ∧ H1.size = H.size ∧ ∀ p : Nat, ¬ (p = ab ∨ (ab + 130 ≤ p ∧ p ≤ ab + 133)) → H1[p]? = H[p]?) 0 0 (fun p => p = ab ∨ (ab + 130 ≤ p ∧ p ≤ ab + 133)) := by
  refine gC.ofW R_Automaton "addPrefix" (by decide) rfl rfl ?_
  intro p e s m below meth c hadm X hE hH B hne
  refine g_entry [some (.ref ab), some (.int (nI i)), some (.int (nI len)), none, none] rfl rfl (Nat.le_of_ble_eq_true rfl) (fun ls hl => ?_)
  have hk0 := hk
  obtain ⟨⟨kf, hkf, hkg⟩, hks⟩ := hk
  have hk := hk0
  have hx1 := (hks i (by omega)).2.2.1
  refine lv_iload_n X.1.1 X.1.2.1 d_Automaton_addPrefix_0 rfl (gl_at hl rfl) ?_
  refine g_istn X.1.1 X.1.2.1 hl 3 d_Automaton_addPrefix_1 rfl (Nat.le_of_ble_eq_true rfl) rfl (fun ls hl => ?_)
  refine lv_iload_n X.1.1 X.1.2.1 d_Automaton_addPrefix_2 rfl (gl_at hl rfl) ?_
  refine g_ist X.1.1 X.1.2.1 hl 4 d_Automaton_addPrefix_3 (Nat.le_of_ble_eq_true rfl) rfl (fun ls hl => ?_)
  have loop5 : ∀ (fu : Nat) (t : Nat) (k : Nat) (locs : List Loc) (ls : Array Slot), n - t < fu → (i ≤ t) → (t ≤ n) → (a_toF ks n i len (n - t) t = a_to ks n i len) → (a_hiF ks n i len (n - t) t k = a_hiF ks n i len (n - i) i len) → (len ≤ k) → (k ≤ 8) → (∀ x ∈ locs, (fun p => p = ab ∨ (ab + 130 ≤ p ∧ p ≤ ab + 133)) x.base) → gl ls [some (.ref ab), some (.int (nI i)), some (.int (nI len)), some (.int (nI t)), some (.int (nI k))] → W p l e (gR 1 22 0 0) s m ([.ref ab, .int (nI i), .int (nI len)] : List Value).toArray below meth c H locs 0 0 (gQ below ([.ref ab, .int (nI i), .int (nI len)] : List Value).toArray s (fun v H1 => v = none ∧ va_at D CL (ab, .inr (5, [.ref (ab + 1), .int (nI n), .ref (ab + 130), .ref (ab + 131), .ref (ab + 132), .ref (ab + 133), .int (nI (es ++ [(i, len)]).length), .ref (ab + 134), .int (nI S), .int (nI sp), .int (nI fi)])) H1 ∧ (∃ F1 T1 L1 G1 : Nat → Int32, va_at D CL (ab + 130, .inl (q 0, 513, .inl F1)) H1 ∧ va_at D CL (ab + 131, .inl (q 0, 513, .inl T1)) H1 ∧ va_at D CL (ab + 132, .inl (q 0, 513, .inl L1)) H1 ∧ va_at D CL (ab + 133, .inl (q 0, 513, .inl G1)) H1 ∧ aE ks n (es ++ [(i, len)]) F1 T1 L1 G1) ∧ H1.size = H.size ∧ ∀ p : Nat, ¬ (p = ab ∨ (ab + 130 ≤ p ∧ p ≤ ab + 133)) → H1[p]? = H[p]?) 0 0 (fun p => p = ab ∨ (ab + 130 ≤ p ∧ p ≤ ab + 133))) (F0 m 5 ls []) := by
    intro fu
    induction fu with
    | zero => intro t k locs ls hmu; omega
    | succ fu ih5 =>
      intro t k locs ls hmu5 hi5_0 hi5_1 hi5_2 hi5_3 hi5_4 hi5_5 hL hl
      refine lv_iload_n X.1.1 X.1.2.1 d_Automaton_addPrefix_5 rfl (gl_at hl rfl) ?_
      refine lv_aload_n X.1.1 X.1.2.1 d_Automaton_addPrefix_6 rfl (gl_at hl rfl) ?_
      refine g_get X kc_Automaton ho 1 (by decide) lk_Automaton_40 rfl d_Automaton_addPrefix_7 ?_
      refine gn_ge X.1.1 X.1.2.1 t n (by omega) (by omega) d_Automaton_addPrefix_10 rfl (fun hc10 => ?_) (fun hc10 => ?_)
      · refine lv_aload_n X.1.1 X.1.2.1 d_Automaton_addPrefix_54 rfl (gl_at hl rfl) ?_
        refine g_get X kc_Automaton ho 2 (by decide) lk_Automaton_18 rfl d_Automaton_addPrefix_55 ?_
        refine lv_aload_n X.1.1 X.1.2.1 d_Automaton_addPrefix_58 rfl (gl_at hl rfl) ?_
        refine g_get X kc_Automaton ho 6 (by decide) lk_Automaton_63 rfl d_Automaton_addPrefix_59 ?_
        refine lv_iload_n X.1.1 X.1.2.1 d_Automaton_addPrefix_62 rfl (gl_at hl rfl) ?_
        refine g_iast (A := (fun p => p = ab ∨ (ab + 130 ≤ p ∧ p ≤ ab + 133))) X 0 hF rfl es.length (by omega) (by decide) d_Automaton_addPrefix_63 (show _ ∨ _ by omega) hL (fun H1 locs h2 z3 oq4 hL => ?_)
        replace ho := ho.kept (oq4 _ (by omega))
        replace hkf := hkf.kept (oq4 _ (by omega))
        replace hT := hT.kept (oq4 _ (by omega))
        replace hL0 := hL0.kept (oq4 _ (by omega))
        replace hG := hG.kept (oq4 _ (by omega))
        replace hk := hk.kept (fun p h1 h2 => oq4 p (by omega))
        refine lv_aload_n X.1.1 X.1.2.1 d_Automaton_addPrefix_64 rfl (gl_at hl rfl) ?_
        refine g_get X kc_Automaton ho 3 (by decide) lk_Automaton_22 rfl d_Automaton_addPrefix_65 ?_
        refine lv_aload_n X.1.1 X.1.2.1 d_Automaton_addPrefix_68 rfl (gl_at hl rfl) ?_
        refine g_get X kc_Automaton ho 6 (by decide) lk_Automaton_63 rfl d_Automaton_addPrefix_69 ?_
        refine lv_iload_n X.1.1 X.1.2.1 d_Automaton_addPrefix_72 rfl (gl_at hl rfl) ?_
        refine g_iast (A := (fun p => p = ab ∨ (ab + 130 ≤ p ∧ p ≤ ab + 133))) X 0 hT rfl es.length (by omega) (by decide) d_Automaton_addPrefix_73 (show _ ∨ _ by omega) hL (fun H5 locs h6 z7 oq8 hL => ?_)
        replace ho := ho.kept (oq8 _ (by omega))
        replace hkf := hkf.kept (oq8 _ (by omega))
        replace h2 := h2.kept (oq8 _ (by omega))
        replace hL0 := hL0.kept (oq8 _ (by omega))
        replace hG := hG.kept (oq8 _ (by omega))
        replace hk := hk.kept (fun p h1 h2 => oq8 p (by omega))
        refine lv_aload_n X.1.1 X.1.2.1 d_Automaton_addPrefix_74 rfl (gl_at hl rfl) ?_
        refine g_get X kc_Automaton ho 4 (by decide) lk_Automaton_25 rfl d_Automaton_addPrefix_75 ?_
        refine lv_aload_n X.1.1 X.1.2.1 d_Automaton_addPrefix_78 rfl (gl_at hl rfl) ?_
        refine g_get X kc_Automaton ho 6 (by decide) lk_Automaton_63 rfl d_Automaton_addPrefix_79 ?_
        refine lv_iload_n X.1.1 X.1.2.1 d_Automaton_addPrefix_82 rfl (gl_at hl rfl) ?_
        refine g_iast (A := (fun p => p = ab ∨ (ab + 130 ≤ p ∧ p ≤ ab + 133))) X 0 hL0 rfl es.length (by omega) (by decide) d_Automaton_addPrefix_83 (show _ ∨ _ by omega) hL (fun H9 locs h10 z11 oq12 hL => ?_)
        replace ho := ho.kept (oq12 _ (by omega))
        replace hkf := hkf.kept (oq12 _ (by omega))
        replace h2 := h2.kept (oq12 _ (by omega))
        replace h6 := h6.kept (oq12 _ (by omega))
        replace hG := hG.kept (oq12 _ (by omega))
        replace hk := hk.kept (fun p h1 h2 => oq12 p (by omega))
        refine lv_aload_n X.1.1 X.1.2.1 d_Automaton_addPrefix_84 rfl (gl_at hl rfl) ?_
        refine g_get X kc_Automaton ho 5 (by decide) lk_Automaton_28 rfl d_Automaton_addPrefix_85 ?_
        refine lv_aload_n X.1.1 X.1.2.1 d_Automaton_addPrefix_88 rfl (gl_at hl rfl) ?_
        refine g_get X kc_Automaton ho 6 (by decide) lk_Automaton_63 rfl d_Automaton_addPrefix_89 ?_
        refine lv_iload X.1.1 X.1.2.1 d_Automaton_addPrefix_92 (gl_at hl rfl) ?_
        refine lv_iload_n X.1.1 X.1.2.1 d_Automaton_addPrefix_94 rfl (gl_at hl rfl) ?_
        refine lv_isub X.1.1 X.1.2.1 d_Automaton_addPrefix_95 ?_
        refine g_top (nI (k - len)) (pk_sub (by omega)) ?_
        refine g_iast (A := (fun p => p = ab ∨ (ab + 130 ≤ p ∧ p ≤ ab + 133))) X 0 hG rfl es.length (by omega) (by decide) d_Automaton_addPrefix_96 (show _ ∨ _ by omega) hL (fun H13 locs h14 z15 oq16 hL => ?_)
        replace ho := ho.kept (oq16 _ (by omega))
        replace hkf := hkf.kept (oq16 _ (by omega))
        replace h2 := h2.kept (oq16 _ (by omega))
        replace h6 := h6.kept (oq16 _ (by omega))
        replace h10 := h10.kept (oq16 _ (by omega))
        replace hk := hk.kept (fun p h1 h2 => oq16 p (by omega))
        refine lv_aload_n X.1.1 X.1.2.1 d_Automaton_addPrefix_97 rfl (gl_at hl rfl) ?_
        refine lv_dup X.1.1 X.1.2.1 d_Automaton_addPrefix_98 rfl ?_
        refine g_get X kc_Automaton ho 6 (by decide) lk_Automaton_63 rfl d_Automaton_addPrefix_99 ?_
        refine lv_iconst (v := nI 1) X.1.1 X.1.2.1 d_Automaton_addPrefix_102 (by decide) ?_
        refine lv_iadd X.1.1 X.1.2.1 d_Automaton_addPrefix_103 ?_
        refine g_top (nI (es.length + 1)) (nI_add _ _) ?_
        refine g_put (A := (fun p => p = ab ∨ (ab + 130 ≤ p ∧ p ≤ ab + 133))) X kc_Automaton ho 6 (by decide) lk_Automaton_63 rfl rfl rfl (Nat.le_of_ble_eq_true rfl) d_Automaton_addPrefix_104 (show _ ∨ _ by omega) hL (fun H17 locs h18 z19 oq20 hL => ?_)
        replace hkf := hkf.kept (oq20 _ (by omega))
        replace h2 := h2.kept (oq20 _ (by omega))
        replace h6 := h6.kept (oq20 _ (by omega))
        replace h10 := h10.kept (oq20 _ (by omega))
        replace h14 := h14.kept (oq20 _ (by omega))
        replace hk := hk.kept (fun p h1 h2 => oq20 p (by omega))
        have hstop : ¬ (t < n ∧ len ≤ t_lcp (ks t) (ks i)) := by omega
        rw [a_toF_end hstop] at hi5_2
        rw [a_hiF_end hstop] at hi5_3
        exact g_vret X B ⟨rfl, by rw [List.length_append]; exact h18, ⟨_, _, _, _, h2, h6, h10, h14, aE.app hE0 hi5_2.symm (by unfold a_he; rw [← hi5_3])⟩, (z19.trans (z15.trans (z11.trans (z7.trans z3)))), fun p hp => ((oq20 p (by omega)).trans ((oq16 p (by omega)).trans ((oq12 p (by omega)).trans ((oq8 p (by omega)).trans (oq4 p (by omega))))))⟩ hL d_Automaton_addPrefix_107 (by omega) (by omega)
      · refine lv_aload_n X.1.1 X.1.2.1 d_Automaton_addPrefix_13 rfl (gl_at hl rfl) ?_
        refine g_get X kc_Automaton ho 0 (by decide) lk_Automaton_11 rfl d_Automaton_addPrefix_14 ?_
        refine lv_iload_n X.1.1 X.1.2.1 d_Automaton_addPrefix_17 rfl (gl_at hl rfl) ?_
        refine g_aald X 3 hkf rfl t (by omega) (by decide) (v := .ref (ab + 2 + 2 * t)) (by rw [hkg _ (by omega)]; rfl) d_Automaton_addPrefix_18 ?_
        refine lv_aload_n X.1.1 X.1.2.1 d_Automaton_addPrefix_19 rfl (gl_at hl rfl) ?_
        refine g_get X kc_Automaton ho 0 (by decide) lk_Automaton_11 rfl d_Automaton_addPrefix_20 ?_
        refine lv_iload_n X.1.1 X.1.2.1 d_Automaton_addPrefix_23 rfl (gl_at hl rfl) ?_
        refine g_aald X 3 hkf rfl i (by omega) (by decide) (v := .ref (ab + 2 + 2 * i)) (by rw [hkg _ (by omega)]; rfl) d_Automaton_addPrefix_24 ?_
        have hx2 := (hks t (by omega)).2.2.1
        have i1 := t_lcp_le1 (ks t) (ks i)
        refine g_cv (A := (fun p => p = ab ∨ (ab + 130 ≤ p ∧ p ≤ ab + 133))) X gWS_good mw_Automaton_66 kc_Key (hks t (by omega)).1 (c_Key_shared l D q H (ab + 2 + 2 * t) (ab + 2 + 2 * i) (ks t) (ks i) (hks t (by omega)) (hks i (by omega))) (fun _ _ _ => trivial) gBlind.tt rfl rfl hl.1 (Nat.le_of_ble_eq_true rfl) rfl rfl ⟨by decide, by decide⟩ ⟨by decide, by decide⟩ d_Automaton_addPrefix_25 (fun _ h => h.elim) hL (fun v21 H22 locs hp23 hL => ?_)
        obtain ⟨rfl, hHe⟩ := hp23
        rw [hHe]
        refine lv_iload_n X.1.1 X.1.2.1 d_Automaton_addPrefix_28 rfl (gl_at hl rfl) ?_
        refine gn_lt X.1.1 X.1.2.1 (t_lcp (ks t) (ks i)) len (by omega) (by omega) d_Automaton_addPrefix_29 rfl (fun hc29 => ?_) (fun hc29 => ?_)
        · refine lv_aload_n X.1.1 X.1.2.1 d_Automaton_addPrefix_54 rfl (gl_at hl rfl) ?_
          refine g_get X kc_Automaton ho 2 (by decide) lk_Automaton_18 rfl d_Automaton_addPrefix_55 ?_
          refine lv_aload_n X.1.1 X.1.2.1 d_Automaton_addPrefix_58 rfl (gl_at hl rfl) ?_
          refine g_get X kc_Automaton ho 6 (by decide) lk_Automaton_63 rfl d_Automaton_addPrefix_59 ?_
          refine lv_iload_n X.1.1 X.1.2.1 d_Automaton_addPrefix_62 rfl (gl_at hl rfl) ?_
          refine g_iast (A := (fun p => p = ab ∨ (ab + 130 ≤ p ∧ p ≤ ab + 133))) X 0 hF rfl es.length (by omega) (by decide) d_Automaton_addPrefix_63 (show _ ∨ _ by omega) hL (fun H24 locs h25 z26 oq27 hL => ?_)
          replace ho := ho.kept (oq27 _ (by omega))
          replace hkf := hkf.kept (oq27 _ (by omega))
          replace hT := hT.kept (oq27 _ (by omega))
          replace hL0 := hL0.kept (oq27 _ (by omega))
          replace hG := hG.kept (oq27 _ (by omega))
          replace hk := hk.kept (fun p h1 h2 => oq27 p (by omega))
          refine lv_aload_n X.1.1 X.1.2.1 d_Automaton_addPrefix_64 rfl (gl_at hl rfl) ?_
          refine g_get X kc_Automaton ho 3 (by decide) lk_Automaton_22 rfl d_Automaton_addPrefix_65 ?_
          refine lv_aload_n X.1.1 X.1.2.1 d_Automaton_addPrefix_68 rfl (gl_at hl rfl) ?_
          refine g_get X kc_Automaton ho 6 (by decide) lk_Automaton_63 rfl d_Automaton_addPrefix_69 ?_
          refine lv_iload_n X.1.1 X.1.2.1 d_Automaton_addPrefix_72 rfl (gl_at hl rfl) ?_
          refine g_iast (A := (fun p => p = ab ∨ (ab + 130 ≤ p ∧ p ≤ ab + 133))) X 0 hT rfl es.length (by omega) (by decide) d_Automaton_addPrefix_73 (show _ ∨ _ by omega) hL (fun H28 locs h29 z30 oq31 hL => ?_)
          replace ho := ho.kept (oq31 _ (by omega))
          replace hkf := hkf.kept (oq31 _ (by omega))
          replace h25 := h25.kept (oq31 _ (by omega))
          replace hL0 := hL0.kept (oq31 _ (by omega))
          replace hG := hG.kept (oq31 _ (by omega))
          replace hk := hk.kept (fun p h1 h2 => oq31 p (by omega))
          refine lv_aload_n X.1.1 X.1.2.1 d_Automaton_addPrefix_74 rfl (gl_at hl rfl) ?_
          refine g_get X kc_Automaton ho 4 (by decide) lk_Automaton_25 rfl d_Automaton_addPrefix_75 ?_
          refine lv_aload_n X.1.1 X.1.2.1 d_Automaton_addPrefix_78 rfl (gl_at hl rfl) ?_
          refine g_get X kc_Automaton ho 6 (by decide) lk_Automaton_63 rfl d_Automaton_addPrefix_79 ?_
          refine lv_iload_n X.1.1 X.1.2.1 d_Automaton_addPrefix_82 rfl (gl_at hl rfl) ?_
          refine g_iast (A := (fun p => p = ab ∨ (ab + 130 ≤ p ∧ p ≤ ab + 133))) X 0 hL0 rfl es.length (by omega) (by decide) d_Automaton_addPrefix_83 (show _ ∨ _ by omega) hL (fun H32 locs h33 z34 oq35 hL => ?_)
          replace ho := ho.kept (oq35 _ (by omega))
          replace hkf := hkf.kept (oq35 _ (by omega))
          replace h25 := h25.kept (oq35 _ (by omega))
          replace h29 := h29.kept (oq35 _ (by omega))
          replace hG := hG.kept (oq35 _ (by omega))
          replace hk := hk.kept (fun p h1 h2 => oq35 p (by omega))
          refine lv_aload_n X.1.1 X.1.2.1 d_Automaton_addPrefix_84 rfl (gl_at hl rfl) ?_
          refine g_get X kc_Automaton ho 5 (by decide) lk_Automaton_28 rfl d_Automaton_addPrefix_85 ?_
          refine lv_aload_n X.1.1 X.1.2.1 d_Automaton_addPrefix_88 rfl (gl_at hl rfl) ?_
          refine g_get X kc_Automaton ho 6 (by decide) lk_Automaton_63 rfl d_Automaton_addPrefix_89 ?_
          refine lv_iload X.1.1 X.1.2.1 d_Automaton_addPrefix_92 (gl_at hl rfl) ?_
          refine lv_iload_n X.1.1 X.1.2.1 d_Automaton_addPrefix_94 rfl (gl_at hl rfl) ?_
          refine lv_isub X.1.1 X.1.2.1 d_Automaton_addPrefix_95 ?_
          refine g_top (nI (k - len)) (pk_sub (by omega)) ?_
          refine g_iast (A := (fun p => p = ab ∨ (ab + 130 ≤ p ∧ p ≤ ab + 133))) X 0 hG rfl es.length (by omega) (by decide) d_Automaton_addPrefix_96 (show _ ∨ _ by omega) hL (fun H36 locs h37 z38 oq39 hL => ?_)
          replace ho := ho.kept (oq39 _ (by omega))
          replace hkf := hkf.kept (oq39 _ (by omega))
          replace h25 := h25.kept (oq39 _ (by omega))
          replace h29 := h29.kept (oq39 _ (by omega))
          replace h33 := h33.kept (oq39 _ (by omega))
          replace hk := hk.kept (fun p h1 h2 => oq39 p (by omega))
          refine lv_aload_n X.1.1 X.1.2.1 d_Automaton_addPrefix_97 rfl (gl_at hl rfl) ?_
          refine lv_dup X.1.1 X.1.2.1 d_Automaton_addPrefix_98 rfl ?_
          refine g_get X kc_Automaton ho 6 (by decide) lk_Automaton_63 rfl d_Automaton_addPrefix_99 ?_
          refine lv_iconst (v := nI 1) X.1.1 X.1.2.1 d_Automaton_addPrefix_102 (by decide) ?_
          refine lv_iadd X.1.1 X.1.2.1 d_Automaton_addPrefix_103 ?_
          refine g_top (nI (es.length + 1)) (nI_add _ _) ?_
          refine g_put (A := (fun p => p = ab ∨ (ab + 130 ≤ p ∧ p ≤ ab + 133))) X kc_Automaton ho 6 (by decide) lk_Automaton_63 rfl rfl rfl (Nat.le_of_ble_eq_true rfl) d_Automaton_addPrefix_104 (show _ ∨ _ by omega) hL (fun H40 locs h41 z42 oq43 hL => ?_)
          replace hkf := hkf.kept (oq43 _ (by omega))
          replace h25 := h25.kept (oq43 _ (by omega))
          replace h29 := h29.kept (oq43 _ (by omega))
          replace h33 := h33.kept (oq43 _ (by omega))
          replace h37 := h37.kept (oq43 _ (by omega))
          replace hk := hk.kept (fun p h1 h2 => oq43 p (by omega))
          have hstop : ¬ (t < n ∧ len ≤ t_lcp (ks t) (ks i)) := by omega
          rw [a_toF_end hstop] at hi5_2
          rw [a_hiF_end hstop] at hi5_3
          exact g_vret X B ⟨rfl, by rw [List.length_append]; exact h41, ⟨_, _, _, _, h25, h29, h33, h37, aE.app hE0 hi5_2.symm (by unfold a_he; rw [← hi5_3])⟩, (z42.trans (z38.trans (z34.trans (z30.trans z26)))), fun p hp => ((oq43 p (by omega)).trans ((oq39 p (by omega)).trans ((oq35 p (by omega)).trans ((oq31 p (by omega)).trans (oq27 p (by omega))))))⟩ hL d_Automaton_addPrefix_107 (by omega) (by omega)
        · refine lv_iload X.1.1 X.1.2.1 d_Automaton_addPrefix_32 (gl_at hl rfl) ?_
          refine lv_aload_n X.1.1 X.1.2.1 d_Automaton_addPrefix_34 rfl (gl_at hl rfl) ?_
          refine g_get X kc_Automaton ho 0 (by decide) lk_Automaton_11 rfl d_Automaton_addPrefix_35 ?_
          refine lv_iload_n X.1.1 X.1.2.1 d_Automaton_addPrefix_38 rfl (gl_at hl rfl) ?_
          refine g_aald X 3 hkf rfl t (by omega) (by decide) (v := .ref (ab + 2 + 2 * t)) (by rw [hkg _ (by omega)]; rfl) d_Automaton_addPrefix_39 ?_
          obtain ⟨hki, hli, hxl, hxc⟩ := hks t (by omega)
          refine g_get X kc_Key hki 1 (by decide) lk_Automaton_70 rfl d_Automaton_addPrefix_40 ?_
          refine va_mmax X.1.1 X.1.2.1 (by rw [X.1.2.2.1]; exact hl.1.symm) X.1.2.2.2.1 (X.1.2.2.2.2 _ mm_Automaton_77.1) (X.1.2.2.2.2 _ mm_Automaton_77.2.1) (X.1.2.2.2.2 _ mm_Automaton_77.2.2.1) (X.1.2.2.2.2 _ mm_Automaton_77.2.2.2) (by decide) (Nat.le_of_ble_eq_true rfl) (by decide) (by decide) d_Automaton_addPrefix_43 ?_
          refine g_top (nI (if k < (ks t).length then (ks t).length else k)) (gn_max (by omega) (by omega)) ?_
          refine g_ist X.1.1 X.1.2.1 hl 4 d_Automaton_addPrefix_46 (Nat.le_of_ble_eq_true rfl) rfl (fun ls hl => ?_)
          refine g_iinc X.1.1 X.1.2.1 (nI (t + 1)) hl 3 d_Automaton_addPrefix_48 rfl (nI_1 _) rfl (fun ls hl => ?_)
          refine lv_goto X.1.1 X.1.2.1 d_Automaton_addPrefix_51 rfl ?_
          exact ih5 (t + 1) (if k < (ks t).length then (ks t).length else k) locs ls (by omega) (by omega) (by omega) (by rw [← hi5_2, a_toF_s hc10 hc29]) (by rw [← hi5_3, a_hiF_s hc10 hc29]) (by split <;> omega) (by split <;> omega) hL hl
  exact loop5 _ i len [] ls (Nat.lt_succ_self _) (Nat.le_refl _) (by omega) rfl rfl (Nat.le_refl _) (by omega) (fun _ h => by cases h) hl
end
section
/-! the class Automaton, 2: printed by wip/specs/aut2.py -/
set_option maxHeartbeats 4000000 in
set_option maxRecDepth 100000 in
theorem c_Automaton_listPrefixes (l : Launch) (D : va_G) (q : Nat → ClassId) (H : Heap) (ab n P S sp fi : Nat) (ks : Nat → List Nat) (ho : va_at D CL (ab, .inr (5, [.ref (ab + 1), .int (nI n), .ref (ab + 130), .ref (ab + 131), .ref (ab + 132), .ref (ab + 133), .int (nI P), .ref (ab + 134), .int (nI S), .int (nI sp), .int (nI fi)])) H) (hk : aK D q H ab ks) (hn : n ≤ 64) (F T L G : Nat → Int32) (hF : va_at D CL (ab + 130, .inl (q 0, 513, .inl F)) H) (hT : va_at D CL (ab + 131, .inl (q 0, 513, .inl T)) H) (hL0 : va_at D CL (ab + 132, .inl (q 0, 513, .inl L)) H) (hG : va_at D CL (ab + 133, .inl (q 0, 513, .inl G)) H) : gC l y_Automaton_listPrefixes (Cond.code y_Automaton_listPrefixes b_Automaton_listPrefixes 4 none :: gWS) (gR 2 46 0 0) D CL (gY q) (fun _ => True) [.ref ab] H (fun v H1 => v = none ∧ va_at D CL (ab, .inr (5, [.ref (ab + 1), .int (nI n), .ref (ab + 130), .ref (ab + 131), .ref (ab + 132), .ref (ab + 133), .int (nI (a_pre ks n).length), .ref (ab + 134), .int (nI S), .int (nI sp), .int (nI fi)])) H1 ∧ (∃ F1 T1 L1 G1 : Nat → Int32, va_at D CL (ab + 130, .inl (q 0, 513, .inl F1)) H1 ∧ va_at D CL (ab + 131, .inl (q 0, 513, .inl T1)) H1 ∧ va_at D CL (ab + 132, .inl (q 0, 513, .inl L1)) H1 ∧ va_at D CL (ab + 133, .inl (q 0, 513, .inl G1)) H1 ∧ aE ks n (a_pre ks n) F1 T1 L1 G1) ∧ H1.size = H.size ∧ ∀ p : Nat, ¬ (p = ab ∨ (ab + 130 ≤ p ∧ p ≤ ab + 133)) → H1[p]? = H[p]?) 0 0 (fun p => p = ab ∨ (ab + 130 ≤ p ∧ p ≤ ab + 133)) := by
  refine gC.ofW R_Automaton "listPrefixes" (by decide) rfl rfl ?_
  intro p e s m below meth c hadm X hE hH B hne
  refine g_entry [some (.ref ab), none, none, none] rfl rfl (Nat.le_of_ble_eq_true rfl) (fun ls hl => ?_)
  have hkA := hk
  have hk0 := hk
  obtain ⟨⟨kf, hkf, hkg⟩, hks⟩ := hk
  have hk := hk0
  have hk8 : ∀ j, j < n → (ks j).length ≤ 8 := fun j hj => (hks j (by omega)).2.2.1
  have hs9 : ∀ j, j < n → a_sh ks j ≤ 9 := fun j hj => by (have h1 := t_lcp_le1 (ks j) (ks (j - 1))); (have h2 := hk8 j hj); unfold a_sh; split <;> omega
  refine lv_aload_n X.1.1 X.1.2.1 d_Automaton_listPrefixes_0 rfl (gl_at hl rfl) ?_
  refine lv_iconst (v := nI 0) X.1.1 X.1.2.1 d_Automaton_listPrefixes_1 (by decide) ?_
  refine g_put (A := (fun p => p = ab ∨ (ab + 130 ≤ p ∧ p ≤ ab + 133))) X kc_Automaton ho 6 (by decide) lk_Automaton_63 rfl rfl rfl (Nat.le_of_ble_eq_true rfl) d_Automaton_listPrefixes_2 (show _ ∨ _ by omega) (fun _ h => by cases h) (fun H1 locs h2 z3 oq4 hL => ?_)
  replace hkf := hkf.kept (oq4 _ (by omega))
  replace hF := hF.kept (oq4 _ (by omega))
  replace hT := hT.kept (oq4 _ (by omega))
  replace hL0 := hL0.kept (oq4 _ (by omega))
  replace hG := hG.kept (oq4 _ (by omega))
  refine lv_iconst (v := nI 0) X.1.1 X.1.2.1 d_Automaton_listPrefixes_5 (by decide) ?_
  refine g_istn X.1.1 X.1.2.1 hl 1 d_Automaton_listPrefixes_6 rfl (Nat.le_of_ble_eq_true rfl) rfl (fun ls hl => ?_)
  have loop7 : ∀ (fu : Nat) (i : Nat) (Hn : Heap) (locs : List Loc) (ls : Array Slot), n - i < fu → (i ≤ n) → (va_at D CL (ab, .inr (5, [.ref (ab + 1), .int (nI n), .ref (ab + 130), .ref (ab + 131), .ref (ab + 132), .ref (ab + 133), .int (nI (a_pre ks i).length), .ref (ab + 134), .int (nI S), .int (nI sp), .int (nI fi)])) Hn) → ((∃ F1 T1 L1 G1 : Nat → Int32, va_at D CL (ab + 130, .inl (q 0, 513, .inl F1)) Hn ∧ va_at D CL (ab + 131, .inl (q 0, 513, .inl T1)) Hn ∧ va_at D CL (ab + 132, .inl (q 0, 513, .inl L1)) Hn ∧ va_at D CL (ab + 133, .inl (q 0, 513, .inl G1)) Hn ∧ aE ks n (a_pre ks i) F1 T1 L1 G1)) → (∀ p : Nat, ¬ (p = ab ∨ (ab + 130 ≤ p ∧ p ≤ ab + 133)) → Hn[p]? = H[p]?) → (Hn.size = H.size) → (∀ x ∈ locs, (fun p => p = ab ∨ (ab + 130 ≤ p ∧ p ≤ ab + 133)) x.base) → gl ls [some (.ref ab), some (.int (nI i)), none, none] → W p l e (gR 2 46 0 0) s m ([.ref ab] : List Value).toArray below meth c Hn locs 0 0 (gQ below ([.ref ab] : List Value).toArray s (fun v H1 => v = none ∧ va_at D CL (ab, .inr (5, [.ref (ab + 1), .int (nI n), .ref (ab + 130), .ref (ab + 131), .ref (ab + 132), .ref (ab + 133), .int (nI (a_pre ks n).length), .ref (ab + 134), .int (nI S), .int (nI sp), .int (nI fi)])) H1 ∧ (∃ F1 T1 L1 G1 : Nat → Int32, va_at D CL (ab + 130, .inl (q 0, 513, .inl F1)) H1 ∧ va_at D CL (ab + 131, .inl (q 0, 513, .inl T1)) H1 ∧ va_at D CL (ab + 132, .inl (q 0, 513, .inl L1)) H1 ∧ va_at D CL (ab + 133, .inl (q 0, 513, .inl G1)) H1 ∧ aE ks n (a_pre ks n) F1 T1 L1 G1) ∧ H1.size = H.size ∧ ∀ p : Nat, ¬ (p = ab ∨ (ab + 130 ≤ p ∧ p ≤ ab + 133)) → H1[p]? = H[p]?) 0 0 (fun p => p = ab ∨ (ab + 130 ≤ p ∧ p ≤ ab + 133))) (F0 m 7 ls []) := by
    intro fu
    induction fu with
    | zero => intro i Hn locs ls hmu; omega
    | succ fu ih7 =>
      intro i Hn locs ls hmu7 hi7_0 ho hX fr zz hL hl
      obtain ⟨F, T, L, G, hF, hT, hL0, hG, hE0⟩ := hX
      have hk := hkA.kept (fun p h1 h2 => fr p (by omega))
      have hk0 := hk
      obtain ⟨⟨kf, hkf, hkg⟩, hks⟩ := hk
      have hk := hk0
      refine lv_iload_n X.1.1 X.1.2.1 d_Automaton_listPrefixes_7 rfl (gl_at hl rfl) ?_
      refine lv_aload_n X.1.1 X.1.2.1 d_Automaton_listPrefixes_8 rfl (gl_at hl rfl) ?_
      refine g_get X kc_Automaton ho 1 (by decide) lk_Automaton_40 rfl d_Automaton_listPrefixes_9 ?_
      refine gn_ge X.1.1 X.1.2.1 i n (by omega) (by omega) d_Automaton_listPrefixes_12 rfl (fun hc12 => ?_) (fun hc12 => ?_)
      · have e9 : i = n := by omega
        subst e9
        exact g_vret X B ⟨rfl, ho, ⟨F, T, L, G, hF, hT, hL0, hG, hE0⟩, zz, fr⟩ hL d_Automaton_listPrefixes_76 (by omega) (by omega)
      · refine lv_iload_n X.1.1 X.1.2.1 d_Automaton_listPrefixes_15 rfl (gl_at hl rfl) ?_
        refine gn_ne0 X.1.1 X.1.2.1 i (by omega) d_Automaton_listPrefixes_16 rfl (fun hc16 => ?_) (fun hc16 => ?_)
        · refine lv_aload_n X.1.1 X.1.2.1 d_Automaton_listPrefixes_23 rfl (gl_at hl rfl) ?_
          refine g_get X kc_Automaton ho 0 (by decide) lk_Automaton_11 rfl d_Automaton_listPrefixes_24 ?_
          refine lv_iload_n X.1.1 X.1.2.1 d_Automaton_listPrefixes_27 rfl (gl_at hl rfl) ?_
          refine g_aald X 3 hkf rfl i (by omega) (by decide) (v := .ref (ab + 2 + 2 * i)) (by rw [hkg _ (by omega)]; rfl) d_Automaton_listPrefixes_28 ?_
          refine lv_aload_n X.1.1 X.1.2.1 d_Automaton_listPrefixes_29 rfl (gl_at hl rfl) ?_
          refine g_get X kc_Automaton ho 0 (by decide) lk_Automaton_11 rfl d_Automaton_listPrefixes_30 ?_
          refine lv_iload_n X.1.1 X.1.2.1 d_Automaton_listPrefixes_33 rfl (gl_at hl rfl) ?_
          refine lv_iconst (v := nI 1) X.1.1 X.1.2.1 d_Automaton_listPrefixes_34 (by decide) ?_
          refine lv_isub X.1.1 X.1.2.1 d_Automaton_listPrefixes_35 ?_
          refine g_top (nI (i - 1)) (pk_sub (by omega)) ?_
          refine g_aald X 3 hkf rfl (i - 1) (by omega) (by decide) (v := .ref (ab + 2 + 2 * (i - 1))) (by rw [hkg _ (by omega)]; rfl) d_Automaton_listPrefixes_36 ?_
          have i1 := t_lcp_le1 (ks i) (ks (i - 1))
          refine g_cv (A := (fun p => p = ab ∨ (ab + 130 ≤ p ∧ p ≤ ab + 133))) X gWS_good mw_Automaton_66 kc_Key (hks i (by omega)).1 (c_Key_shared l D q Hn (ab + 2 + 2 * i) (ab + 2 + 2 * (i - 1)) (ks i) (ks (i - 1)) (hks i (by omega)) (hks (i - 1) (by omega))) (fun _ _ _ => trivial) gBlind.tt rfl rfl hl.1 (Nat.le_of_ble_eq_true rfl) rfl rfl ⟨by decide, by decide⟩ ⟨by decide, by decide⟩ d_Automaton_listPrefixes_37 (fun _ h => h.elim) hL (fun v5 H6 locs hp7 hL => ?_)
          obtain ⟨rfl, hHe⟩ := hp7
          rw [hHe]
          refine lv_iconst (v := nI 1) X.1.1 X.1.2.1 d_Automaton_listPrefixes_40 (by decide) ?_
          refine lv_iadd X.1.1 X.1.2.1 d_Automaton_listPrefixes_41 ?_
          refine g_top (nI ((t_lcp (ks i) (ks (i - 1))) + 1)) (nI_add _ _) ?_
          refine g_top (nI (a_sh ks i)) (by unfold a_sh; first | rw [if_pos hc16] | rw [if_neg hc16]) ?_
          refine g_istn X.1.1 X.1.2.1 hl 2 d_Automaton_listPrefixes_42 rfl (Nat.le_of_ble_eq_true rfl) rfl (fun ls hl => ?_)
          refine lv_iload_n X.1.1 X.1.2.1 d_Automaton_listPrefixes_43 rfl (gl_at hl rfl) ?_
          refine g_istn X.1.1 X.1.2.1 hl 3 d_Automaton_listPrefixes_44 rfl (Nat.le_of_ble_eq_true rfl) rfl (fun ls hl => ?_)
          have loop45 : ∀ (fu : Nat) (len : Nat) (Hn : Heap) (locs : List Loc) (ls : Array Slot), (ks i).length + 1 - len < fu → (a_sh ks i ≤ len) → (len ≤ (ks i).length + 1 ∨ len = a_sh ks i) → (va_at D CL (ab, .inr (5, [.ref (ab + 1), .int (nI n), .ref (ab + 130), .ref (ab + 131), .ref (ab + 132), .ref (ab + 133), .int (nI (a_es ks i len).length), .ref (ab + 134), .int (nI S), .int (nI sp), .int (nI fi)])) Hn) → ((∃ F1 T1 L1 G1 : Nat → Int32, va_at D CL (ab + 130, .inl (q 0, 513, .inl F1)) Hn ∧ va_at D CL (ab + 131, .inl (q 0, 513, .inl T1)) Hn ∧ va_at D CL (ab + 132, .inl (q 0, 513, .inl L1)) Hn ∧ va_at D CL (ab + 133, .inl (q 0, 513, .inl G1)) Hn ∧ aE ks n (a_es ks i len) F1 T1 L1 G1)) → (∀ p : Nat, ¬ (p = ab ∨ (ab + 130 ≤ p ∧ p ≤ ab + 133)) → Hn[p]? = H[p]?) → (Hn.size = H.size) → (∀ x ∈ locs, (fun p => p = ab ∨ (ab + 130 ≤ p ∧ p ≤ ab + 133)) x.base) → gl ls [some (.ref ab), some (.int (nI i)), some (.int (nI (a_sh ks i))), some (.int (nI len))] → W p l e (gR 2 46 0 0) s m ([.ref ab] : List Value).toArray below meth c Hn locs 0 0 (gQ below ([.ref ab] : List Value).toArray s (fun v H1 => v = none ∧ va_at D CL (ab, .inr (5, [.ref (ab + 1), .int (nI n), .ref (ab + 130), .ref (ab + 131), .ref (ab + 132), .ref (ab + 133), .int (nI (a_pre ks n).length), .ref (ab + 134), .int (nI S), .int (nI sp), .int (nI fi)])) H1 ∧ (∃ F1 T1 L1 G1 : Nat → Int32, va_at D CL (ab + 130, .inl (q 0, 513, .inl F1)) H1 ∧ va_at D CL (ab + 131, .inl (q 0, 513, .inl T1)) H1 ∧ va_at D CL (ab + 132, .inl (q 0, 513, .inl L1)) H1 ∧ va_at D CL (ab + 133, .inl (q 0, 513, .inl G1)) H1 ∧ aE ks n (a_pre ks n) F1 T1 L1 G1) ∧ H1.size = H.size ∧ ∀ p : Nat, ¬ (p = ab ∨ (ab + 130 ≤ p ∧ p ≤ ab + 133)) → H1[p]? = H[p]?) 0 0 (fun p => p = ab ∨ (ab + 130 ≤ p ∧ p ≤ ab + 133))) (F0 m 45 ls []) := by
            intro fu
            induction fu with
            | zero => intro len Hn locs ls hmu; omega
            | succ fu ih45 =>
              intro len Hn locs ls hmu45 hi45_0 hi45_1 ho hX fr zz hL hl
              obtain ⟨F, T, L, G, hF, hT, hL0, hG, hE0⟩ := hX
              have hk := hkA.kept (fun p h1 h2 => fr p (by omega))
              have hk0 := hk
              obtain ⟨⟨kf, hkf, hkg⟩, hks⟩ := hk
              have hk := hk0
              have hs8 := hs9 i (by omega)
              have hx8 := hk8 i (by omega)
              refine lv_iload_n X.1.1 X.1.2.1 d_Automaton_listPrefixes_45 rfl (gl_at hl rfl) ?_
              refine lv_aload_n X.1.1 X.1.2.1 d_Automaton_listPrefixes_46 rfl (gl_at hl rfl) ?_
              refine g_get X kc_Automaton ho 0 (by decide) lk_Automaton_11 rfl d_Automaton_listPrefixes_47 ?_
              refine lv_iload_n X.1.1 X.1.2.1 d_Automaton_listPrefixes_50 rfl (gl_at hl rfl) ?_
              refine g_aald X 3 hkf rfl i (by omega) (by decide) (v := .ref (ab + 2 + 2 * i)) (by rw [hkg _ (by omega)]; rfl) d_Automaton_listPrefixes_51 ?_
              obtain ⟨hki, hli, hxl, hxc⟩ := hks i (by omega)
              refine g_get X kc_Key hki 1 (by decide) lk_Automaton_70 rfl d_Automaton_listPrefixes_52 ?_
              refine gn_gt X.1.1 X.1.2.1 len ((ks i).length) (by omega) (by omega) d_Automaton_listPrefixes_55 rfl (fun hc55 => ?_) (fun hc55 => ?_)
              · refine g_iinc X.1.1 X.1.2.1 (nI (i + 1)) hl 1 d_Automaton_listPrefixes_70 rfl (nI_1 _) rfl (fun ls hl => ?_)
                refine lv_goto X.1.1 X.1.2.1 d_Automaton_listPrefixes_73 rfl ?_
                exact ih7 (i + 1) Hn locs ls (by omega) (by omega) (by rw [← a_es_end hc55 hi45_1]; exact ho) (by rw [← a_es_end hc55 hi45_1]; exact ⟨F, T, L, G, hF, hT, hL0, hG, hE0⟩) fr zz hL (gl_forget (gl_forget hl 2) 3)
              · refine lv_aload_n X.1.1 X.1.2.1 d_Automaton_listPrefixes_58 rfl (gl_at hl rfl) ?_
                refine lv_iload_n X.1.1 X.1.2.1 d_Automaton_listPrefixes_59 rfl (gl_at hl rfl) ?_
                refine lv_iload_n X.1.1 X.1.2.1 d_Automaton_listPrefixes_60 rfl (gl_at hl rfl) ?_
                refine g_cv (A := (fun p => p = ab ∨ (ab + 130 ≤ p ∧ p ≤ ab + 133))) X gWS_good mw_Automaton_73 kc_Automaton ho (c_Automaton_addPrefix l D q Hn ab n (a_es ks i len) S sp fi ks ho hk hn F T L G hF hT hL0 hG hE0 (a_es_len hk8 hn (by omega) hi45_0 (by omega)) i len (by omega) (by omega)) (fun _ _ _ => trivial) gBlind.tt rfl rfl hl.1 (Nat.le_of_ble_eq_true rfl) rfl rfl ⟨by decide, by decide⟩ ⟨by decide, by decide⟩ d_Automaton_listPrefixes_61 (fun p h => h) hL (fun v8 H9 locs hp10 hL => ?_)
                obtain ⟨rfl, ho2, hX2, hz2, fr2⟩ := hp10
                rw [a_es_s hi45_0] at ho2 hX2
                refine g_iinc X.1.1 X.1.2.1 (nI (len + 1)) hl 3 d_Automaton_listPrefixes_64 rfl (nI_1 _) rfl (fun ls hl => ?_)
                refine lv_goto X.1.1 X.1.2.1 d_Automaton_listPrefixes_67 rfl ?_
                exact ih45 (len + 1) H9 locs ls (by omega) (by omega) (by omega) ho2 hX2 (fun p hp => (fr2 p hp).trans (fr p hp)) (hz2.trans zz) hL hl
          exact loop45 _ (a_sh ks i) Hn locs ls (Nat.lt_succ_self _) (Nat.le_refl _) (Or.inr rfl) (by rw [a_es_0]; exact ho) (by rw [a_es_0]; exact ⟨F, T, L, G, hF, hT, hL0, hG, hE0⟩) fr zz hL hl
        · refine lv_iconst (v := nI 0) X.1.1 X.1.2.1 d_Automaton_listPrefixes_19 (by decide) ?_
          refine lv_goto X.1.1 X.1.2.1 d_Automaton_listPrefixes_20 rfl ?_
          refine g_top (nI (a_sh ks i)) (by unfold a_sh; first | rw [if_pos hc16] | rw [if_neg hc16]) ?_
          refine g_istn X.1.1 X.1.2.1 hl 2 d_Automaton_listPrefixes_42 rfl (Nat.le_of_ble_eq_true rfl) rfl (fun ls hl => ?_)
          refine lv_iload_n X.1.1 X.1.2.1 d_Automaton_listPrefixes_43 rfl (gl_at hl rfl) ?_
          refine g_istn X.1.1 X.1.2.1 hl 3 d_Automaton_listPrefixes_44 rfl (Nat.le_of_ble_eq_true rfl) rfl (fun ls hl => ?_)
          have loop45 : ∀ (fu : Nat) (len : Nat) (Hn : Heap) (locs : List Loc) (ls : Array Slot), (ks i).length + 1 - len < fu → (a_sh ks i ≤ len) → (len ≤ (ks i).length + 1 ∨ len = a_sh ks i) → (va_at D CL (ab, .inr (5, [.ref (ab + 1), .int (nI n), .ref (ab + 130), .ref (ab + 131), .ref (ab + 132), .ref (ab + 133), .int (nI (a_es ks i len).length), .ref (ab + 134), .int (nI S), .int (nI sp), .int (nI fi)])) Hn) → ((∃ F1 T1 L1 G1 : Nat → Int32, va_at D CL (ab + 130, .inl (q 0, 513, .inl F1)) Hn ∧ va_at D CL (ab + 131, .inl (q 0, 513, .inl T1)) Hn ∧ va_at D CL (ab + 132, .inl (q 0, 513, .inl L1)) Hn ∧ va_at D CL (ab + 133, .inl (q 0, 513, .inl G1)) Hn ∧ aE ks n (a_es ks i len) F1 T1 L1 G1)) → (∀ p : Nat, ¬ (p = ab ∨ (ab + 130 ≤ p ∧ p ≤ ab + 133)) → Hn[p]? = H[p]?) → (Hn.size = H.size) → (∀ x ∈ locs, (fun p => p = ab ∨ (ab + 130 ≤ p ∧ p ≤ ab + 133)) x.base) → gl ls [some (.ref ab), some (.int (nI i)), some (.int (nI (a_sh ks i))), some (.int (nI len))] → W p l e (gR 2 46 0 0) s m ([.ref ab] : List Value).toArray below meth c Hn locs 0 0 (gQ below ([.ref ab] : List Value).toArray s (fun v H1 => v = none ∧ va_at D CL (ab, .inr (5, [.ref (ab + 1), .int (nI n), .ref (ab + 130), .ref (ab + 131), .ref (ab + 132), .ref (ab + 133), .int (nI (a_pre ks n).length), .ref (ab + 134), .int (nI S), .int (nI sp), .int (nI fi)])) H1 ∧ (∃ F1 T1 L1 G1 : Nat → Int32, va_at D CL (ab + 130, .inl (q 0, 513, .inl F1)) H1 ∧ va_at D CL (ab + 131, .inl (q 0, 513, .inl T1)) H1 ∧ va_at D CL (ab + 132, .inl (q 0, 513, .inl L1)) H1 ∧ va_at D CL (ab + 133, .inl (q 0, 513, .inl G1)) H1 ∧ aE ks n (a_pre ks n) F1 T1 L1 G1) ∧ H1.size = H.size ∧ ∀ p : Nat, ¬ (p = ab ∨ (ab + 130 ≤ p ∧ p ≤ ab + 133)) → H1[p]? = H[p]?) 0 0 (fun p => p = ab ∨ (ab + 130 ≤ p ∧ p ≤ ab + 133))) (F0 m 45 ls []) := by
            intro fu
            induction fu with
            | zero => intro len Hn locs ls hmu; omega
            | succ fu ih45 =>
              intro len Hn locs ls hmu45 hi45_0 hi45_1 ho hX fr zz hL hl
              obtain ⟨F, T, L, G, hF, hT, hL0, hG, hE0⟩ := hX
              have hk := hkA.kept (fun p h1 h2 => fr p (by omega))
              have hk0 := hk
              obtain ⟨⟨kf, hkf, hkg⟩, hks⟩ := hk
              have hk := hk0
              have hs8 := hs9 i (by omega)
              have hx8 := hk8 i (by omega)
              refine lv_iload_n X.1.1 X.1.2.1 d_Automaton_listPrefixes_45 rfl (gl_at hl rfl) ?_
              refine lv_aload_n X.1.1 X.1.2.1 d_Automaton_listPrefixes_46 rfl (gl_at hl rfl) ?_
              refine g_get X kc_Automaton ho 0 (by decide) lk_Automaton_11 rfl d_Automaton_listPrefixes_47 ?_
              refine lv_iload_n X.1.1 X.1.2.1 d_Automaton_listPrefixes_50 rfl (gl_at hl rfl) ?_
              refine g_aald X 3 hkf rfl i (by omega) (by decide) (v := .ref (ab + 2 + 2 * i)) (by rw [hkg _ (by omega)]; rfl) d_Automaton_listPrefixes_51 ?_
              obtain ⟨hki, hli, hxl, hxc⟩ := hks i (by omega)
              refine g_get X kc_Key hki 1 (by decide) lk_Automaton_70 rfl d_Automaton_listPrefixes_52 ?_
              refine gn_gt X.1.1 X.1.2.1 len ((ks i).length) (by omega) (by omega) d_Automaton_listPrefixes_55 rfl (fun hc55 => ?_) (fun hc55 => ?_)
              · refine g_iinc X.1.1 X.1.2.1 (nI (i + 1)) hl 1 d_Automaton_listPrefixes_70 rfl (nI_1 _) rfl (fun ls hl => ?_)
                refine lv_goto X.1.1 X.1.2.1 d_Automaton_listPrefixes_73 rfl ?_
                exact ih7 (i + 1) Hn locs ls (by omega) (by omega) (by rw [← a_es_end hc55 hi45_1]; exact ho) (by rw [← a_es_end hc55 hi45_1]; exact ⟨F, T, L, G, hF, hT, hL0, hG, hE0⟩) fr zz hL (gl_forget (gl_forget hl 2) 3)
              · refine lv_aload_n X.1.1 X.1.2.1 d_Automaton_listPrefixes_58 rfl (gl_at hl rfl) ?_
                refine lv_iload_n X.1.1 X.1.2.1 d_Automaton_listPrefixes_59 rfl (gl_at hl rfl) ?_
                refine lv_iload_n X.1.1 X.1.2.1 d_Automaton_listPrefixes_60 rfl (gl_at hl rfl) ?_
                refine g_cv (A := (fun p => p = ab ∨ (ab + 130 ≤ p ∧ p ≤ ab + 133))) X gWS_good mw_Automaton_73 kc_Automaton ho (c_Automaton_addPrefix l D q Hn ab n (a_es ks i len) S sp fi ks ho hk hn F T L G hF hT hL0 hG hE0 (a_es_len hk8 hn (by omega) hi45_0 (by omega)) i len (by omega) (by omega)) (fun _ _ _ => trivial) gBlind.tt rfl rfl hl.1 (Nat.le_of_ble_eq_true rfl) rfl rfl ⟨by decide, by decide⟩ ⟨by decide, by decide⟩ d_Automaton_listPrefixes_61 (fun p h => h) hL (fun v11 H12 locs hp13 hL => ?_)
                obtain ⟨rfl, ho2, hX2, hz2, fr2⟩ := hp13
                rw [a_es_s hi45_0] at ho2 hX2
                refine g_iinc X.1.1 X.1.2.1 (nI (len + 1)) hl 3 d_Automaton_listPrefixes_64 rfl (nI_1 _) rfl (fun ls hl => ?_)
                refine lv_goto X.1.1 X.1.2.1 d_Automaton_listPrefixes_67 rfl ?_
                exact ih45 (len + 1) H12 locs ls (by omega) (by omega) (by omega) ho2 hX2 (fun p hp => (fr2 p hp).trans (fr p hp)) (hz2.trans zz) hL hl
          exact loop45 _ (a_sh ks i) Hn locs ls (Nat.lt_succ_self _) (Nat.le_refl _) (Or.inr rfl) (by rw [a_es_0]; exact ho) (by rw [a_es_0]; exact ⟨F, T, L, G, hF, hT, hL0, hG, hE0⟩) fr zz hL hl
  exact loop7 _ 0 H1 locs ls (Nat.lt_succ_self _) (Nat.zero_le _) h2 ⟨F, T, L, G, hF, hT, hL0, hG, fun x hx => absurd hx (Nat.not_lt_zero x)⟩ (fun p hp => (oq4 p (by omega))) z3 hL hl

set_option maxHeartbeats 4000000 in
set_option maxRecDepth 100000 in
theorem c_Automaton_countStates (l : Launch) (D : va_G) (q : Nat → ClassId) (H : Heap) (ab n : Nat) (es : List (Nat × Nat)) (S sp fi : Nat) (ks : Nat → List Nat) (ho : va_at D CL (ab, .inr (5, [.ref (ab + 1), .int (nI n), .ref (ab + 130), .ref (ab + 131), .ref (ab + 132), .ref (ab + 133), .int (nI es.length), .ref (ab + 134), .int (nI S), .int (nI sp), .int (nI fi)])) H) (hk : aK D q H ab ks) (hn : n ≤ 64) (F T L G U : Nat → Int32) (hF : va_at D CL (ab + 130, .inl (q 0, 513, .inl F)) H) (hT : va_at D CL (ab + 131, .inl (q 0, 513, .inl T)) H) (hL0 : va_at D CL (ab + 132, .inl (q 0, 513, .inl L)) H) (hG : va_at D CL (ab + 133, .inl (q 0, 513, .inl G)) H) (hU : va_at D CL (ab + 134, .inl (q 0, 513, .inl U)) H) (hE0 : aE ks n es F T L G) (hok : a_ok ks n es) (hes : es.length ≤ 513) : gC l y_Automaton_countStates (Cond.code y_Automaton_countStates b_Automaton_countStates 4 none :: gWS) (gR 3 73 0 0) D CL (gY q) (fun _ => True) [.ref ab] H (fun v H1 => v = none ∧ (∃ us : List Nat, va_at D CL (ab, .inr (5, [.ref (ab + 1), .int (nI n), .ref (ab + 130), .ref (ab + 131), .ref (ab + 132), .ref (ab + 133), .int (nI es.length), .ref (ab + 134), .int (nI us.length), .int (nI (a_sum (a_stp ks n es) us)), .int (nI (a_sum (a_fnl ks es) us))])) H1 ∧ a_fin ks n es us) ∧ (∃ U1 : Nat → Int32, va_at D CL (ab + 134, .inl (q 0, 513, .inl U1)) H1) ∧ H1.size = H.size ∧ ∀ p : Nat, ¬ (p = ab ∨ p = ab + 134) → H1[p]? = H[p]?) 0 0 (fun p => p = ab ∨ p = ab + 134) := by
  refine gC.ofW R_Automaton "countStates" (by decide) rfl rfl ?_
  intro p e s m below meth c hadm X hE hH B hne
  refine g_entry [some (.ref ab), none, none, none] rfl rfl (Nat.le_of_ble_eq_true rfl) (fun ls hl => ?_)
  have hkA := hk
  have hFA := hF
  have hTA := hT
  have hL0A := hL0
  have hGA := hG
  have hk0 := hk
  obtain ⟨⟨kf, hkf, hkg⟩, hks⟩ := hk
  have hk := hk0
  have hk8 : ∀ j, j < n → (ks j).length ≤ 8 := fun j hj => (hks j (by omega)).2.2.1
  refine lv_aload_n X.1.1 X.1.2.1 d_Automaton_countStates_0 rfl (gl_at hl rfl) ?_
  refine lv_iconst (v := nI 0) X.1.1 X.1.2.1 d_Automaton_countStates_1 (by decide) ?_
  refine g_put (A := (fun p => p = ab ∨ p = ab + 134)) X kc_Automaton ho 8 (by decide) lk_Automaton_83 rfl rfl rfl (Nat.le_of_ble_eq_true rfl) d_Automaton_countStates_2 (show _ ∨ _ by omega) (fun _ h => by cases h) (fun H1 locs h2 z3 oq4 hL => ?_)
  replace hkf := hkf.kept (oq4 _ (by omega))
  replace hF := hF.kept (oq4 _ (by omega))
  replace hT := hT.kept (oq4 _ (by omega))
  replace hL0 := hL0.kept (oq4 _ (by omega))
  replace hG := hG.kept (oq4 _ (by omega))
  replace hU := hU.kept (oq4 _ (by omega))
  refine lv_aload_n X.1.1 X.1.2.1 d_Automaton_countStates_5 rfl (gl_at hl rfl) ?_
  refine lv_iconst (v := nI 0) X.1.1 X.1.2.1 d_Automaton_countStates_6 (by decide) ?_
  refine g_put (A := (fun p => p = ab ∨ p = ab + 134)) X kc_Automaton h2 9 (by decide) lk_Automaton_86 rfl rfl rfl (Nat.le_of_ble_eq_true rfl) d_Automaton_countStates_7 (show _ ∨ _ by omega) hL (fun H5 locs h6 z7 oq8 hL => ?_)
  replace hkf := hkf.kept (oq8 _ (by omega))
  replace hF := hF.kept (oq8 _ (by omega))
  replace hT := hT.kept (oq8 _ (by omega))
  replace hL0 := hL0.kept (oq8 _ (by omega))
  replace hG := hG.kept (oq8 _ (by omega))
  replace hU := hU.kept (oq8 _ (by omega))
  refine lv_aload_n X.1.1 X.1.2.1 d_Automaton_countStates_10 rfl (gl_at hl rfl) ?_
  refine lv_iconst (v := nI 0) X.1.1 X.1.2.1 d_Automaton_countStates_11 (by decide) ?_
  refine g_put (A := (fun p => p = ab ∨ p = ab + 134)) X kc_Automaton h6 10 (by decide) lk_Automaton_89 rfl rfl rfl (Nat.le_of_ble_eq_true rfl) d_Automaton_countStates_12 (show _ ∨ _ by omega) hL (fun H9 locs h10 z11 oq12 hL => ?_)
  replace hkf := hkf.kept (oq12 _ (by omega))
  replace hF := hF.kept (oq12 _ (by omega))
  replace hT := hT.kept (oq12 _ (by omega))
  replace hL0 := hL0.kept (oq12 _ (by omega))
  replace hG := hG.kept (oq12 _ (by omega))
  replace hU := hU.kept (oq12 _ (by omega))
  refine lv_iconst (v := nI 0) X.1.1 X.1.2.1 d_Automaton_countStates_15 (by decide) ?_
  refine g_istn X.1.1 X.1.2.1 hl 1 d_Automaton_countStates_16 rfl (Nat.le_of_ble_eq_true rfl) rfl (fun ls hl => ?_)
  have loop17 : ∀ (fu : Nat) (h : Nat) (us : List Nat) (Hn : Heap) (locs : List Loc) (ls : Array Slot), 9 - h < fu → (h ≤ 9) → (a_stI ks n es h 0 us) → (va_at D CL (ab, .inr (5, [.ref (ab + 1), .int (nI n), .ref (ab + 130), .ref (ab + 131), .ref (ab + 132), .ref (ab + 133), .int (nI es.length), .ref (ab + 134), .int (nI us.length), .int (nI (a_sum (a_stp ks n es) us)), .int (nI (a_sum (a_fnl ks es) us))])) Hn) → ((∃ U1 : Nat → Int32, va_at D CL (ab + 134, .inl (q 0, 513, .inl U1)) Hn ∧ ∀ t, t < us.length → U1 t = nI (us.getD t 0))) → (∀ p : Nat, ¬ (p = ab ∨ p = ab + 134) → Hn[p]? = H[p]?) → (Hn.size = H.size) → (∀ x ∈ locs, (fun p => p = ab ∨ p = ab + 134) x.base) → gl ls [some (.ref ab), some (.int (nI h)), none, none] → W p l e (gR 3 73 0 0) s m ([.ref ab] : List Value).toArray below meth c Hn locs 0 0 (gQ below ([.ref ab] : List Value).toArray s (fun v H1 => v = none ∧ (∃ us : List Nat, va_at D CL (ab, .inr (5, [.ref (ab + 1), .int (nI n), .ref (ab + 130), .ref (ab + 131), .ref (ab + 132), .ref (ab + 133), .int (nI es.length), .ref (ab + 134), .int (nI us.length), .int (nI (a_sum (a_stp ks n es) us)), .int (nI (a_sum (a_fnl ks es) us))])) H1 ∧ a_fin ks n es us) ∧ (∃ U1 : Nat → Int32, va_at D CL (ab + 134, .inl (q 0, 513, .inl U1)) H1) ∧ H1.size = H.size ∧ ∀ p : Nat, ¬ (p = ab ∨ p = ab + 134) → H1[p]? = H[p]?) 0 0 (fun p => p = ab ∨ p = ab + 134)) (F0 m 17 ls []) := by
    intro fu
    induction fu with
    | zero => intro h us Hn locs ls hmu; omega
    | succ fu ih17 =>
      intro h us Hn locs ls hmu17 hi17_0 hi17_1 ho hUX fr zz hL hl
      obtain ⟨U, hU, hus⟩ := hUX
      have hk := hkA.kept (fun p h1 h2 => fr p (by omega))
      have hF := va_at.kept hFA (fr _ (by omega))
      have hT := va_at.kept hTA (fr _ (by omega))
      have hL0 := va_at.kept hL0A (fr _ (by omega))
      have hG := va_at.kept hGA (fr _ (by omega))
      have hk0 := hk
      obtain ⟨⟨kf, hkf, hkg⟩, hks⟩ := hk
      have hk := hk0
      refine lv_iload_n X.1.1 X.1.2.1 d_Automaton_countStates_17 rfl (gl_at hl rfl) ?_
      refine lv_bipush (v := nI 8) X.1.1 X.1.2.1 d_Automaton_countStates_18 (by decide) ?_
      refine gn_gt X.1.1 X.1.2.1 h 8 (by omega) (by omega) d_Automaton_countStates_20 rfl (fun hc20 => ?_) (fun hc20 => ?_)
      · have e9 : h = 9 := by omega
        rw [e9] at hi17_1
        exact g_vret X B ⟨rfl, ⟨us, ho, hi17_1.fin hk8 hok⟩, ⟨U, hU⟩, zz, fr⟩ hL d_Automaton_countStates_74 (by omega) (by omega)
      · refine lv_aload_n X.1.1 X.1.2.1 d_Automaton_countStates_23 rfl (gl_at hl rfl) ?_
        refine g_get X kc_Automaton ho 8 (by decide) lk_Automaton_83 rfl d_Automaton_countStates_24 ?_
        obtain ⟨f0, hf0⟩ : ∃ z, z = us.length := ⟨_, rfl⟩
        refine g_top (nI f0) (by rw [hf0]) ?_
        refine g_istn X.1.1 X.1.2.1 hl 2 d_Automaton_countStates_27 rfl (Nat.le_of_ble_eq_true rfl) rfl (fun ls hl => ?_)
        refine lv_iconst (v := nI 0) X.1.1 X.1.2.1 d_Automaton_countStates_28 (by decide) ?_
        refine g_istn X.1.1 X.1.2.1 hl 3 d_Automaton_countStates_29 rfl (Nat.le_of_ble_eq_true rfl) rfl (fun ls hl => ?_)
        have loop30 : ∀ (fu : Nat) (x : Nat) (us : List Nat) (Hn : Heap) (locs : List Loc) (ls : Array Slot), es.length - x < fu → (x ≤ es.length) → (a_stI ks n es h x us) → (a_lo ks n es h f0 us) → (va_at D CL (ab, .inr (5, [.ref (ab + 1), .int (nI n), .ref (ab + 130), .ref (ab + 131), .ref (ab + 132), .ref (ab + 133), .int (nI es.length), .ref (ab + 134), .int (nI us.length), .int (nI (a_sum (a_stp ks n es) us)), .int (nI (a_sum (a_fnl ks es) us))])) Hn) → ((∃ U1 : Nat → Int32, va_at D CL (ab + 134, .inl (q 0, 513, .inl U1)) Hn ∧ ∀ t, t < us.length → U1 t = nI (us.getD t 0))) → (∀ p : Nat, ¬ (p = ab ∨ p = ab + 134) → Hn[p]? = H[p]?) → (Hn.size = H.size) → (∀ x ∈ locs, (fun p => p = ab ∨ p = ab + 134) x.base) → gl ls [some (.ref ab), some (.int (nI h)), some (.int (nI f0)), some (.int (nI x))] → W p l e (gR 3 73 0 0) s m ([.ref ab] : List Value).toArray below meth c Hn locs 0 0 (gQ below ([.ref ab] : List Value).toArray s (fun v H1 => v = none ∧ (∃ us : List Nat, va_at D CL (ab, .inr (5, [.ref (ab + 1), .int (nI n), .ref (ab + 130), .ref (ab + 131), .ref (ab + 132), .ref (ab + 133), .int (nI es.length), .ref (ab + 134), .int (nI us.length), .int (nI (a_sum (a_stp ks n es) us)), .int (nI (a_sum (a_fnl ks es) us))])) H1 ∧ a_fin ks n es us) ∧ (∃ U1 : Nat → Int32, va_at D CL (ab + 134, .inl (q 0, 513, .inl U1)) H1) ∧ H1.size = H.size ∧ ∀ p : Nat, ¬ (p = ab ∨ p = ab + 134) → H1[p]? = H[p]?) 0 0 (fun p => p = ab ∨ p = ab + 134)) (F0 m 30 ls []) := by
          intro fu
          induction fu with
          | zero => intro x us Hn locs ls hmu; omega
          | succ fu ih30 =>
            intro x us Hn locs ls hmu30 hi30_0 hi30_1 hi30_2 ho hUX fr zz hL hl
            obtain ⟨U, hU, hus⟩ := hUX
            have hk := hkA.kept (fun p h1 h2 => fr p (by omega))
            have hF := va_at.kept hFA (fr _ (by omega))
            have hT := va_at.kept hTA (fr _ (by omega))
            have hL0 := va_at.kept hL0A (fr _ (by omega))
            have hG := va_at.kept hGA (fr _ (by omega))
            have hk0 := hk
            obtain ⟨⟨kf, hkf, hkg⟩, hks⟩ := hk
            have hk := hk0
            refine lv_iload_n X.1.1 X.1.2.1 d_Automaton_countStates_30 rfl (gl_at hl rfl) ?_
            refine lv_aload_n X.1.1 X.1.2.1 d_Automaton_countStates_31 rfl (gl_at hl rfl) ?_
            refine g_get X kc_Automaton ho 6 (by decide) lk_Automaton_63 rfl d_Automaton_countStates_32 ?_
            refine gn_ge X.1.1 X.1.2.1 x es.length (by omega) (by omega) d_Automaton_countStates_35 rfl (fun hc35 => ?_) (fun hc35 => ?_)
            · have e8 : x = es.length := by omega
              refine g_iinc X.1.1 X.1.2.1 (nI (h + 1)) hl 1 d_Automaton_countStates_68 rfl (nI_1 _) rfl (fun ls hl => ?_)
              refine lv_goto X.1.1 X.1.2.1 d_Automaton_countStates_71 rfl ?_
              exact ih17 (h + 1) us Hn locs ls (by omega) (by omega) (a_stI.next (by rw [← e8]; exact hi30_1)) ho ⟨U, hU, hus⟩ fr zz hL (gl_forget (gl_forget hl 2) 3)
            · refine lv_aload_n X.1.1 X.1.2.1 d_Automaton_countStates_38 rfl (gl_at hl rfl) ?_
              refine g_get X kc_Automaton ho 5 (by decide) lk_Automaton_28 rfl d_Automaton_countStates_39 ?_
              refine lv_iload_n X.1.1 X.1.2.1 d_Automaton_countStates_42 rfl (gl_at hl rfl) ?_
              refine g_iald X 0 hG rfl x (by omega) (by decide) d_Automaton_countStates_43 ?_
              have hh8 := a_h_le hk8 hok (y := x) (by omega)
              refine g_top (nI (a_h ks n es x)) (hE0 x (by omega)).2.2.2 ?_
              refine lv_iload_n X.1.1 X.1.2.1 d_Automaton_countStates_44 rfl (gl_at hl rfl) ?_
              refine gn_ne X.1.1 X.1.2.1 (a_h ks n es x) h (by omega) (by omega) d_Automaton_countStates_45 rfl (fun hc45 => ?_) (fun hc45 => ?_)
              · refine g_iinc X.1.1 X.1.2.1 (nI (x + 1)) hl 3 d_Automaton_countStates_62 rfl (nI_1 _) rfl (fun ls hl => ?_)
                refine lv_goto X.1.1 X.1.2.1 d_Automaton_countStates_65 rfl ?_
                exact ih30 (x + 1) us Hn locs ls (by omega) (by omega) (by first | exact hi30_1.skip hc45 | exact hi30_1.known hi30_2 hc45 hc54 | exact hi30_1.add hi30_2 (by omega) hc45 hc54) hi30_2 ho ⟨U, hU, hus⟩ fr zz hL hl
              · refine lv_aload_n X.1.1 X.1.2.1 d_Automaton_countStates_48 rfl (gl_at hl rfl) ?_
                refine lv_iload_n X.1.1 X.1.2.1 d_Automaton_countStates_49 rfl (gl_at hl rfl) ?_
                refine lv_iload_n X.1.1 X.1.2.1 d_Automaton_countStates_50 rfl (gl_at hl rfl) ?_
                have hul := Nat.le_of_lt (hi30_1.lt (by omega) hc45)
                refine g_cv (A := (fun p => p = ab ∨ p = ab + 134)) X gWS_good mw_Automaton_92 kc_Automaton ho (c_Automaton_isKnown l D q Hn ab n es us _ _ ks ho hk hn F T L G U hF hT hL0 hG hU hE0 hok hes (by omega) (fun t ht => ⟨hus t ht, (hi30_1.2.1 _ (a_mem ht)).1⟩) x f0 (by omega) hi30_2.1) (fun _ _ _ => trivial) gBlind.tt rfl rfl hl.1 (Nat.le_of_ble_eq_true rfl) rfl rfl ⟨by decide, by decide⟩ ⟨by decide, by decide⟩ d_Automaton_countStates_51 (fun _ h => h.elim) hL (fun v13 H14 locs hp15 hL => ?_)
                obtain ⟨rfl, hHe⟩ := hp15
                rw [hHe]
                refine lv_if_ne X.1.1 X.1.2.1 d_Automaton_countStates_54 rfl (fun hc54 => ?_) (fun hc54 => ?_)
                · replace hc54 := gz_t hc54
                  refine g_iinc X.1.1 X.1.2.1 (nI (x + 1)) hl 3 d_Automaton_countStates_62 rfl (nI_1 _) rfl (fun ls hl => ?_)
                  refine lv_goto X.1.1 X.1.2.1 d_Automaton_countStates_65 rfl ?_
                  exact ih30 (x + 1) us Hn locs ls (by omega) (by omega) (by first | exact hi30_1.skip hc45 | exact hi30_1.known hi30_2 hc45 hc54 | exact hi30_1.add hi30_2 (by omega) hc45 hc54) hi30_2 ho ⟨U, hU, hus⟩ fr zz hL hl
                · replace hc54 := gz_f hc54
                  refine lv_aload_n X.1.1 X.1.2.1 d_Automaton_countStates_57 rfl (gl_at hl rfl) ?_
                  refine lv_iload_n X.1.1 X.1.2.1 d_Automaton_countStates_58 rfl (gl_at hl rfl) ?_
                  have hus9 := hi30_1.lt (by omega) hc45
                  obtain ⟨x1, x2, x3, x4⟩ := hE0 x (by omega)
                  obtain ⟨x5, x6, x7⟩ := a_t_ok hok (x := x) (by omega)
                  have x8 := hk8 _ (hok x (by omega)).1
                  have x9 := (hok x (by omega)).2
                  refine g_cv (A := (fun p => p = ab ∨ p = ab + 134)) X gWS_good mw_Automaton_96 kc_Automaton ho (c_Automaton_addState l D q Hn ab n es.length us.length _ _ ks ho hk hn F T L hF hT hL0 U hU (by omega) x (by omega) _ _ _ x1 x2 x3 (by omega) (by omega) (by omega) (by omega)) (fun _ _ _ => trivial) gBlind.tt rfl rfl hl.1 (Nat.le_of_ble_eq_true rfl) rfl rfl ⟨by decide, by decide⟩ ⟨by decide, by decide⟩ d_Automaton_countStates_59 (fun p h => h) hL (fun v16 H17 locs hp18 hL => ?_)
                  obtain ⟨rfl, ho2, hU2, hz2, fr2⟩ := hp18
                  refine g_iinc X.1.1 X.1.2.1 (nI (x + 1)) hl 3 d_Automaton_countStates_62 rfl (nI_1 _) rfl (fun ls hl => ?_)
                  refine lv_goto X.1.1 X.1.2.1 d_Automaton_countStates_65 rfl ?_
                  exact ih30 (x + 1) (us ++ [x]) H17 locs ls (by omega) (by omega) (by first | exact hi30_1.skip hc45 | exact hi30_1.known hi30_2 hc45 hc54 | exact hi30_1.add hi30_2 (by omega) hc45 hc54) (hi30_2.add hc45) (by rw [List.length_append, a_sum_app, a_sum_app]; exact ho2) ⟨_, hU2, fun t ht => by
                    rw [List.length_append, List.length_singleton] at ht
                    by_cases h9 : t = us.length
                    · rw [h9, pk_us, t_get_last]
                    · rw [pk_un h9, t_get_app (by omega)]
                      exact hus t (by omega)⟩ (fun p hp => (fr2 p hp).trans (fr p hp)) (hz2.trans zz) hL hl
        exact loop30 _ 0 us Hn locs ls (Nat.lt_succ_self _) (Nat.zero_le _) hi17_1 (by rw [hf0]; exact hi17_1.lo) ho ⟨U, hU, hus⟩ fr zz hL hl
  exact loop17 _ 0 ([]) H9 locs ls (Nat.lt_succ_self _) (Nat.zero_le _) a_stI_0 h10 ⟨U, hU, fun t ht => absurd ht (Nat.not_lt_zero t)⟩ (fun p hp => ((oq12 p (by omega)).trans ((oq8 p (by omega)).trans (oq4 p (by omega))))) (z11.trans (z7.trans z3)) hL hl

set_option maxHeartbeats 4000000 in
set_option maxRecDepth 100000 in
theorem c_Automaton_become (l : Launch) (D : va_G) (q : Nat → ClassId) (H : Heap) (ab n0 : Nat) (ks : Nat → List Nat) (us : List Nat) (hA : aA D q H ab n0 ks us) (vb mb : Nat) (og : Option Nat) (srt bk tn wk f0 t0 : Nat) (hv : va_at D CL (vb, .inr (2, [.ref mb, va_rf og, .int (nI srt), .ref bk, .int (nI tn), .ref wk, .int (nI f0), .int (nI t0)])) H) (nm : Nat) (km : Nat → List Nat) (vs : Nat → Int32) (chg : Nat) (hm : mA D q H mb nm km vs chg) (hft : f0 ≤ t0) (htn : t0 ≤ nm) (hva : vb < ab ∨ ab + 134 < vb) (hma : mb + 130 < ab ∨ ab + 134 < mb) : gC l y_Automaton_become (Cond.code y_Automaton_become b_Automaton_become 3 none :: gWS) (gR 4 96 0 0) D CL (gY q) (fun _ => True) [.ref ab, .ref vb] H (fun v H1 => v = none ∧ (∃ (ks1 : Nat → List Nat) (us1 : List Nat), (∀ j, j < t0 - f0 → ks1 j = km (f0 + j)) ∧ aA D q H1 ab (t0 - f0) ks1 us1) ∧ H1.size = H.size ∧ ∀ p : Nat, ¬ (ab ≤ p ∧ p ≤ ab + 134) → H1[p]? = H[p]?) 0 0 (fun p => ab ≤ p ∧ p ≤ ab + 134) := by
  refine gC.ofW R_Automaton "become" (by decide) rfl rfl ?_
  intro p e s m below meth c hadm X hE hH B hne
  refine g_entry [some (.ref ab), some (.ref vb), none] rfl rfl (Nat.le_of_ble_eq_true rfl) (fun ls hl => ?_)
  have hv0 := hv
  obtain ⟨ho, hkA, hn0, hXA, hfA⟩ := hA
  obtain ⟨P, hP9⟩ : ∃ z, z = (a_pre ks n0).length := ⟨_, rfl⟩
  obtain ⟨S, hS9⟩ : ∃ z, z = us.length := ⟨_, rfl⟩
  obtain ⟨sp, hsp9⟩ : ∃ z, z = a_sum (a_stp ks n0 (a_pre ks n0)) us := ⟨_, rfl⟩
  obtain ⟨fi, hfi9⟩ : ∃ z, z = a_sum (a_fnl ks (a_pre ks n0)) us := ⟨_, rfl⟩
  rw [← hP9, ← hS9, ← hsp9, ← hfi9] at ho
  obtain ⟨hmo0, hnm, ⟨mf, g, hmf0, hfg, hg, hgi, hks0⟩, hvv⟩ := hm
  have hk := hkA
  refine lv_aload_n X.1.1 X.1.2.1 d_Automaton_become_0 rfl (gl_at hl rfl) ?_
  refine lv_aload_n X.1.1 X.1.2.1 d_Automaton_become_1 rfl (gl_at hl rfl) ?_
  refine g_cv (A := (fun p => ab ≤ p ∧ p ≤ ab + 134)) X gWS_good mw_Automaton_34 kc_View hv (c_View_count l D q H vb mb og srt bk tn wk f0 t0 hv hft) (fun _ _ _ => trivial) gBlind.tt rfl rfl hl.1 (Nat.le_of_ble_eq_true rfl) rfl rfl ⟨by decide, by decide⟩ ⟨by decide, by decide⟩ d_Automaton_become_2 (fun _ h => h.elim) (fun _ h => by cases h) (fun v1 H2 locs hp3 hL => ?_)
  obtain ⟨rfl, hHe⟩ := hp3
  rw [hHe]
  obtain ⟨n, hn9⟩ : ∃ z, z = t0 - f0 := ⟨_, rfl⟩
  refine g_top (nI n) (by rw [hn9]) ?_
  refine g_put (A := (fun p => ab ≤ p ∧ p ≤ ab + 134)) X kc_Automaton ho 1 (by decide) lk_Automaton_40 rfl rfl rfl (Nat.le_of_ble_eq_true rfl) d_Automaton_become_5 (show _ ∧ _ by omega) hL (fun H4 locs h5 z6 oq7 hL => ?_)
  replace hv := hv.kept (oq7 _ (by omega))
  replace hk := hk.kept (fun p h1 h2 => oq7 p (by omega))
  refine lv_iconst (v := nI 0) X.1.1 X.1.2.1 d_Automaton_become_8 (by decide) ?_
  refine g_istn X.1.1 X.1.2.1 hl 2 d_Automaton_become_9 rfl (Nat.le_of_ble_eq_true rfl) rfl (fun ls hl => ?_)
  have loop10 : ∀ (fu : Nat) (i : Nat) (Hn : Heap) (locs : List Loc) (ls : Array Slot), n - i < fu → (i ≤ n) → (va_at D CL (ab, .inr (5, [.ref (ab + 1), .int (nI n), .ref (ab + 130), .ref (ab + 131), .ref (ab + 132), .ref (ab + 133), .int (nI P), .ref (ab + 134), .int (nI S), .int (nI sp), .int (nI fi)])) Hn) → (aK D q Hn ab (a_cp km f0 ks i)) → (∀ p : Nat, ¬ (ab ≤ p ∧ p ≤ ab + 129) → Hn[p]? = H[p]?) → (Hn.size = H.size) → (∀ x ∈ locs, (fun p => ab ≤ p ∧ p ≤ ab + 134) x.base) → gl ls [some (.ref ab), some (.ref vb), some (.int (nI i))] → W p l e (gR 4 96 0 0) s m ([.ref ab, .ref vb] : List Value).toArray below meth c Hn locs 0 0 (gQ below ([.ref ab, .ref vb] : List Value).toArray s (fun v H1 => v = none ∧ (∃ (ks1 : Nat → List Nat) (us1 : List Nat), (∀ j, j < t0 - f0 → ks1 j = km (f0 + j)) ∧ aA D q H1 ab (t0 - f0) ks1 us1) ∧ H1.size = H.size ∧ ∀ p : Nat, ¬ (ab ≤ p ∧ p ≤ ab + 134) → H1[p]? = H[p]?) 0 0 (fun p => ab ≤ p ∧ p ≤ ab + 134)) (F0 m 10 ls []) := by
    intro fu
    induction fu with
    | zero => intro i Hn locs ls hmu; omega
    | succ fu ih10 =>
      intro i Hn locs ls hmu10 hi10_0 ho hk fr zz hL hl
      have hk1 := hk
      obtain ⟨⟨kf, hkf, hkg⟩, hks⟩ := hk
      have hk := hk1
      have hv := va_at.kept hv0 (fr _ (by omega))
      have hmo := va_at.kept hmo0 (fr _ (by omega))
      have hmf := va_at.kept hmf0 (fr _ (by omega))
      refine lv_iload_n X.1.1 X.1.2.1 d_Automaton_become_10 rfl (gl_at hl rfl) ?_
      refine lv_aload_n X.1.1 X.1.2.1 d_Automaton_become_11 rfl (gl_at hl rfl) ?_
      refine g_get X kc_Automaton ho 1 (by decide) lk_Automaton_40 rfl d_Automaton_become_12 ?_
      refine gn_ge X.1.1 X.1.2.1 i n (by omega) (by omega) d_Automaton_become_15 rfl (fun hc15 => ?_) (fun hc15 => ?_)
      · have e9 : n = i := by omega
        subst e9
        refine lv_aload_n X.1.1 X.1.2.1 d_Automaton_become_47 rfl (gl_at hl rfl) ?_
        obtain ⟨F, T, L, G, U, k1, k2, k3, k4, k5⟩ := hXA
        replace k1 := va_at.kept k1 (fr _ (by omega))
        replace k2 := va_at.kept k2 (fr _ (by omega))
        replace k3 := va_at.kept k3 (fr _ (by omega))
        replace k4 := va_at.kept k4 (fr _ (by omega))
        replace k5 := va_at.kept k5 (fr _ (by omega))
        refine g_cv (A := (fun p => ab ≤ p ∧ p ≤ ab + 134)) X gWS_good mw_Automaton_57 kc_Automaton ho (c_Automaton_listPrefixes l D q Hn ab n P S sp fi (a_cp km f0 ks n) ho hk (by omega) F T L G k1 k2 k3 k4) (fun _ _ _ => trivial) gBlind.tt rfl rfl hl.1 (Nat.le_of_ble_eq_true rfl) rfl rfl ⟨by decide, by decide⟩ ⟨by decide, by decide⟩ d_Automaton_become_48 (fun p h => show _ ∧ _ by omega) hL (fun v8 H9 locs hp10 hL => ?_)
        obtain ⟨rfl, ho2, ⟨F1, T1, L1, G1, f1, f2, f3, f4, hE2⟩, hz2, fr2⟩ := hp10
        replace k5 := va_at.kept k5 (fr2 _ (by omega))
        have hk2 := hk.kept (fun p h1 h2 => fr2 p (by omega))
        have hk8 : ∀ j, j < n → ((a_cp km f0 ks n) j).length ≤ 8 := fun j hj => (hk2.2 j (by omega)).2.2.1
        have hpl := a_pre_len hk8 n (Nat.le_refl _)
        refine lv_aload_n X.1.1 X.1.2.1 d_Automaton_become_51 rfl (gl_at hl rfl) ?_
        refine g_cv (A := (fun p => ab ≤ p ∧ p ≤ ab + 134)) X gWS_good mw_Automaton_60 kc_Automaton ho2 (c_Automaton_countStates l D q H9 ab n (a_pre (a_cp km f0 ks n) n) S sp fi (a_cp km f0 ks n) ho2 hk2 (by omega) F1 T1 L1 G1 U f1 f2 f3 f4 k5 hE2 (a_pre_ok n (Nat.le_refl _)) (by omega)) (fun _ _ _ => trivial) gBlind.tt rfl rfl hl.1 (Nat.le_of_ble_eq_true rfl) rfl rfl ⟨by decide, by decide⟩ ⟨by decide, by decide⟩ d_Automaton_become_52 (fun p h => show _ ∧ _ by omega) hL (fun v11 H12 locs hp13 hL => ?_)
        obtain ⟨rfl, ⟨us1, ho3, hfin⟩, ⟨U1, hU3⟩, hz3, fr3⟩ := hp13
        exact g_vret X B ⟨rfl, ⟨a_cp km f0 ks n, us1, fun j hj => by unfold a_cp; rw [if_pos (by omega)], by rw [← hn9]; exact ⟨ho3, hk2.kept (fun p h1 h2 => fr3 p (by omega)), by omega, ⟨F1, T1, L1, G1, U1, va_at.kept f1 (fr3 _ (by omega)), va_at.kept f2 (fr3 _ (by omega)), va_at.kept f3 (fr3 _ (by omega)), va_at.kept f4 (fr3 _ (by omega)), hU3⟩, hfin⟩⟩, hz3.trans (hz2.trans zz), fun p hp => (fr3 p (by omega)).trans ((fr2 p (by omega)).trans (fr p (by omega)))⟩ hL d_Automaton_become_55 (by omega) (by omega)
      · refine lv_aload_n X.1.1 X.1.2.1 d_Automaton_become_18 rfl (gl_at hl rfl) ?_
        refine g_get X kc_Automaton ho 0 (by decide) lk_Automaton_11 rfl d_Automaton_become_19 ?_
        refine lv_iload_n X.1.1 X.1.2.1 d_Automaton_become_22 rfl (gl_at hl rfl) ?_
        refine g_aald X 3 hkf rfl i (by omega) (by decide) (v := .ref (ab + 2 + 2 * i)) (by rw [hkg _ (by omega)]; rfl) d_Automaton_become_23 ?_
        refine lv_aload_n X.1.1 X.1.2.1 d_Automaton_become_24 rfl (gl_at hl rfl) ?_
        refine g_get X kc_View hv 0 (by decide) lk_Automaton_43 rfl d_Automaton_become_25 ?_
        refine g_get X kc_KeyMap hmo 0 (by decide) lk_Automaton_47 rfl d_Automaton_become_28 ?_
        refine lv_aload_n X.1.1 X.1.2.1 d_Automaton_become_31 rfl (gl_at hl rfl) ?_
        refine g_get X kc_View hv 6 (by decide) lk_Automaton_50 rfl d_Automaton_become_32 ?_
        refine lv_iload_n X.1.1 X.1.2.1 d_Automaton_become_35 rfl (gl_at hl rfl) ?_
        refine lv_iadd X.1.1 X.1.2.1 d_Automaton_become_36 ?_
        refine g_top (nI (f0 + i)) (nI_add _ _) ?_
        refine g_aald X 3 hmf rfl (f0 + i) (by omega) (by decide) (v := .ref (g (f0 + i))) (by rw [hfg _ (by omega)]; rfl) d_Automaton_become_37 ?_
        obtain ⟨j8, hj8, hgj8⟩ := hg (f0 + i) (by omega)
        have hkb := (hks0 (f0 + i) (by omega)).kept (fr _ (by omega)) (fr _ (by omega))
        refine g_cv (A := (fun p => ab ≤ p ∧ p ≤ ab + 134)) X gWS_good mw_Automaton_53 kc_Key (hk.2 i (by omega)).1 (c_Key_become l D q Hn (ab + 2 + 2 * i) (g (f0 + i)) _ _ (hk.2 i (by omega)) hkb (by omega)) (fun _ _ _ => trivial) gBlind.tt rfl rfl hl.1 (Nat.le_of_ble_eq_true rfl) rfl rfl ⟨by decide, by decide⟩ ⟨by decide, by decide⟩ d_Automaton_become_38 (fun p h => show _ ∧ _ by omega) hL (fun v14 H15 locs hp16 hL => ?_)
        obtain ⟨rfl, hkn2, hz2, fr2⟩ := hp16
        refine g_iinc X.1.1 X.1.2.1 (nI (i + 1)) hl 2 d_Automaton_become_41 rfl (nI_1 _) rfl (fun ls hl => ?_)
        refine lv_goto X.1.1 X.1.2.1 d_Automaton_become_44 rfl ?_
        exact ih10 (i + 1) H15 locs ls (by omega) (by omega) (va_at.kept ho (fr2 _ (by omega))) (hk.cp (by omega) hkn2 fr2) (fun p hp => (fr2 p (by omega)).trans (fr p hp)) (hz2.trans zz) hL hl
  exact loop10 _ 0 H4 locs ls (Nat.lt_succ_self _) (Nat.zero_le _) h5 (by rw [a_cp_0]; exact hk) (fun p hp => (oq7 p (by omega))) z6 hL hl

set_option maxHeartbeats 4000000 in
set_option maxRecDepth 100000 in
/-- Automaton() -/
theorem c_Automaton_init (l : Launch) (D : va_G) (q : Nat → ClassId) (H : Heap) (ab : Nat) (hz : H.size = ab + 1) (ho : va_at D CL (ab, .inr (5, [.null, .int 0, .null, .null, .null, .null, .int 0, .null, .int 0, .int 0, .int 0])) H) : gC l y_Automaton_init (Cond.code y_Automaton_init b_Automaton_init 2 none :: gWS) (gR 2 32 134 3269) D CL (gY q) (fun U => va_AO R_Key U) [.ref ab] H (fun v H1 => v = none ∧ aA D q H1 ab 0 (fun _ => []) [] ∧ H1.size = ab + 135 ∧ ∀ p : Nat, p < ab → H1[p]? = H[p]?) 134 3269 (fun p => ab ≤ p) := by
  refine gC.ofW R_Automaton "<init>" (by decide) rfl rfl ?_
  intro p e s m below meth c hadm X hE hH B hne
  refine g_entry [some (.ref ab), none] rfl rfl (Nat.le_of_ble_eq_true rfl) (fun ls hl => ?_)
  refine lv_aload_n X.1.1 X.1.2.1 d_Automaton_init_0 rfl (gl_at hl rfl) ?_
  refine W.objInit X.1.1 X.1.2.1 X.1.2.2.2.1 (X.1.2.2.2.2 _ mo_Automaton_3.1) (X.1.2.2.2.2 _ mo_Automaton_3.2.1) (X.1.2.2.2.2 _ mo_Automaton_3.2.2) rfl (by rw [X.1.2.2.1]; exact hl.1) rfl d_Automaton_init_1 (Nat.le_of_ble_eq_true rfl) (Nat.le_of_ble_eq_true rfl) ?_
  refine W.eq (g2 := F0 m 4 ls []) rfl ?_
  refine lv_aload_n X.1.1 X.1.2.1 d_Automaton_init_4 rfl (gl_at hl rfl) ?_
  refine lv_bipush (v := nI 64) X.1.1 X.1.2.1 d_Automaton_init_5 (by decide) ?_
  refine g_newq X 3 rfl lk_Automaton_9 hE 64 (by decide) (show _ ≤ 134 by omega) (show _ ≤ 3269 by omega) d_Automaton_init_7 (fun H1 h2 z3 o4 => ?_)
  rw [hz] at h2 z3 o4 ⊢
  replace ho := ho.kept (o4 _ (by omega))
  refine g_putF (A := (fun p => ab ≤ p)) X B.2.2 kc_Automaton ho 0 (by decide) lk_Automaton_11 rfl rfl rfl rfl (Nat.le_of_ble_eq_true rfl) d_Automaton_init_10 (show ab ≤ _ by omega) (fun _ h => by cases h) (fun H5 locs h6 z7 oq8 hL => ?_)
  replace h2 := h2.kept (oq8 _ (by omega))
  have hz9 := z7.trans z3
  refine lv_iconst (v := nI 0) X.1.1 X.1.2.1 d_Automaton_init_13 (by decide) ?_
  refine g_istn X.1.1 X.1.2.1 hl 1 d_Automaton_init_14 rfl (Nat.le_of_ble_eq_true rfl) rfl (fun ls hl => ?_)
  have loop15 : ∀ (fu : Nat) (i : Nat) (f : Nat → Option Nat) (Hn : Heap) (locs : List Loc) (ls : Array Slot), 64 - i < fu → (i ≤ 64) → (∀ j, j < i → f j = some (ab + 2 + 2 * j)) → (va_at D CL (ab, .inr (5, [.ref (ab + 1), .int 0, .null, .null, .null, .null, .int 0, .null, .int 0, .int 0, .int 0])) Hn) → (va_at D CL (ab + 1, .inl (q 3, 64, .inr (.inr (.inr (.inr f))))) Hn) → (∀ j, j < i → kA D q Hn (ab + 2 + 2 * j) []) → (Hn.size = ab + 2 + 2 * i) → (∀ p : Nat, p < ab → Hn[p]? = H[p]?) → (∀ x ∈ locs, (fun p => ab ≤ p) x.base) → gl ls [some (.ref ab), some (.int (nI i))] → W p l e (gR 2 32 134 3269) s m ([.ref ab] : List Value).toArray below meth c Hn locs (1 + 2 * i) (64 + 10 * i) (gQ below ([.ref ab] : List Value).toArray s (fun v H1 => v = none ∧ aA D q H1 ab 0 (fun _ => []) [] ∧ H1.size = ab + 135 ∧ ∀ p : Nat, p < ab → H1[p]? = H[p]?) 134 3269 (fun p => ab ≤ p)) (F0 m 15 ls []) := by
    intro fu
    induction fu with
    | zero => intro i f Hn locs ls hmu; omega
    | succ fu ih15 =>
      intro i f Hn locs ls hmu15 hi15_0 hi15_1 ho hf hkq hz fr hL hl
      refine lv_iload_n X.1.1 X.1.2.1 d_Automaton_init_15 rfl (gl_at hl rfl) ?_
      refine lv_bipush (v := nI 64) X.1.1 X.1.2.1 d_Automaton_init_16 (by decide) ?_
      refine gn_ge X.1.1 X.1.2.1 i 64 (by omega) (by omega) d_Automaton_init_18 rfl (fun hc18 => ?_) (fun hc18 => ?_)
      · have e9 : 64 = i := by omega
        subst e9
        have hff := hi15_1
        have hz0 : Hn.size = ab + 130 := by omega
        refine lv_aload_n X.1.1 X.1.2.1 d_Automaton_init_40 rfl (gl_at hl rfl) ?_
        refine lv_sipush (v := nI 513) X.1.1 X.1.2.1 d_Automaton_init_41 (by decide) ?_
        refine g_newi X 0 rfl ka_int 513 (by decide) (show _ ≤ 134 by omega) (show _ ≤ 3269 by omega) d_Automaton_init_44 (fun H10 h11 z12 o13 => ?_)
        rw [hz0] at h11 z12 o13 ⊢
        replace ho := ho.kept (o13 _ (by omega))
        replace hf := hf.kept (o13 _ (by omega))
        refine g_putF (A := (fun p => ab ≤ p)) X B.2.2 kc_Automaton ho 2 (by decide) lk_Automaton_18 rfl rfl rfl rfl (Nat.le_of_ble_eq_true rfl) d_Automaton_init_46 (show ab ≤ _ by omega) hL (fun H14 locs h15 z16 oq17 hL => ?_)
        replace hf := hf.kept (oq17 _ (by omega))
        replace h11 := h11.kept (oq17 _ (by omega))
        have hz18 := z16.trans z12
        refine lv_aload_n X.1.1 X.1.2.1 d_Automaton_init_49 rfl (gl_at hl rfl) ?_
        refine lv_sipush (v := nI 513) X.1.1 X.1.2.1 d_Automaton_init_50 (by decide) ?_
        refine g_newi X 0 rfl ka_int 513 (by decide) (show _ ≤ 134 by omega) (show _ ≤ 3269 by omega) d_Automaton_init_53 (fun H19 h20 z21 o22 => ?_)
        rw [hz18] at h20 z21 o22 ⊢
        replace h15 := h15.kept (o22 _ (by omega))
        replace hf := hf.kept (o22 _ (by omega))
        replace h11 := h11.kept (o22 _ (by omega))
        refine g_putF (A := (fun p => ab ≤ p)) X B.2.2 kc_Automaton h15 3 (by decide) lk_Automaton_22 rfl rfl rfl rfl (Nat.le_of_ble_eq_true rfl) d_Automaton_init_55 (show ab ≤ _ by omega) hL (fun H23 locs h24 z25 oq26 hL => ?_)
        replace hf := hf.kept (oq26 _ (by omega))
        replace h11 := h11.kept (oq26 _ (by omega))
        replace h20 := h20.kept (oq26 _ (by omega))
        have hz27 := z25.trans z21
        refine lv_aload_n X.1.1 X.1.2.1 d_Automaton_init_58 rfl (gl_at hl rfl) ?_
        refine lv_sipush (v := nI 513) X.1.1 X.1.2.1 d_Automaton_init_59 (by decide) ?_
        refine g_newi X 0 rfl ka_int 513 (by decide) (show _ ≤ 134 by omega) (show _ ≤ 3269 by omega) d_Automaton_init_62 (fun H28 h29 z30 o31 => ?_)
        rw [hz27] at h29 z30 o31 ⊢
        replace h24 := h24.kept (o31 _ (by omega))
        replace hf := hf.kept (o31 _ (by omega))
        replace h11 := h11.kept (o31 _ (by omega))
        replace h20 := h20.kept (o31 _ (by omega))
        refine g_putF (A := (fun p => ab ≤ p)) X B.2.2 kc_Automaton h24 4 (by decide) lk_Automaton_25 rfl rfl rfl rfl (Nat.le_of_ble_eq_true rfl) d_Automaton_init_64 (show ab ≤ _ by omega) hL (fun H32 locs h33 z34 oq35 hL => ?_)
        replace hf := hf.kept (oq35 _ (by omega))
        replace h11 := h11.kept (oq35 _ (by omega))
        replace h20 := h20.kept (oq35 _ (by omega))
        replace h29 := h29.kept (oq35 _ (by omega))
        have hz36 := z34.trans z30
        refine lv_aload_n X.1.1 X.1.2.1 d_Automaton_init_67 rfl (gl_at hl rfl) ?_
        refine lv_sipush (v := nI 513) X.1.1 X.1.2.1 d_Automaton_init_68 (by decide) ?_
        refine g_newi X 0 rfl ka_int 513 (by decide) (show _ ≤ 134 by omega) (show _ ≤ 3269 by omega) d_Automaton_init_71 (fun H37 h38 z39 o40 => ?_)
        rw [hz36] at h38 z39 o40 ⊢
        replace h33 := h33.kept (o40 _ (by omega))
        replace hf := hf.kept (o40 _ (by omega))
        replace h11 := h11.kept (o40 _ (by omega))
        replace h20 := h20.kept (o40 _ (by omega))
        replace h29 := h29.kept (o40 _ (by omega))
        refine g_putF (A := (fun p => ab ≤ p)) X B.2.2 kc_Automaton h33 5 (by decide) lk_Automaton_28 rfl rfl rfl rfl (Nat.le_of_ble_eq_true rfl) d_Automaton_init_73 (show ab ≤ _ by omega) hL (fun H41 locs h42 z43 oq44 hL => ?_)
        replace hf := hf.kept (oq44 _ (by omega))
        replace h11 := h11.kept (oq44 _ (by omega))
        replace h20 := h20.kept (oq44 _ (by omega))
        replace h29 := h29.kept (oq44 _ (by omega))
        replace h38 := h38.kept (oq44 _ (by omega))
        have hz45 := z43.trans z39
        refine lv_aload_n X.1.1 X.1.2.1 d_Automaton_init_76 rfl (gl_at hl rfl) ?_
        refine lv_sipush (v := nI 513) X.1.1 X.1.2.1 d_Automaton_init_77 (by decide) ?_
        refine g_newi X 0 rfl ka_int 513 (by decide) (show _ ≤ 134 by omega) (show _ ≤ 3269 by omega) d_Automaton_init_80 (fun H46 h47 z48 o49 => ?_)
        rw [hz45] at h47 z48 o49 ⊢
        replace h42 := h42.kept (o49 _ (by omega))
        replace hf := hf.kept (o49 _ (by omega))
        replace h11 := h11.kept (o49 _ (by omega))
        replace h20 := h20.kept (o49 _ (by omega))
        replace h29 := h29.kept (o49 _ (by omega))
        replace h38 := h38.kept (o49 _ (by omega))
        refine g_putF (A := (fun p => ab ≤ p)) X B.2.2 kc_Automaton h42 7 (by decide) lk_Automaton_31 rfl rfl rfl rfl (Nat.le_of_ble_eq_true rfl) d_Automaton_init_82 (show ab ≤ _ by omega) hL (fun H50 locs h51 z52 oq53 hL => ?_)
        replace hf := hf.kept (oq53 _ (by omega))
        replace h11 := h11.kept (oq53 _ (by omega))
        replace h20 := h20.kept (oq53 _ (by omega))
        replace h29 := h29.kept (oq53 _ (by omega))
        replace h38 := h38.kept (oq53 _ (by omega))
        replace h47 := h47.kept (oq53 _ (by omega))
        have hz54 := z52.trans z48
        have hch : ∀ p : Nat, p < ab + 130 → p ≠ ab → H50[p]? = Hn[p]? := fun p hp hp2 => ((oq53 p (by omega)).trans ((o49 p (by omega)).trans ((oq44 p (by omega)).trans ((o40 p (by omega)).trans ((oq35 p (by omega)).trans ((o31 p (by omega)).trans ((oq26 p (by omega)).trans ((o22 p (by omega)).trans ((oq17 p (by omega)).trans (o13 p (by omega)))))))))))
        refine g_vret X B ⟨rfl, ⟨h51, ⟨⟨_, hf, hff⟩, fun i hi => ?_⟩, by omega, ⟨_, _, _, _, _, h11, h20, h29, h38, h47⟩, a_fin_0⟩, by omega, fun p hp => ?_⟩ hL d_Automaton_init_85 (by omega) (by omega)
        · exact (hkq i hi).kept (hch _ (by omega) (by omega)) (hch _ (by omega) (by omega))
        · exact (hch p (by omega) (by omega)).trans (fr p hp)
      · refine lv_aload_n X.1.1 X.1.2.1 d_Automaton_init_21 rfl (gl_at hl rfl) ?_
        refine g_get X kc_Automaton ho 0 (by decide) lk_Automaton_11 rfl d_Automaton_init_22 ?_
        refine lv_iload_n X.1.1 X.1.2.1 d_Automaton_init_25 rfl (gl_at hl rfl) ?_
        refine g_new X kc_Key lk_Automaton_9 ki_Key.1 ki_Key.2 (fs := [.null, .int 0]) kf_Key (show _ ≤ 134 by omega) (show _ ≤ 3269 by omega) d_Automaton_init_26 (fun H55 h56 z57 o58 => ?_)
        rw [hz] at h56 z57 o58 ⊢
        replace ho := ho.kept (o58 _ (by omega))
        replace hf := hf.kept (o58 _ (by omega))
        refine lv_dup X.1.1 X.1.2.1 d_Automaton_init_29 rfl ?_
        refine g_ci (A := (fun p => ab ≤ p)) X gWS_good mw_Automaton_17 (c_Key_init l D q H55 (ab + 2 + 2 * i) (by omega) h56) (fun _ _ _ => trivial) gBlind.tt rfl rfl hl.1 (Nat.le_of_ble_eq_true rfl) rfl rfl ⟨by decide, by decide⟩ ⟨show _ ≤ 134 by omega, show _ ≤ 3269 by omega⟩ d_Automaton_init_30 (fun p (h : _ ≤ p) => show ab ≤ p by omega) hL (fun v59 H60 locs hp61 hL => ?_)
        obtain ⟨rfl, hkk, hzk, frk⟩ := hp61
        replace ho := va_at.kept ho (frk _ (by omega))
        replace hf := va_at.kept hf (frk _ (by omega))
        have hkk1 := hkk.1
        refine g_aast (A := (fun p => ab ≤ p)) X 3 kc_Key hf rfl hkk1 i (by omega) (by decide) d_Automaton_init_33 (show ab ≤ _ by omega) hL (fun H62 locs h63 z64 oq65 hL => ?_)
        replace ho := ho.kept (oq65 _ (by omega))
        replace hkk1 := hkk1.kept (oq65 _ (by omega))
        have hz66 := z64.trans hzk
        refine g_iinc X.1.1 X.1.2.1 (nI (i + 1)) hl 1 d_Automaton_init_34 rfl (nI_1 _) rfl (fun ls hl => ?_)
        refine lv_goto X.1.1 X.1.2.1 d_Automaton_init_37 rfl ?_
        refine W.widen (k := 1 + 2 * (i + 1)) (n := 64 + 10 * (i + 1)) (by omega) (by omega) ?_
        exact ih15 (i + 1) (va_up f i (some (ab + 2 + 2 * i))) H62 locs ls (by omega) (by omega) (fun j hj => by
          unfold va_up
          by_cases h9 : j = i
          · rw [if_pos h9, h9]
          · rw [if_neg h9]
            exact hi15_1 j (by omega)) ho h63 (fun j hj => by
          by_cases h9 : j = i
          · subst h9
            exact hkk.kept (oq65 _ (by omega)) (oq65 _ (by omega))
          · exact (((hkq j (by omega)).kept (o58 _ (by omega)) (o58 _ (by omega))).kept (frk _ (by omega)) (frk _ (by omega))).kept (oq65 _ (by omega)) (oq65 _ (by omega))) (by omega) (fun p hp => (oq65 p (by omega)).trans ((frk p (by omega)).trans ((o58 p (by omega)).trans (fr p hp)))) hL hl
  refine W.widen (k := 1 + 2 * 0) (n := 64 + 10 * 0) (by omega) (by omega) ?_
  exact loop15 _ 0 (fun _ => none) H5 locs ls (Nat.lt_succ_self _) (by omega) (fun j hj => absurd hj (Nat.not_lt_zero j)) h6 h2 (fun j hj => absurd hj (Nat.not_lt_zero j)) (by omega) (fun p hp => (oq8 p (by omega)).trans (o4 p (by omega))) hL hl
end
section
/-! what the throwing methods lean on: words on the exceptions, and static fields of old cells -/
def gOA : List Cond := Jvm.Bundle.ownAtoms0 "KeyHall" 73 "java/lang/IndexOutOfBoundsException" ["java/lang/RuntimeException", "java/lang/Exception"] ++ Jvm.Bundle.ownAtoms0 "KeyHall" 86 "java/lang/IllegalArgumentException" ["java/lang/RuntimeException", "java/lang/Exception"] ++
  Jvm.Bundle.ownAtoms0 "KeyHall" 104 "java/lang/IllegalStateException" ["java/lang/RuntimeException", "java/lang/Exception"] ++ Jvm.Bundle.ownAtoms0 "KeyHall" 259 "java/util/NoSuchElementException" ["java/lang/RuntimeException", "java/lang/Exception"]
def gSwB : Cond → Bool
  | .laysStatic _ _ _ => true
  | .isRef (.static _ _ _) => true
  | _ => false
def gVwB : Cond → Bool
  | .declares _ => true
  | .castable _ _ => true
  | _ => false
theorem gOA_sort : gOA.all (fun w => gGoodB w || (gSwB w || gVwB w)) = true := by decide +kernel
theorem gVw_on {U0 U : State} {args args' : Array Value} {w : Cond} (hw : gVwB w = true) (hA : U0.vm.Alike U.vm) (h : w.before args U0 = true) : w.before args' U = true := by
  have h1 : w.before args (U0.setVm U.vm) = true := by
    cases w <;> first | (simp [gVwB] at hw; done) | (rw [Cond.declares_setVm hA]; exact h) | (rw [Cond.castable_setVm hA]; exact h)
  have h2 : w.onTables = true := by
    cases w <;> first | rfl | (simp [gVwB] at hw; done)
  have h3 := Cond.onTables_vm (A := args) (A' := args') (U := U0) (U' := U) U.vm w h2
  rw [h1] at h3
  exact h3.symm
theorem gSw_on {U0 U : State} {args args' : Array Value} {w : Cond} (hw : gSwB w = true) (hA : U0.vm.Alike U.vm) (hh : ∀ p : Nat, p < U0.heap.size → U.heap[p]? = U0.heap[p]?) (h : w.before args U0 = true) : w.before args' U = true := by
  have hs : w.steady = true := by
    cases w <;> first | rfl | (simp [gSwB] at hw) | skip
    rename_i t
    cases t <;> first | rfl | (simp [gSwB] at hw)
  have h1 : w.value args (U0.setVm U.vm) none (U0.setVm U.vm) [] = some true := by
    rw [Cond.value_setVm hA w [] hs]
    simpa [Cond.before, Cond.holds] using h
  have hk : ∀ (z : Nat) (cell : Cell), U0.heap[z]? = some cell → U.heap[z]? = some cell := fun z cell hz => by
    rw [hh z (Array.getElem?_eq_some_iff.mp hz).1]; exact hz
  suffices h2 : w.value args' U none U [] = some true by simp [Cond.before, Cond.holds, h2]
  cases w <;> first | (simp [gSwB] at hw; done) | skip
  · rename_i t
    cases t <;> first | (simp [gSwB] at hw; done) | skip
    rename_i C f d
    simp only [Cond.value, Term.eval, Option.bind_eq_bind] at h1 ⊢
    have e1 : (U0.setVm U.vm).fieldNamed? C f d true = U.fieldNamed? C f d true := rfl
    have e2 : (U0.setVm U.vm).heap = U0.heap := rfl
    rw [e1, e2] at h1
    cases hf : U.fieldNamed? C f d true with
    | none => simp [hf] at h1
    | some x =>
      obtain ⟨c, k, sl⟩ := x
      simp only [hf, Option.bind_some] at h1 ⊢
      cases hz : k.statics with
      | none => simp [hz] at h1
      | some z =>
        simp only [hz, Option.bind_some] at h1 ⊢
        cases hc : U0.heap[z]? with
        | none => simp [hc] at h1
        | some cell =>
          rw [hk z cell hc]
          simp only [hc, Option.bind_some] at h1 ⊢
          exact h1
  · rename_i C f d
    simp only [Cond.value] at h1 ⊢
    have e1 : (U0.setVm U.vm).fieldFound? C f d = U.fieldFound? C f d := rfl
    have e2 : (U0.setVm U.vm).heap = U0.heap := rfl
    have e3 : (U0.setVm U.vm).vm = U.vm := rfl
    rw [e1, e2, e3] at h1
    cases hf : U.vm.findClass C with
    | none => simp [hf] at h1
    | some c =>
      cases hg : U.fieldFound? C f d with
      | none => simp [hf, hg] at h1
      | some x =>
        obtain ⟨c', k, i, fd⟩ := x
        simp only [hf, hg] at h1 ⊢
        cases hz : k.statics with
        | none => simp [hz] at h1
        | some z =>
          simp only [hz, Option.bind_some] at h1 ⊢
          cases hc : U0.heap[z]? with
          | none => simp [hc] at h1
          | some cell =>
            rw [hk z cell hc]
            rw [hc] at h1
            exact h1
/-- the state goes on from one whose cells lie below b, and they are as they were -/
def gEs (b : Nat) (U : State) : Prop := ∃ U0 : State, U0.heap.size ≤ b ∧ U0.WarmedH U.vm ∧ (∀ p : Nat, p < U0.heap.size → U.heap[p]? = U0.heap[p]?) ∧ ∀ w ∈ gOA, w.before #[] U0 = true
theorem gEs.word {b : Nat} {U : State} (h : gEs b U) {w : Cond} (hw : w ∈ gOA) (args : Array Value) : w.before args U = true := by
  obtain ⟨U0, h1, h2, h3, h4⟩ := h
  have h5 := List.all_eq_true.mp gOA_sort w hw
  rcases Bool.or_eq_true_iff.mp h5 with h6 | h6
  · exact word_at h2 (gGood_one h6) (h4 w hw)
  · rcases Bool.or_eq_true_iff.mp h6 with h7 | h7
    · exact gSw_on h7 h2.alike h3 (h4 w hw)
    · exact gVw_on h7 h2.alike (h4 w hw)
theorem gEs.on {b : Nat} {s V : State} {H : Heap} (h : gEs b s) (hH : ∀ p : Nat, p < b → H[p]? = s.heap[p]?) : V.heap = H → s.WarmedH V.vm → gEs b V := by
  intro hV hW
  obtain ⟨U0, h1, h2, h3, h4⟩ := h
  exact ⟨U0, h1, State.WarmedH.trans h2 hW, fun p hp => by rw [hV, hH p (by omega)]; exact h3 p hp, h4⟩
theorem gEs.blind (b : Nat) : gBlind (gEs b) := fun U g mk a h => h
theorem gEs.low {b : Nat} {U : State} (h : gEs b U) : ∀ (c0 : ClassId) (k0 : Class) (z : Nat), U.vm.findClass Jvm.Bundle.tN = some c0 → U.vm.classes[c0]? = some k0 → k0.statics = some z → z < b := by
  intro c0 k0 z hf hk hz
  obtain ⟨U0, h1, h2, h3, h4⟩ := h
  have hw : Cond.laysStatic Jvm.Bundle.tN "UNASSIGNED_STACK" Jvm.Bundle.steD ∈ gOA := by simp [gOA, Jvm.Bundle.ownAtoms0, Jvm.Bundle.throwableAtoms]
  have h5 : (Cond.laysStatic Jvm.Bundle.tN "UNASSIGNED_STACK" Jvm.Bundle.steD).holds #[] (U0.setVm U.vm) none (U0.setVm U.vm) [] = true := by
    have h6 := Cond.value_setVm (args := #[]) (o := none) h2.alike (Cond.laysStatic Jvm.Bundle.tN "UNASSIGNED_STACK" Jvm.Bundle.steD) [] rfl
    have h7 := h4 _ hw
    simp only [Cond.before, Cond.holds] at h7 ⊢
    rw [h6]; exact h7
  obtain ⟨c, k, i, f, a, cell, hc, hff, -, ha, hcell, -⟩ := Cond.laysStatic_spec h5
  have e1 : c = c0 := Option.some.inj (hc.symm.trans hf)
  have e2 : U.fieldFound? Jvm.Bundle.tN "UNASSIGNED_STACK" Jvm.Bundle.steD = some (c, k, i, f) := hff
  have e3 : U.vm.classes[c]? = some k := (State.fieldFound?_spec e2).1
  have e4 : k = k0 := by rw [e1] at e3; exact Option.some.inj (e3.symm.trans hk)
  have e5 : a = z := by rw [e4] at ha; exact Option.some.inj (ha.symm.trans hz)
  have e6 := (Array.getElem?_eq_some_iff.mp (show U0.heap[a]? = some cell from hcell)).1
  omega
end
