/-! the law: links and decode rows. printed by wip/specs/w0.py -/
abbrev hh_Law_view : List (Nat × Nat × Nat × Nat) := [(0, 10, 13, 13)]
abbrev hh_Law_put : List (Nat × Nat × Nat × Nat) := [(0, 10, 13, 13), (0, 10, 17, 18), (0, 10, 21, 20)]
abbrev hh_Law_get : List (Nat × Nat × Nat × Nat) := [(0, 9, 12, 13)]
abbrev hh_Law_remove : List (Nat × Nat × Nat × Nat) := [(0, 9, 12, 13)]
abbrev hh_Law_find : List (Nat × Nat × Nat × Nat) := [(0, 10, 13, 13), (0, 10, 17, 32)]
abbrev hh_Law_at : List (Nat × Nat × Nat × Nat) := [(0, 10, 13, 13), (0, 10, 17, 32)]
abbrev hh_Law_poll : List (Nat × Nat × Nat × Nat) := [(0, 10, 13, 13), (0, 10, 17, 32)]
abbrev hh_Law_next : List (Nat × Nat × Nat × Nat) := [(0, 9, 12, 13), (0, 9, 15, 20), (0, 9, 18, 32)]
abbrev hh_Law_drop : List (Nat × Nat × Nat × Nat) := [(0, 9, 12, 13), (0, 9, 15, 20)]
abbrev hh_Law_match : List (Nat × Nat × Nat × Nat) := [(0, 10, 13, 13), (0, 10, 17, 18)]
abbrev hh_Law_edges : List (Nat × Nat × Nat × Nat) := [(0, 9, 12, 13)]
abbrev hh_Law_freeze : List (Nat × Nat × Nat × Nat) := [(0, 9, 12, 13)]
abbrev hh_Law_insert : List (Nat × Nat × Nat × Nat) := [(0, 9, 12, 13), (0, 9, 15, 20)]
abbrev hh_Law_delete : List (Nat × Nat × Nat × Nat) := [(0, 10, 13, 13)]
theorem lk_Law_13 : Cond.classLink R_Law 13 "java/lang/IndexOutOfBoundsException" ∈ gWS := (gWS_at 546 (by decide +kernel) (by decide +kernel))
theorem lk_Law_18 : Cond.classLink R_Law 18 "java/lang/IllegalArgumentException" ∈ gWS := (gWS_at 558 (by decide +kernel) (by decide +kernel))
theorem lk_Law_20 : Cond.classLink R_Law 20 "java/lang/IllegalStateException" ∈ gWS := (gWS_at 559 (by decide +kernel) (by decide +kernel))
theorem lk_Law_32 : Cond.classLink R_Law 32 "java/util/NoSuchElementException" ∈ gWS := (gWS_at 635 (by decide +kernel) (by decide +kernel))
theorem lk_Law_8 : Cond.classLink R_Law 8 "KeyHall" ∈ gWS := (gWS_at 58 (by decide +kernel) (by decide +kernel))
theorem mc_Hall_init : Cond.code y_Hall_init b_Hall_init 2 none ∈ gWS := (gWS_at 62 (by decide +kernel) (by decide +kernel))
theorem mi_Hall_init : Cond.instanceMethod y_Hall_init ∈ gWS ∧ Cond.initialized R_Hall ∈ gWS := ⟨(gWS_at 61 (by decide +kernel) (by decide +kernel)), (gWS_at 38 (by decide +kernel) (by decide +kernel))⟩
theorem mw_Law_62 : gwI gWS R_Law 62 y_Hall_init b_Hall_init 2 0 := gwI_of (gWS_at 60 (by decide +kernel) (by decide +kernel)) mi_Hall_init.1 mi_Hall_init.2 mc_Hall_init rfl (by decide +kernel)
theorem lk_Law_63 : Cond.classLink R_Law 63 "KeyHallModel" ∈ gWS := (gWS_at 839 (by decide +kernel) (by decide +kernel))
theorem mc_Model_init : Cond.code y_Model_init b_Model_init 2 none ∈ gWS := (gWS_at 843 (by decide +kernel) (by decide +kernel))
theorem mi_Model_init : Cond.instanceMethod y_Model_init ∈ gWS ∧ Cond.initialized R_Model ∈ gWS := ⟨(gWS_at 842 (by decide +kernel) (by decide +kernel)), (gWS_at 48 (by decide +kernel) (by decide +kernel))⟩
theorem mw_Law_65 : gwI gWS R_Law 65 y_Model_init b_Model_init 2 0 := gwI_of (gWS_at 841 (by decide +kernel) (by decide +kernel)) mi_Model_init.1 mi_Model_init.2 mc_Model_init rfl (by decide +kernel)
theorem mc_Hall_type : Cond.code y_Hall_type b_Hall_type 5 (some .boolean) ∈ gWS := (gWS_at 327 (by decide +kernel) (by decide +kernel))
theorem mi_Hall_type : Cond.instanceMethod y_Hall_type ∈ gWS ∧ Cond.initialized R_Hall ∈ gWS := ⟨(gWS_at 325 (by decide +kernel) (by decide +kernel)), (gWS_at 38 (by decide +kernel) (by decide +kernel))⟩
theorem msl_Hall_type : Cond.selects R_Hall y_Hall_type y_Hall_type ∈ gWS := (gWS_at 326 (by decide +kernel) (by decide +kernel))
theorem mw_Law_68 : gwV gWS R_Law 68 y_Hall_type b_Hall_type 5 (some .boolean) 2 := gwV_of (gWS_at 324 (by decide +kernel) (by decide +kernel)) mi_Hall_type.1 msl_Hall_type mi_Hall_type.2 mc_Hall_type (by decide +kernel)
theorem mc_Model_type : Cond.code y_Model_type b_Model_type 5 (some .boolean) ∈ gWS := (gWS_at 970 (by decide +kernel) (by decide +kernel))
theorem mi_Model_type : Cond.instanceMethod y_Model_type ∈ gWS ∧ Cond.initialized R_Model ∈ gWS := ⟨(gWS_at 968 (by decide +kernel) (by decide +kernel)), (gWS_at 48 (by decide +kernel) (by decide +kernel))⟩
theorem msl_Model_type : Cond.selects R_Model y_Model_type y_Model_type ∈ gWS := (gWS_at 969 (by decide +kernel) (by decide +kernel))
theorem mw_Law_72 : gwV gWS R_Law 72 y_Model_type b_Model_type 5 (some .boolean) 2 := gwV_of (gWS_at 967 (by decide +kernel) (by decide +kernel)) mi_Model_type.1 msl_Model_type mi_Model_type.2 mc_Model_type (by decide +kernel)
theorem mw_Law_73 : gwW gWS R_Law 73 y_Law_view b_Law_view 5 (some .int) hh_Law_view 4 := ⟨(gWS_at 543 (by decide +kernel) (by decide +kernel)), (gWS_at 544 (by decide +kernel) (by decide +kernel)), (gWS_at 37 (by decide +kernel) (by decide +kernel)), (gWS_at 545 (by decide +kernel) (by decide +kernel)), by decide +kernel, by decide +kernel, by decide +kernel⟩
theorem mc_Model_view : Cond.code y_Model_view b_Model_view 6 (some .int) ∈ gWS := (gWS_at 975 (by decide +kernel) (by decide +kernel))
theorem mi_Model_view : Cond.instanceMethod y_Model_view ∈ gWS ∧ Cond.initialized R_Model ∈ gWS := ⟨(gWS_at 973 (by decide +kernel) (by decide +kernel)), (gWS_at 48 (by decide +kernel) (by decide +kernel))⟩
theorem msl_Model_view : Cond.selects R_Model y_Model_view y_Model_view ∈ gWS := (gWS_at 974 (by decide +kernel) (by decide +kernel))
theorem mw_Law_78 : gwV gWS R_Law 78 y_Model_view b_Model_view 6 (some .int) 2 := gwV_of (gWS_at 972 (by decide +kernel) (by decide +kernel)) mi_Model_view.1 msl_Model_view mi_Model_view.2 mc_Model_view (by decide +kernel)
theorem mc_Model_thrown : Cond.code y_Model_thrown b_Model_thrown 1 (some .int) ∈ gWS := (gWS_at 966 (by decide +kernel) (by decide +kernel))
theorem mi_Model_thrown : Cond.instanceMethod y_Model_thrown ∈ gWS ∧ Cond.initialized R_Model ∈ gWS := ⟨(gWS_at 964 (by decide +kernel) (by decide +kernel)), (gWS_at 48 (by decide +kernel) (by decide +kernel))⟩
theorem msl_Model_thrown : Cond.selects R_Model y_Model_thrown y_Model_thrown ∈ gWS := (gWS_at 965 (by decide +kernel) (by decide +kernel))
theorem mw_Law_79 : gwV gWS R_Law 79 y_Model_thrown b_Model_thrown 1 (some .int) 0 := gwV_of (gWS_at 963 (by decide +kernel) (by decide +kernel)) mi_Model_thrown.1 msl_Model_thrown mi_Model_thrown.2 mc_Model_thrown (by decide +kernel)
theorem mw_Law_83 : gwW gWS R_Law 83 y_Law_put b_Law_put 5 (some .int) hh_Law_put 4 := ⟨(gWS_at 555 (by decide +kernel) (by decide +kernel)), (gWS_at 556 (by decide +kernel) (by decide +kernel)), (gWS_at 37 (by decide +kernel) (by decide +kernel)), (gWS_at 557 (by decide +kernel) (by decide +kernel)), by decide +kernel, by decide +kernel, by decide +kernel⟩
theorem mc_Model_put : Cond.code y_Model_put b_Model_put 7 (some .int) ∈ gWS := (gWS_at 987 (by decide +kernel) (by decide +kernel))
theorem mi_Model_put : Cond.instanceMethod y_Model_put ∈ gWS ∧ Cond.initialized R_Model ∈ gWS := ⟨(gWS_at 985 (by decide +kernel) (by decide +kernel)), (gWS_at 48 (by decide +kernel) (by decide +kernel))⟩
theorem msl_Model_put : Cond.selects R_Model y_Model_put y_Model_put ∈ gWS := (gWS_at 986 (by decide +kernel) (by decide +kernel))
theorem mw_Law_85 : gwV gWS R_Law 85 y_Model_put b_Model_put 7 (some .int) 2 := gwV_of (gWS_at 984 (by decide +kernel) (by decide +kernel)) mi_Model_put.1 msl_Model_put mi_Model_put.2 mc_Model_put (by decide +kernel)
theorem mw_Law_86 : gwW gWS R_Law 86 y_Law_get b_Law_get 4 (some .int) hh_Law_get 3 := ⟨(gWS_at 609 (by decide +kernel) (by decide +kernel)), (gWS_at 610 (by decide +kernel) (by decide +kernel)), (gWS_at 37 (by decide +kernel) (by decide +kernel)), (gWS_at 611 (by decide +kernel) (by decide +kernel)), by decide +kernel, by decide +kernel, by decide +kernel⟩
theorem mc_Model_get : Cond.code y_Model_get b_Model_get 3 (some .int) ∈ gWS := (gWS_at 1013 (by decide +kernel) (by decide +kernel))
theorem mi_Model_get : Cond.instanceMethod y_Model_get ∈ gWS ∧ Cond.initialized R_Model ∈ gWS := ⟨(gWS_at 1011 (by decide +kernel) (by decide +kernel)), (gWS_at 48 (by decide +kernel) (by decide +kernel))⟩
theorem msl_Model_get : Cond.selects R_Model y_Model_get y_Model_get ∈ gWS := (gWS_at 1012 (by decide +kernel) (by decide +kernel))
theorem mw_Law_89 : gwV gWS R_Law 89 y_Model_get b_Model_get 3 (some .int) 1 := gwV_of (gWS_at 1010 (by decide +kernel) (by decide +kernel)) mi_Model_get.1 msl_Model_get mi_Model_get.2 mc_Model_get (by decide +kernel)
theorem mw_Law_90 : gwW gWS R_Law 90 y_Law_remove b_Law_remove 4 (some .int) hh_Law_remove 3 := ⟨(gWS_at 621 (by decide +kernel) (by decide +kernel)), (gWS_at 622 (by decide +kernel) (by decide +kernel)), (gWS_at 37 (by decide +kernel) (by decide +kernel)), (gWS_at 623 (by decide +kernel) (by decide +kernel)), by decide +kernel, by decide +kernel, by decide +kernel⟩
theorem mc_Model_remove : Cond.code y_Model_remove b_Model_remove 4 (some .int) ∈ gWS := (gWS_at 1021 (by decide +kernel) (by decide +kernel))
theorem mi_Model_remove : Cond.instanceMethod y_Model_remove ∈ gWS ∧ Cond.initialized R_Model ∈ gWS := ⟨(gWS_at 1019 (by decide +kernel) (by decide +kernel)), (gWS_at 48 (by decide +kernel) (by decide +kernel))⟩
theorem msl_Model_remove : Cond.selects R_Model y_Model_remove y_Model_remove ∈ gWS := (gWS_at 1020 (by decide +kernel) (by decide +kernel))
theorem mw_Law_92 : gwV gWS R_Law 92 y_Model_remove b_Model_remove 4 (some .int) 1 := gwV_of (gWS_at 1018 (by decide +kernel) (by decide +kernel)) mi_Model_remove.1 msl_Model_remove mi_Model_remove.2 mc_Model_remove (by decide +kernel)
theorem mc_Hall_size : Cond.code y_Hall_size b_Hall_size 2 (some .int) ∈ gWS := (gWS_at 336 (by decide +kernel) (by decide +kernel))
theorem mi_Hall_size : Cond.instanceMethod y_Hall_size ∈ gWS ∧ Cond.initialized R_Hall ∈ gWS := ⟨(gWS_at 334 (by decide +kernel) (by decide +kernel)), (gWS_at 38 (by decide +kernel) (by decide +kernel))⟩
theorem msl_Hall_size : Cond.selects R_Hall y_Hall_size y_Hall_size ∈ gWS := (gWS_at 335 (by decide +kernel) (by decide +kernel))
theorem mw_Law_93 : gwV gWS R_Law 93 y_Hall_size b_Hall_size 2 (some .int) 1 := gwV_of (gWS_at 333 (by decide +kernel) (by decide +kernel)) mi_Hall_size.1 msl_Hall_size mi_Hall_size.2 mc_Hall_size (by decide +kernel)
theorem mw_Law_96 : gwV gWS R_Law 96 y_Model_size b_Model_size 4 (some .int) 1 := gwV_of (gWS_at 1026 (by decide +kernel) (by decide +kernel)) mi_Model_size.1 msl_Model_size mi_Model_size.2 mc_Model_size (by decide +kernel)
theorem mw_Law_97 : gwW gWS R_Law 97 y_Law_find b_Law_find 5 (some .int) hh_Law_find 4 := ⟨(gWS_at 632 (by decide +kernel) (by decide +kernel)), (gWS_at 633 (by decide +kernel) (by decide +kernel)), (gWS_at 37 (by decide +kernel) (by decide +kernel)), (gWS_at 634 (by decide +kernel) (by decide +kernel)), by decide +kernel, by decide +kernel, by decide +kernel⟩
theorem mc_Model_find : Cond.code y_Model_find b_Model_find 4 (some .int) ∈ gWS := (gWS_at 1037 (by decide +kernel) (by decide +kernel))
theorem mi_Model_find : Cond.instanceMethod y_Model_find ∈ gWS ∧ Cond.initialized R_Model ∈ gWS := ⟨(gWS_at 1035 (by decide +kernel) (by decide +kernel)), (gWS_at 48 (by decide +kernel) (by decide +kernel))⟩
theorem msl_Model_find : Cond.selects R_Model y_Model_find y_Model_find ∈ gWS := (gWS_at 1036 (by decide +kernel) (by decide +kernel))
theorem mw_Law_99 : gwV gWS R_Law 99 y_Model_find b_Model_find 4 (some .int) 2 := gwV_of (gWS_at 1034 (by decide +kernel) (by decide +kernel)) mi_Model_find.1 msl_Model_find mi_Model_find.2 mc_Model_find (by decide +kernel)
theorem mw_Law_100 : gwW gWS R_Law 100 y_Law_at b_Law_at 5 (some .int) hh_Law_at 4 := ⟨(gWS_at 677 (by decide +kernel) (by decide +kernel)), (gWS_at 678 (by decide +kernel) (by decide +kernel)), (gWS_at 37 (by decide +kernel) (by decide +kernel)), (gWS_at 679 (by decide +kernel) (by decide +kernel)), by decide +kernel, by decide +kernel, by decide +kernel⟩
theorem mc_Model_at : Cond.code y_Model_at b_Model_at 5 (some .int) ∈ gWS := (gWS_at 1061 (by decide +kernel) (by decide +kernel))
theorem mi_Model_at : Cond.instanceMethod y_Model_at ∈ gWS ∧ Cond.initialized R_Model ∈ gWS := ⟨(gWS_at 1059 (by decide +kernel) (by decide +kernel)), (gWS_at 48 (by decide +kernel) (by decide +kernel))⟩
theorem msl_Model_at : Cond.selects R_Model y_Model_at y_Model_at ∈ gWS := (gWS_at 1060 (by decide +kernel) (by decide +kernel))
theorem mw_Law_102 : gwV gWS R_Law 102 y_Model_at b_Model_at 5 (some .int) 2 := gwV_of (gWS_at 1058 (by decide +kernel) (by decide +kernel)) mi_Model_at.1 msl_Model_at mi_Model_at.2 mc_Model_at (by decide +kernel)
theorem mw_Law_103 : gwW gWS R_Law 103 y_Law_poll b_Law_poll 5 (some .int) hh_Law_poll 4 := ⟨(gWS_at 684 (by decide +kernel) (by decide +kernel)), (gWS_at 685 (by decide +kernel) (by decide +kernel)), (gWS_at 37 (by decide +kernel) (by decide +kernel)), (gWS_at 686 (by decide +kernel) (by decide +kernel)), by decide +kernel, by decide +kernel, by decide +kernel⟩
theorem mc_Model_poll : Cond.code y_Model_poll b_Model_poll 5 (some .int) ∈ gWS := (gWS_at 1066 (by decide +kernel) (by decide +kernel))
theorem mi_Model_poll : Cond.instanceMethod y_Model_poll ∈ gWS ∧ Cond.initialized R_Model ∈ gWS := ⟨(gWS_at 1064 (by decide +kernel) (by decide +kernel)), (gWS_at 48 (by decide +kernel) (by decide +kernel))⟩
theorem msl_Model_poll : Cond.selects R_Model y_Model_poll y_Model_poll ∈ gWS := (gWS_at 1065 (by decide +kernel) (by decide +kernel))
theorem mw_Law_106 : gwV gWS R_Law 106 y_Model_poll b_Model_poll 5 (some .int) 2 := gwV_of (gWS_at 1063 (by decide +kernel) (by decide +kernel)) mi_Model_poll.1 msl_Model_poll mi_Model_poll.2 mc_Model_poll (by decide +kernel)
theorem mc_Hall_found : Cond.code y_Hall_found b_Hall_found 2 (some .int) ∈ gWS := (gWS_at 444 (by decide +kernel) (by decide +kernel))
theorem mi_Hall_found : Cond.instanceMethod y_Hall_found ∈ gWS ∧ Cond.initialized R_Hall ∈ gWS := ⟨(gWS_at 442 (by decide +kernel) (by decide +kernel)), (gWS_at 38 (by decide +kernel) (by decide +kernel))⟩
theorem msl_Hall_found : Cond.selects R_Hall y_Hall_found y_Hall_found ∈ gWS := (gWS_at 443 (by decide +kernel) (by decide +kernel))
theorem mw_Law_107 : gwV gWS R_Law 107 y_Hall_found b_Hall_found 2 (some .int) 1 := gwV_of (gWS_at 441 (by decide +kernel) (by decide +kernel)) mi_Hall_found.1 msl_Hall_found mi_Hall_found.2 mc_Hall_found (by decide +kernel)
theorem mc_Model_found : Cond.code y_Model_found b_Model_found 2 (some .int) ∈ gWS := (gWS_at 1070 (by decide +kernel) (by decide +kernel))
theorem mi_Model_found : Cond.instanceMethod y_Model_found ∈ gWS ∧ Cond.initialized R_Model ∈ gWS := ⟨(gWS_at 1068 (by decide +kernel) (by decide +kernel)), (gWS_at 48 (by decide +kernel) (by decide +kernel))⟩
theorem msl_Model_found : Cond.selects R_Model y_Model_found y_Model_found ∈ gWS := (gWS_at 1069 (by decide +kernel) (by decide +kernel))
theorem mw_Law_110 : gwV gWS R_Law 110 y_Model_found b_Model_found 2 (some .int) 1 := gwV_of (gWS_at 1067 (by decide +kernel) (by decide +kernel)) mi_Model_found.1 msl_Model_found mi_Model_found.2 mc_Model_found (by decide +kernel)
theorem mc_Hall_iterate : Cond.code y_Hall_iterate b_Hall_iterate 3 (some .boolean) ∈ gWS := (gWS_at 448 (by decide +kernel) (by decide +kernel))
theorem mi_Hall_iterate : Cond.instanceMethod y_Hall_iterate ∈ gWS ∧ Cond.initialized R_Hall ∈ gWS := ⟨(gWS_at 446 (by decide +kernel) (by decide +kernel)), (gWS_at 38 (by decide +kernel) (by decide +kernel))⟩
theorem msl_Hall_iterate : Cond.selects R_Hall y_Hall_iterate y_Hall_iterate ∈ gWS := (gWS_at 447 (by decide +kernel) (by decide +kernel))
theorem mw_Law_111 : gwV gWS R_Law 111 y_Hall_iterate b_Hall_iterate 3 (some .boolean) 1 := gwV_of (gWS_at 445 (by decide +kernel) (by decide +kernel)) mi_Hall_iterate.1 msl_Hall_iterate mi_Hall_iterate.2 mc_Hall_iterate (by decide +kernel)
theorem mc_Model_iterate : Cond.code y_Model_iterate b_Model_iterate 2 (some .boolean) ∈ gWS := (gWS_at 1074 (by decide +kernel) (by decide +kernel))
theorem mi_Model_iterate : Cond.instanceMethod y_Model_iterate ∈ gWS ∧ Cond.initialized R_Model ∈ gWS := ⟨(gWS_at 1072 (by decide +kernel) (by decide +kernel)), (gWS_at 48 (by decide +kernel) (by decide +kernel))⟩
theorem msl_Model_iterate : Cond.selects R_Model y_Model_iterate y_Model_iterate ∈ gWS := (gWS_at 1073 (by decide +kernel) (by decide +kernel))
theorem mw_Law_115 : gwV gWS R_Law 115 y_Model_iterate b_Model_iterate 2 (some .boolean) 1 := gwV_of (gWS_at 1071 (by decide +kernel) (by decide +kernel)) mi_Model_iterate.1 msl_Model_iterate mi_Model_iterate.2 mc_Model_iterate (by decide +kernel)
theorem mw_Law_116 : gwW gWS R_Law 116 y_Law_next b_Law_next 4 (some .int) hh_Law_next 3 := ⟨(gWS_at 691 (by decide +kernel) (by decide +kernel)), (gWS_at 692 (by decide +kernel) (by decide +kernel)), (gWS_at 37 (by decide +kernel) (by decide +kernel)), (gWS_at 693 (by decide +kernel) (by decide +kernel)), by decide +kernel, by decide +kernel, by decide +kernel⟩
theorem mc_Model_next : Cond.code y_Model_next b_Model_next 5 (some .int) ∈ gWS := (gWS_at 1078 (by decide +kernel) (by decide +kernel))
theorem mi_Model_next : Cond.instanceMethod y_Model_next ∈ gWS ∧ Cond.initialized R_Model ∈ gWS := ⟨(gWS_at 1076 (by decide +kernel) (by decide +kernel)), (gWS_at 48 (by decide +kernel) (by decide +kernel))⟩
theorem msl_Model_next : Cond.selects R_Model y_Model_next y_Model_next ∈ gWS := (gWS_at 1077 (by decide +kernel) (by decide +kernel))
theorem mw_Law_118 : gwV gWS R_Law 118 y_Model_next b_Model_next 5 (some .int) 1 := gwV_of (gWS_at 1075 (by decide +kernel) (by decide +kernel)) mi_Model_next.1 msl_Model_next mi_Model_next.2 mc_Model_next (by decide +kernel)
theorem mw_Law_119 : gwW gWS R_Law 119 y_Law_drop b_Law_drop 4 (some .int) hh_Law_drop 3 := ⟨(gWS_at 706 (by decide +kernel) (by decide +kernel)), (gWS_at 707 (by decide +kernel) (by decide +kernel)), (gWS_at 37 (by decide +kernel) (by decide +kernel)), (gWS_at 708 (by decide +kernel) (by decide +kernel)), by decide +kernel, by decide +kernel, by decide +kernel⟩
theorem mc_Model_drop : Cond.code y_Model_drop b_Model_drop 5 (some .int) ∈ gWS := (gWS_at 1086 (by decide +kernel) (by decide +kernel))
theorem mi_Model_drop : Cond.instanceMethod y_Model_drop ∈ gWS ∧ Cond.initialized R_Model ∈ gWS := ⟨(gWS_at 1084 (by decide +kernel) (by decide +kernel)), (gWS_at 48 (by decide +kernel) (by decide +kernel))⟩
theorem msl_Model_drop : Cond.selects R_Model y_Model_drop y_Model_drop ∈ gWS := (gWS_at 1085 (by decide +kernel) (by decide +kernel))
theorem mw_Law_121 : gwV gWS R_Law 121 y_Model_drop b_Model_drop 5 (some .int) 1 := gwV_of (gWS_at 1083 (by decide +kernel) (by decide +kernel)) mi_Model_drop.1 msl_Model_drop mi_Model_drop.2 mc_Model_drop (by decide +kernel)
theorem mw_Law_122 : gwW gWS R_Law 122 y_Law_match b_Law_match 5 (some .int) hh_Law_match 4 := ⟨(gWS_at 717 (by decide +kernel) (by decide +kernel)), (gWS_at 718 (by decide +kernel) (by decide +kernel)), (gWS_at 37 (by decide +kernel) (by decide +kernel)), (gWS_at 719 (by decide +kernel) (by decide +kernel)), by decide +kernel, by decide +kernel, by decide +kernel⟩
theorem mc_Model_match : Cond.code y_Model_match b_Model_match 9 (some .int) ∈ gWS := (gWS_at 1090 (by decide +kernel) (by decide +kernel))
theorem mi_Model_match : Cond.instanceMethod y_Model_match ∈ gWS ∧ Cond.initialized R_Model ∈ gWS := ⟨(gWS_at 1088 (by decide +kernel) (by decide +kernel)), (gWS_at 48 (by decide +kernel) (by decide +kernel))⟩
theorem msl_Model_match : Cond.selects R_Model y_Model_match y_Model_match ∈ gWS := (gWS_at 1089 (by decide +kernel) (by decide +kernel))
theorem mw_Law_124 : gwV gWS R_Law 124 y_Model_match b_Model_match 9 (some .int) 2 := gwV_of (gWS_at 1087 (by decide +kernel) (by decide +kernel)) mi_Model_match.1 msl_Model_match mi_Model_match.2 mc_Model_match (by decide +kernel)
theorem mw_Law_125 : gwW gWS R_Law 125 y_Law_edges b_Law_edges 4 (some .int) hh_Law_edges 3 := ⟨(gWS_at 728 (by decide +kernel) (by decide +kernel)), (gWS_at 729 (by decide +kernel) (by decide +kernel)), (gWS_at 37 (by decide +kernel) (by decide +kernel)), (gWS_at 730 (by decide +kernel) (by decide +kernel)), by decide +kernel, by decide +kernel, by decide +kernel⟩
theorem mc_Model_edges : Cond.code y_Model_edges b_Model_edges 4 (some .int) ∈ gWS := (gWS_at 1094 (by decide +kernel) (by decide +kernel))
theorem mi_Model_edges : Cond.instanceMethod y_Model_edges ∈ gWS ∧ Cond.initialized R_Model ∈ gWS := ⟨(gWS_at 1092 (by decide +kernel) (by decide +kernel)), (gWS_at 48 (by decide +kernel) (by decide +kernel))⟩
theorem msl_Model_edges : Cond.selects R_Model y_Model_edges y_Model_edges ∈ gWS := (gWS_at 1093 (by decide +kernel) (by decide +kernel))
theorem mw_Law_127 : gwV gWS R_Law 127 y_Model_edges b_Model_edges 4 (some .int) 1 := gwV_of (gWS_at 1091 (by decide +kernel) (by decide +kernel)) mi_Model_edges.1 msl_Model_edges mi_Model_edges.2 mc_Model_edges (by decide +kernel)
theorem mw_Law_128 : gwW gWS R_Law 128 y_Law_freeze b_Law_freeze 4 (some .int) hh_Law_freeze 3 := ⟨(gWS_at 764 (by decide +kernel) (by decide +kernel)), (gWS_at 765 (by decide +kernel) (by decide +kernel)), (gWS_at 37 (by decide +kernel) (by decide +kernel)), (gWS_at 766 (by decide +kernel) (by decide +kernel)), by decide +kernel, by decide +kernel, by decide +kernel⟩
theorem mc_Model_freeze : Cond.code y_Model_freeze b_Model_freeze 5 (some .int) ∈ gWS := (gWS_at 1122 (by decide +kernel) (by decide +kernel))
theorem mi_Model_freeze : Cond.instanceMethod y_Model_freeze ∈ gWS ∧ Cond.initialized R_Model ∈ gWS := ⟨(gWS_at 1120 (by decide +kernel) (by decide +kernel)), (gWS_at 48 (by decide +kernel) (by decide +kernel))⟩
theorem msl_Model_freeze : Cond.selects R_Model y_Model_freeze y_Model_freeze ∈ gWS := (gWS_at 1121 (by decide +kernel) (by decide +kernel))
theorem mw_Law_130 : gwV gWS R_Law 130 y_Model_freeze b_Model_freeze 5 (some .int) 1 := gwV_of (gWS_at 1119 (by decide +kernel) (by decide +kernel)) mi_Model_freeze.1 msl_Model_freeze mi_Model_freeze.2 mc_Model_freeze (by decide +kernel)
theorem mc_Hall_automaton : Cond.code y_Hall_automaton b_Hall_automaton 2 (some .int) ∈ gWS := (gWS_at 456 (by decide +kernel) (by decide +kernel))
theorem mi_Hall_automaton : Cond.instanceMethod y_Hall_automaton ∈ gWS ∧ Cond.initialized R_Hall ∈ gWS := ⟨(gWS_at 454 (by decide +kernel) (by decide +kernel)), (gWS_at 38 (by decide +kernel) (by decide +kernel))⟩
theorem msl_Hall_automaton : Cond.selects R_Hall y_Hall_automaton y_Hall_automaton ∈ gWS := (gWS_at 455 (by decide +kernel) (by decide +kernel))
theorem mw_Law_131 : gwV gWS R_Law 131 y_Hall_automaton b_Hall_automaton 2 (some .int) 1 := gwV_of (gWS_at 453 (by decide +kernel) (by decide +kernel)) mi_Hall_automaton.1 msl_Hall_automaton mi_Hall_automaton.2 mc_Hall_automaton (by decide +kernel)
theorem mc_Model_automaton : Cond.code y_Model_automaton b_Model_automaton 5 (some .int) ∈ gWS := (gWS_at 1158 (by decide +kernel) (by decide +kernel))
theorem mi_Model_automaton : Cond.instanceMethod y_Model_automaton ∈ gWS ∧ Cond.initialized R_Model ∈ gWS := ⟨(gWS_at 1156 (by decide +kernel) (by decide +kernel)), (gWS_at 48 (by decide +kernel) (by decide +kernel))⟩
theorem msl_Model_automaton : Cond.selects R_Model y_Model_automaton y_Model_automaton ∈ gWS := (gWS_at 1157 (by decide +kernel) (by decide +kernel))
theorem mw_Law_134 : gwV gWS R_Law 134 y_Model_automaton b_Model_automaton 5 (some .int) 1 := gwV_of (gWS_at 1155 (by decide +kernel) (by decide +kernel)) mi_Model_automaton.1 msl_Model_automaton mi_Model_automaton.2 mc_Model_automaton (by decide +kernel)
theorem mw_Law_135 : gwW gWS R_Law 135 y_Law_insert b_Law_insert 4 (some .int) hh_Law_insert 3 := ⟨(gWS_at 809 (by decide +kernel) (by decide +kernel)), (gWS_at 810 (by decide +kernel) (by decide +kernel)), (gWS_at 37 (by decide +kernel) (by decide +kernel)), (gWS_at 811 (by decide +kernel) (by decide +kernel)), by decide +kernel, by decide +kernel, by decide +kernel⟩
theorem mc_Model_insert : Cond.code y_Model_insert b_Model_insert 4 (some .int) ∈ gWS := (gWS_at 1162 (by decide +kernel) (by decide +kernel))
theorem mi_Model_insert : Cond.instanceMethod y_Model_insert ∈ gWS ∧ Cond.initialized R_Model ∈ gWS := ⟨(gWS_at 1160 (by decide +kernel) (by decide +kernel)), (gWS_at 48 (by decide +kernel) (by decide +kernel))⟩
theorem msl_Model_insert : Cond.selects R_Model y_Model_insert y_Model_insert ∈ gWS := (gWS_at 1161 (by decide +kernel) (by decide +kernel))
theorem mw_Law_137 : gwV gWS R_Law 137 y_Model_insert b_Model_insert 4 (some .int) 1 := gwV_of (gWS_at 1159 (by decide +kernel) (by decide +kernel)) mi_Model_insert.1 msl_Model_insert mi_Model_insert.2 mc_Model_insert (by decide +kernel)
theorem mw_Law_138 : gwW gWS R_Law 138 y_Law_delete b_Law_delete 5 (some .int) hh_Law_delete 4 := ⟨(gWS_at 828 (by decide +kernel) (by decide +kernel)), (gWS_at 829 (by decide +kernel) (by decide +kernel)), (gWS_at 37 (by decide +kernel) (by decide +kernel)), (gWS_at 830 (by decide +kernel) (by decide +kernel)), by decide +kernel, by decide +kernel, by decide +kernel⟩
theorem mc_Model_delete : Cond.code y_Model_delete b_Model_delete 4 (some .int) ∈ gWS := (gWS_at 1170 (by decide +kernel) (by decide +kernel))
theorem mi_Model_delete : Cond.instanceMethod y_Model_delete ∈ gWS ∧ Cond.initialized R_Model ∈ gWS := ⟨(gWS_at 1168 (by decide +kernel) (by decide +kernel)), (gWS_at 48 (by decide +kernel) (by decide +kernel))⟩
theorem msl_Model_delete : Cond.selects R_Model y_Model_delete y_Model_delete ∈ gWS := (gWS_at 1169 (by decide +kernel) (by decide +kernel))
theorem mw_Law_140 : gwV gWS R_Law 140 y_Model_delete b_Model_delete 4 (some .int) 2 := gwV_of (gWS_at 1167 (by decide +kernel) (by decide +kernel)) mi_Model_delete.1 msl_Model_delete mi_Model_delete.2 mc_Model_delete (by decide +kernel)
theorem mc_Hall_undo : Cond.code y_Hall_undo b_Hall_undo 1 (some .int) ∈ gWS := (gWS_at 488 (by decide +kernel) (by decide +kernel))
theorem mi_Hall_undo : Cond.instanceMethod y_Hall_undo ∈ gWS ∧ Cond.initialized R_Hall ∈ gWS := ⟨(gWS_at 486 (by decide +kernel) (by decide +kernel)), (gWS_at 38 (by decide +kernel) (by decide +kernel))⟩
theorem msl_Hall_undo : Cond.selects R_Hall y_Hall_undo y_Hall_undo ∈ gWS := (gWS_at 487 (by decide +kernel) (by decide +kernel))
theorem mw_Law_141 : gwV gWS R_Law 141 y_Hall_undo b_Hall_undo 1 (some .int) 0 := gwV_of (gWS_at 485 (by decide +kernel) (by decide +kernel)) mi_Hall_undo.1 msl_Hall_undo mi_Hall_undo.2 mc_Hall_undo (by decide +kernel)
theorem mc_Model_undo : Cond.code y_Model_undo b_Model_undo 3 (some .int) ∈ gWS := (gWS_at 1174 (by decide +kernel) (by decide +kernel))
theorem mi_Model_undo : Cond.instanceMethod y_Model_undo ∈ gWS ∧ Cond.initialized R_Model ∈ gWS := ⟨(gWS_at 1172 (by decide +kernel) (by decide +kernel)), (gWS_at 48 (by decide +kernel) (by decide +kernel))⟩
theorem msl_Model_undo : Cond.selects R_Model y_Model_undo y_Model_undo ∈ gWS := (gWS_at 1173 (by decide +kernel) (by decide +kernel))
theorem mw_Law_144 : gwV gWS R_Law 144 y_Model_undo b_Model_undo 3 (some .int) 0 := gwV_of (gWS_at 1171 (by decide +kernel) (by decide +kernel)) mi_Model_undo.1 msl_Model_undo mi_Model_undo.2 mc_Model_undo (by decide +kernel)
theorem mc_Hall_letter : Cond.code y_Hall_letter b_Hall_letter 2 (some .int) ∈ gWS := (gWS_at 501 (by decide +kernel) (by decide +kernel))
theorem mi_Hall_letter : Cond.instanceMethod y_Hall_letter ∈ gWS ∧ Cond.initialized R_Hall ∈ gWS := ⟨(gWS_at 499 (by decide +kernel) (by decide +kernel)), (gWS_at 38 (by decide +kernel) (by decide +kernel))⟩
theorem msl_Hall_letter : Cond.selects R_Hall y_Hall_letter y_Hall_letter ∈ gWS := (gWS_at 500 (by decide +kernel) (by decide +kernel))
theorem mw_Law_145 : gwV gWS R_Law 145 y_Hall_letter b_Hall_letter 2 (some .int) 1 := gwV_of (gWS_at 498 (by decide +kernel) (by decide +kernel)) mi_Hall_letter.1 msl_Hall_letter mi_Hall_letter.2 mc_Hall_letter (by decide +kernel)
theorem mc_Model_letter : Cond.code y_Model_letter b_Model_letter 4 (some .int) ∈ gWS := (gWS_at 1178 (by decide +kernel) (by decide +kernel))
theorem mi_Model_letter : Cond.instanceMethod y_Model_letter ∈ gWS ∧ Cond.initialized R_Model ∈ gWS := ⟨(gWS_at 1176 (by decide +kernel) (by decide +kernel)), (gWS_at 48 (by decide +kernel) (by decide +kernel))⟩
theorem msl_Model_letter : Cond.selects R_Model y_Model_letter y_Model_letter ∈ gWS := (gWS_at 1177 (by decide +kernel) (by decide +kernel))
theorem mw_Law_148 : gwV gWS R_Law 148 y_Model_letter b_Model_letter 4 (some .int) 1 := gwV_of (gWS_at 1175 (by decide +kernel) (by decide +kernel)) mi_Model_letter.1 msl_Model_letter mi_Model_letter.2 mc_Model_letter (by decide +kernel)
theorem mc_Hall_suffix : Cond.code y_Hall_suffix b_Hall_suffix 3 (some .int) ∈ gWS := (gWS_at 509 (by decide +kernel) (by decide +kernel))
theorem mi_Hall_suffix : Cond.instanceMethod y_Hall_suffix ∈ gWS ∧ Cond.initialized R_Hall ∈ gWS := ⟨(gWS_at 507 (by decide +kernel) (by decide +kernel)), (gWS_at 38 (by decide +kernel) (by decide +kernel))⟩
theorem msl_Hall_suffix : Cond.selects R_Hall y_Hall_suffix y_Hall_suffix ∈ gWS := (gWS_at 508 (by decide +kernel) (by decide +kernel))
theorem mw_Law_149 : gwV gWS R_Law 149 y_Hall_suffix b_Hall_suffix 3 (some .int) 2 := gwV_of (gWS_at 506 (by decide +kernel) (by decide +kernel)) mi_Hall_suffix.1 msl_Hall_suffix mi_Hall_suffix.2 mc_Hall_suffix (by decide +kernel)
theorem mc_Model_suffix : Cond.code y_Model_suffix b_Model_suffix 6 (some .int) ∈ gWS := (gWS_at 1182 (by decide +kernel) (by decide +kernel))
theorem mi_Model_suffix : Cond.instanceMethod y_Model_suffix ∈ gWS ∧ Cond.initialized R_Model ∈ gWS := ⟨(gWS_at 1180 (by decide +kernel) (by decide +kernel)), (gWS_at 48 (by decide +kernel) (by decide +kernel))⟩
theorem msl_Model_suffix : Cond.selects R_Model y_Model_suffix y_Model_suffix ∈ gWS := (gWS_at 1181 (by decide +kernel) (by decide +kernel))
theorem mw_Law_152 : gwV gWS R_Law 152 y_Model_suffix b_Model_suffix 6 (some .int) 2 := gwV_of (gWS_at 1179 (by decide +kernel) (by decide +kernel)) mi_Model_suffix.1 msl_Model_suffix mi_Model_suffix.2 mc_Model_suffix (by decide +kernel)
theorem mc_Hall_locate : Cond.code y_Hall_locate b_Hall_locate 2 (some .int) ∈ gWS := (gWS_at 530 (by decide +kernel) (by decide +kernel))
theorem mi_Hall_locate : Cond.instanceMethod y_Hall_locate ∈ gWS ∧ Cond.initialized R_Hall ∈ gWS := ⟨(gWS_at 528 (by decide +kernel) (by decide +kernel)), (gWS_at 38 (by decide +kernel) (by decide +kernel))⟩
theorem msl_Hall_locate : Cond.selects R_Hall y_Hall_locate y_Hall_locate ∈ gWS := (gWS_at 529 (by decide +kernel) (by decide +kernel))
theorem mw_Law_153 : gwV gWS R_Law 153 y_Hall_locate b_Hall_locate 2 (some .int) 1 := gwV_of (gWS_at 527 (by decide +kernel) (by decide +kernel)) mi_Hall_locate.1 msl_Hall_locate mi_Hall_locate.2 mc_Hall_locate (by decide +kernel)
theorem mc_Model_locate : Cond.code y_Model_locate b_Model_locate 5 (some .int) ∈ gWS := (gWS_at 1190 (by decide +kernel) (by decide +kernel))
theorem mi_Model_locate : Cond.instanceMethod y_Model_locate ∈ gWS ∧ Cond.initialized R_Model ∈ gWS := ⟨(gWS_at 1188 (by decide +kernel) (by decide +kernel)), (gWS_at 48 (by decide +kernel) (by decide +kernel))⟩
theorem msl_Model_locate : Cond.selects R_Model y_Model_locate y_Model_locate ∈ gWS := (gWS_at 1189 (by decide +kernel) (by decide +kernel))
theorem mw_Law_156 : gwV gWS R_Law 156 y_Model_locate b_Model_locate 5 (some .int) 1 := gwV_of (gWS_at 1187 (by decide +kernel) (by decide +kernel)) mi_Model_locate.1 msl_Model_locate mi_Model_locate.2 mc_Model_locate (by decide +kernel)
theorem d_Law_view_0 : decode b_Law_view 0 = .ok (.aload_n 3, 1) := by decide +kernel
theorem d_Law_view_1 : decode b_Law_view 1 = .ok (.iconst 0, 1) := by decide +kernel
theorem d_Law_view_2 : decode b_Law_view 2 = .ok (.aload_n 0, 1) := by decide +kernel
theorem d_Law_view_3 : decode b_Law_view 3 = .ok (.iload_n 1, 1) := by decide +kernel
theorem d_Law_view_4 : decode b_Law_view 4 = .ok (.iload_n 2, 1) := by decide +kernel
theorem d_Law_view_5 : decode b_Law_view 5 = .ok (.invokevirtual 7, 3) := by decide +kernel
theorem d_Law_view_8 : decode b_Law_view 8 = .ok (.i2l, 1) := by decide +kernel
theorem d_Law_view_9 : decode b_Law_view 9 = .ok (.lastore, 1) := by decide +kernel
theorem d_Law_view_10 : decode b_Law_view 10 = .ok (.goto 7, 3) := by decide +kernel
theorem d_Law_view_13 : decode b_Law_view 13 = .ok (.astore 4, 2) := by decide +kernel
theorem d_Law_view_15 : decode b_Law_view 15 = .ok (.iconst 1, 1) := by decide +kernel
theorem d_Law_view_16 : decode b_Law_view 16 = .ok (.ireturn, 1) := by decide +kernel
theorem d_Law_view_17 : decode b_Law_view 17 = .ok (.iconst 0, 1) := by decide +kernel
theorem d_Law_view_18 : decode b_Law_view 18 = .ok (.ireturn, 1) := by decide +kernel
theorem d_Law_put_0 : decode b_Law_put 0 = .ok (.aload_n 3, 1) := by decide +kernel
theorem d_Law_put_1 : decode b_Law_put 1 = .ok (.iconst 0, 1) := by decide +kernel
theorem d_Law_put_2 : decode b_Law_put 2 = .ok (.aload_n 0, 1) := by decide +kernel
theorem d_Law_put_3 : decode b_Law_put 3 = .ok (.iload_n 1, 1) := by decide +kernel
theorem d_Law_put_4 : decode b_Law_put 4 = .ok (.iload_n 2, 1) := by decide +kernel
theorem d_Law_put_5 : decode b_Law_put 5 = .ok (.invokevirtual 15, 3) := by decide +kernel
theorem d_Law_put_8 : decode b_Law_put 8 = .ok (.i2l, 1) := by decide +kernel
theorem d_Law_put_9 : decode b_Law_put 9 = .ok (.lastore, 1) := by decide +kernel
theorem d_Law_put_10 : decode b_Law_put 10 = .ok (.goto 15, 3) := by decide +kernel
theorem d_Law_put_13 : decode b_Law_put 13 = .ok (.astore 4, 2) := by decide +kernel
theorem d_Law_put_15 : decode b_Law_put 15 = .ok (.iconst 1, 1) := by decide +kernel
theorem d_Law_put_16 : decode b_Law_put 16 = .ok (.ireturn, 1) := by decide +kernel
theorem d_Law_put_17 : decode b_Law_put 17 = .ok (.astore 4, 2) := by decide +kernel
theorem d_Law_put_19 : decode b_Law_put 19 = .ok (.iconst 2, 1) := by decide +kernel
theorem d_Law_put_20 : decode b_Law_put 20 = .ok (.ireturn, 1) := by decide +kernel
theorem d_Law_put_21 : decode b_Law_put 21 = .ok (.astore 4, 2) := by decide +kernel
theorem d_Law_put_23 : decode b_Law_put 23 = .ok (.iconst 3, 1) := by decide +kernel
theorem d_Law_put_24 : decode b_Law_put 24 = .ok (.ireturn, 1) := by decide +kernel
theorem d_Law_put_25 : decode b_Law_put 25 = .ok (.iconst 0, 1) := by decide +kernel
theorem d_Law_put_26 : decode b_Law_put 26 = .ok (.ireturn, 1) := by decide +kernel
theorem d_Law_get_0 : decode b_Law_get 0 = .ok (.aload_n 2, 1) := by decide +kernel
theorem d_Law_get_1 : decode b_Law_get 1 = .ok (.iconst 0, 1) := by decide +kernel
theorem d_Law_get_2 : decode b_Law_get 2 = .ok (.aload_n 0, 1) := by decide +kernel
theorem d_Law_get_3 : decode b_Law_get 3 = .ok (.iload_n 1, 1) := by decide +kernel
theorem d_Law_get_4 : decode b_Law_get 4 = .ok (.invokevirtual 22, 3) := by decide +kernel
theorem d_Law_get_7 : decode b_Law_get 7 = .ok (.i2l, 1) := by decide +kernel
theorem d_Law_get_8 : decode b_Law_get 8 = .ok (.lastore, 1) := by decide +kernel
theorem d_Law_get_9 : decode b_Law_get 9 = .ok (.goto 6, 3) := by decide +kernel
theorem d_Law_get_12 : decode b_Law_get 12 = .ok (.astore_n 3, 1) := by decide +kernel
theorem d_Law_get_13 : decode b_Law_get 13 = .ok (.iconst 1, 1) := by decide +kernel
theorem d_Law_get_14 : decode b_Law_get 14 = .ok (.ireturn, 1) := by decide +kernel
theorem d_Law_get_15 : decode b_Law_get 15 = .ok (.iconst 0, 1) := by decide +kernel
theorem d_Law_get_16 : decode b_Law_get 16 = .ok (.ireturn, 1) := by decide +kernel
theorem d_Law_remove_0 : decode b_Law_remove 0 = .ok (.aload_n 2, 1) := by decide +kernel
theorem d_Law_remove_1 : decode b_Law_remove 1 = .ok (.iconst 0, 1) := by decide +kernel
theorem d_Law_remove_2 : decode b_Law_remove 2 = .ok (.aload_n 0, 1) := by decide +kernel
theorem d_Law_remove_3 : decode b_Law_remove 3 = .ok (.iload_n 1, 1) := by decide +kernel
theorem d_Law_remove_4 : decode b_Law_remove 4 = .ok (.invokevirtual 26, 3) := by decide +kernel
theorem d_Law_remove_7 : decode b_Law_remove 7 = .ok (.i2l, 1) := by decide +kernel
theorem d_Law_remove_8 : decode b_Law_remove 8 = .ok (.lastore, 1) := by decide +kernel
theorem d_Law_remove_9 : decode b_Law_remove 9 = .ok (.goto 6, 3) := by decide +kernel
theorem d_Law_remove_12 : decode b_Law_remove 12 = .ok (.astore_n 3, 1) := by decide +kernel
theorem d_Law_remove_13 : decode b_Law_remove 13 = .ok (.iconst 1, 1) := by decide +kernel
theorem d_Law_remove_14 : decode b_Law_remove 14 = .ok (.ireturn, 1) := by decide +kernel
theorem d_Law_remove_15 : decode b_Law_remove 15 = .ok (.iconst 0, 1) := by decide +kernel
theorem d_Law_remove_16 : decode b_Law_remove 16 = .ok (.ireturn, 1) := by decide +kernel
theorem d_Law_find_0 : decode b_Law_find 0 = .ok (.aload_n 3, 1) := by decide +kernel
theorem d_Law_find_1 : decode b_Law_find 1 = .ok (.iconst 0, 1) := by decide +kernel
theorem d_Law_find_2 : decode b_Law_find 2 = .ok (.aload_n 0, 1) := by decide +kernel
theorem d_Law_find_3 : decode b_Law_find 3 = .ok (.iload_n 1, 1) := by decide +kernel
theorem d_Law_find_4 : decode b_Law_find 4 = .ok (.iload_n 2, 1) := by decide +kernel
theorem d_Law_find_5 : decode b_Law_find 5 = .ok (.invokevirtual 29, 3) := by decide +kernel
theorem d_Law_find_8 : decode b_Law_find 8 = .ok (.i2l, 1) := by decide +kernel
theorem d_Law_find_9 : decode b_Law_find 9 = .ok (.lastore, 1) := by decide +kernel
theorem d_Law_find_10 : decode b_Law_find 10 = .ok (.goto 11, 3) := by decide +kernel
theorem d_Law_find_13 : decode b_Law_find 13 = .ok (.astore 4, 2) := by decide +kernel
theorem d_Law_find_15 : decode b_Law_find 15 = .ok (.iconst 1, 1) := by decide +kernel
theorem d_Law_find_16 : decode b_Law_find 16 = .ok (.ireturn, 1) := by decide +kernel
theorem d_Law_find_17 : decode b_Law_find 17 = .ok (.astore 4, 2) := by decide +kernel
theorem d_Law_find_19 : decode b_Law_find 19 = .ok (.iconst 2, 1) := by decide +kernel
theorem d_Law_find_20 : decode b_Law_find 20 = .ok (.ireturn, 1) := by decide +kernel
theorem d_Law_find_21 : decode b_Law_find 21 = .ok (.iconst 0, 1) := by decide +kernel
theorem d_Law_find_22 : decode b_Law_find 22 = .ok (.ireturn, 1) := by decide +kernel
theorem d_Law_at_0 : decode b_Law_at 0 = .ok (.aload_n 3, 1) := by decide +kernel
theorem d_Law_at_1 : decode b_Law_at 1 = .ok (.iconst 0, 1) := by decide +kernel
theorem d_Law_at_2 : decode b_Law_at 2 = .ok (.aload_n 0, 1) := by decide +kernel
theorem d_Law_at_3 : decode b_Law_at 3 = .ok (.iload_n 1, 1) := by decide +kernel
theorem d_Law_at_4 : decode b_Law_at 4 = .ok (.iload_n 2, 1) := by decide +kernel
theorem d_Law_at_5 : decode b_Law_at 5 = .ok (.invokevirtual 34, 3) := by decide +kernel
theorem d_Law_at_8 : decode b_Law_at 8 = .ok (.i2l, 1) := by decide +kernel
theorem d_Law_at_9 : decode b_Law_at 9 = .ok (.lastore, 1) := by decide +kernel
theorem d_Law_at_10 : decode b_Law_at 10 = .ok (.goto 11, 3) := by decide +kernel
theorem d_Law_at_13 : decode b_Law_at 13 = .ok (.astore 4, 2) := by decide +kernel
theorem d_Law_at_15 : decode b_Law_at 15 = .ok (.iconst 1, 1) := by decide +kernel
theorem d_Law_at_16 : decode b_Law_at 16 = .ok (.ireturn, 1) := by decide +kernel
theorem d_Law_at_17 : decode b_Law_at 17 = .ok (.astore 4, 2) := by decide +kernel
theorem d_Law_at_19 : decode b_Law_at 19 = .ok (.iconst 2, 1) := by decide +kernel
theorem d_Law_at_20 : decode b_Law_at 20 = .ok (.ireturn, 1) := by decide +kernel
theorem d_Law_at_21 : decode b_Law_at 21 = .ok (.iconst 0, 1) := by decide +kernel
theorem d_Law_at_22 : decode b_Law_at 22 = .ok (.ireturn, 1) := by decide +kernel
theorem d_Law_poll_0 : decode b_Law_poll 0 = .ok (.aload_n 3, 1) := by decide +kernel
theorem d_Law_poll_1 : decode b_Law_poll 1 = .ok (.iconst 0, 1) := by decide +kernel
theorem d_Law_poll_2 : decode b_Law_poll 2 = .ok (.aload_n 0, 1) := by decide +kernel
theorem d_Law_poll_3 : decode b_Law_poll 3 = .ok (.iload_n 1, 1) := by decide +kernel
theorem d_Law_poll_4 : decode b_Law_poll 4 = .ok (.iload_n 2, 1) := by decide +kernel
theorem d_Law_poll_5 : decode b_Law_poll 5 = .ok (.invokevirtual 37, 3) := by decide +kernel
theorem d_Law_poll_8 : decode b_Law_poll 8 = .ok (.i2l, 1) := by decide +kernel
theorem d_Law_poll_9 : decode b_Law_poll 9 = .ok (.lastore, 1) := by decide +kernel
theorem d_Law_poll_10 : decode b_Law_poll 10 = .ok (.goto 11, 3) := by decide +kernel
theorem d_Law_poll_13 : decode b_Law_poll 13 = .ok (.astore 4, 2) := by decide +kernel
theorem d_Law_poll_15 : decode b_Law_poll 15 = .ok (.iconst 1, 1) := by decide +kernel
theorem d_Law_poll_16 : decode b_Law_poll 16 = .ok (.ireturn, 1) := by decide +kernel
theorem d_Law_poll_17 : decode b_Law_poll 17 = .ok (.astore 4, 2) := by decide +kernel
theorem d_Law_poll_19 : decode b_Law_poll 19 = .ok (.iconst 2, 1) := by decide +kernel
theorem d_Law_poll_20 : decode b_Law_poll 20 = .ok (.ireturn, 1) := by decide +kernel
theorem d_Law_poll_21 : decode b_Law_poll 21 = .ok (.iconst 0, 1) := by decide +kernel
theorem d_Law_poll_22 : decode b_Law_poll 22 = .ok (.ireturn, 1) := by decide +kernel
theorem d_Law_next_0 : decode b_Law_next 0 = .ok (.aload_n 2, 1) := by decide +kernel
theorem d_Law_next_1 : decode b_Law_next 1 = .ok (.iconst 0, 1) := by decide +kernel
theorem d_Law_next_2 : decode b_Law_next 2 = .ok (.aload_n 0, 1) := by decide +kernel
theorem d_Law_next_3 : decode b_Law_next 3 = .ok (.iload_n 1, 1) := by decide +kernel
theorem d_Law_next_4 : decode b_Law_next 4 = .ok (.invokevirtual 41, 3) := by decide +kernel
theorem d_Law_next_7 : decode b_Law_next 7 = .ok (.i2l, 1) := by decide +kernel
theorem d_Law_next_8 : decode b_Law_next 8 = .ok (.lastore, 1) := by decide +kernel
theorem d_Law_next_9 : decode b_Law_next 9 = .ok (.goto 12, 3) := by decide +kernel
theorem d_Law_next_12 : decode b_Law_next 12 = .ok (.astore_n 3, 1) := by decide +kernel
theorem d_Law_next_13 : decode b_Law_next 13 = .ok (.iconst 1, 1) := by decide +kernel
theorem d_Law_next_14 : decode b_Law_next 14 = .ok (.ireturn, 1) := by decide +kernel
theorem d_Law_next_15 : decode b_Law_next 15 = .ok (.astore_n 3, 1) := by decide +kernel
theorem d_Law_next_16 : decode b_Law_next 16 = .ok (.iconst 2, 1) := by decide +kernel
theorem d_Law_next_17 : decode b_Law_next 17 = .ok (.ireturn, 1) := by decide +kernel
theorem d_Law_next_18 : decode b_Law_next 18 = .ok (.astore_n 3, 1) := by decide +kernel
theorem d_Law_next_19 : decode b_Law_next 19 = .ok (.iconst 3, 1) := by decide +kernel
theorem d_Law_next_20 : decode b_Law_next 20 = .ok (.ireturn, 1) := by decide +kernel
theorem d_Law_next_21 : decode b_Law_next 21 = .ok (.iconst 0, 1) := by decide +kernel
theorem d_Law_next_22 : decode b_Law_next 22 = .ok (.ireturn, 1) := by decide +kernel
theorem d_Law_drop_0 : decode b_Law_drop 0 = .ok (.aload_n 2, 1) := by decide +kernel
theorem d_Law_drop_1 : decode b_Law_drop 1 = .ok (.iconst 0, 1) := by decide +kernel
theorem d_Law_drop_2 : decode b_Law_drop 2 = .ok (.aload_n 0, 1) := by decide +kernel
theorem d_Law_drop_3 : decode b_Law_drop 3 = .ok (.iload_n 1, 1) := by decide +kernel
theorem d_Law_drop_4 : decode b_Law_drop 4 = .ok (.invokevirtual 44, 3) := by decide +kernel
theorem d_Law_drop_7 : decode b_Law_drop 7 = .ok (.i2l, 1) := by decide +kernel
theorem d_Law_drop_8 : decode b_Law_drop 8 = .ok (.lastore, 1) := by decide +kernel
theorem d_Law_drop_9 : decode b_Law_drop 9 = .ok (.goto 9, 3) := by decide +kernel
theorem d_Law_drop_12 : decode b_Law_drop 12 = .ok (.astore_n 3, 1) := by decide +kernel
theorem d_Law_drop_13 : decode b_Law_drop 13 = .ok (.iconst 1, 1) := by decide +kernel
theorem d_Law_drop_14 : decode b_Law_drop 14 = .ok (.ireturn, 1) := by decide +kernel
theorem d_Law_drop_15 : decode b_Law_drop 15 = .ok (.astore_n 3, 1) := by decide +kernel
theorem d_Law_drop_16 : decode b_Law_drop 16 = .ok (.iconst 2, 1) := by decide +kernel
theorem d_Law_drop_17 : decode b_Law_drop 17 = .ok (.ireturn, 1) := by decide +kernel
theorem d_Law_drop_18 : decode b_Law_drop 18 = .ok (.iconst 0, 1) := by decide +kernel
theorem d_Law_drop_19 : decode b_Law_drop 19 = .ok (.ireturn, 1) := by decide +kernel
theorem d_Law_match_0 : decode b_Law_match 0 = .ok (.aload_n 3, 1) := by decide +kernel
theorem d_Law_match_1 : decode b_Law_match 1 = .ok (.iconst 0, 1) := by decide +kernel
theorem d_Law_match_2 : decode b_Law_match 2 = .ok (.aload_n 0, 1) := by decide +kernel
theorem d_Law_match_3 : decode b_Law_match 3 = .ok (.iload_n 1, 1) := by decide +kernel
theorem d_Law_match_4 : decode b_Law_match 4 = .ok (.iload_n 2, 1) := by decide +kernel
theorem d_Law_match_5 : decode b_Law_match 5 = .ok (.invokevirtual 47, 3) := by decide +kernel
theorem d_Law_match_8 : decode b_Law_match 8 = .ok (.i2l, 1) := by decide +kernel
theorem d_Law_match_9 : decode b_Law_match 9 = .ok (.lastore, 1) := by decide +kernel
theorem d_Law_match_10 : decode b_Law_match 10 = .ok (.goto 11, 3) := by decide +kernel
theorem d_Law_match_13 : decode b_Law_match 13 = .ok (.astore 4, 2) := by decide +kernel
theorem d_Law_match_15 : decode b_Law_match 15 = .ok (.iconst 1, 1) := by decide +kernel
theorem d_Law_match_16 : decode b_Law_match 16 = .ok (.ireturn, 1) := by decide +kernel
theorem d_Law_match_17 : decode b_Law_match 17 = .ok (.astore 4, 2) := by decide +kernel
theorem d_Law_match_19 : decode b_Law_match 19 = .ok (.iconst 2, 1) := by decide +kernel
theorem d_Law_match_20 : decode b_Law_match 20 = .ok (.ireturn, 1) := by decide +kernel
theorem d_Law_match_21 : decode b_Law_match 21 = .ok (.iconst 0, 1) := by decide +kernel
theorem d_Law_match_22 : decode b_Law_match 22 = .ok (.ireturn, 1) := by decide +kernel
theorem d_Law_edges_0 : decode b_Law_edges 0 = .ok (.aload_n 2, 1) := by decide +kernel
theorem d_Law_edges_1 : decode b_Law_edges 1 = .ok (.iconst 0, 1) := by decide +kernel
theorem d_Law_edges_2 : decode b_Law_edges 2 = .ok (.aload_n 0, 1) := by decide +kernel
theorem d_Law_edges_3 : decode b_Law_edges 3 = .ok (.iload_n 1, 1) := by decide +kernel
theorem d_Law_edges_4 : decode b_Law_edges 4 = .ok (.invokevirtual 50, 3) := by decide +kernel
theorem d_Law_edges_7 : decode b_Law_edges 7 = .ok (.i2l, 1) := by decide +kernel
theorem d_Law_edges_8 : decode b_Law_edges 8 = .ok (.lastore, 1) := by decide +kernel
theorem d_Law_edges_9 : decode b_Law_edges 9 = .ok (.goto 6, 3) := by decide +kernel
theorem d_Law_edges_12 : decode b_Law_edges 12 = .ok (.astore_n 3, 1) := by decide +kernel
theorem d_Law_edges_13 : decode b_Law_edges 13 = .ok (.iconst 1, 1) := by decide +kernel
theorem d_Law_edges_14 : decode b_Law_edges 14 = .ok (.ireturn, 1) := by decide +kernel
theorem d_Law_edges_15 : decode b_Law_edges 15 = .ok (.iconst 0, 1) := by decide +kernel
theorem d_Law_edges_16 : decode b_Law_edges 16 = .ok (.ireturn, 1) := by decide +kernel
theorem d_Law_freeze_0 : decode b_Law_freeze 0 = .ok (.aload_n 2, 1) := by decide +kernel
theorem d_Law_freeze_1 : decode b_Law_freeze 1 = .ok (.iconst 0, 1) := by decide +kernel
theorem d_Law_freeze_2 : decode b_Law_freeze 2 = .ok (.aload_n 0, 1) := by decide +kernel
theorem d_Law_freeze_3 : decode b_Law_freeze 3 = .ok (.iload_n 1, 1) := by decide +kernel
theorem d_Law_freeze_4 : decode b_Law_freeze 4 = .ok (.invokevirtual 53, 3) := by decide +kernel
theorem d_Law_freeze_7 : decode b_Law_freeze 7 = .ok (.i2l, 1) := by decide +kernel
theorem d_Law_freeze_8 : decode b_Law_freeze 8 = .ok (.lastore, 1) := by decide +kernel
theorem d_Law_freeze_9 : decode b_Law_freeze 9 = .ok (.goto 6, 3) := by decide +kernel
theorem d_Law_freeze_12 : decode b_Law_freeze 12 = .ok (.astore_n 3, 1) := by decide +kernel
theorem d_Law_freeze_13 : decode b_Law_freeze 13 = .ok (.iconst 1, 1) := by decide +kernel
theorem d_Law_freeze_14 : decode b_Law_freeze 14 = .ok (.ireturn, 1) := by decide +kernel
theorem d_Law_freeze_15 : decode b_Law_freeze 15 = .ok (.iconst 0, 1) := by decide +kernel
theorem d_Law_freeze_16 : decode b_Law_freeze 16 = .ok (.ireturn, 1) := by decide +kernel
theorem d_Law_insert_0 : decode b_Law_insert 0 = .ok (.aload_n 2, 1) := by decide +kernel
theorem d_Law_insert_1 : decode b_Law_insert 1 = .ok (.iconst 0, 1) := by decide +kernel
theorem d_Law_insert_2 : decode b_Law_insert 2 = .ok (.aload_n 0, 1) := by decide +kernel
theorem d_Law_insert_3 : decode b_Law_insert 3 = .ok (.iload_n 1, 1) := by decide +kernel
theorem d_Law_insert_4 : decode b_Law_insert 4 = .ok (.invokevirtual 56, 3) := by decide +kernel
theorem d_Law_insert_7 : decode b_Law_insert 7 = .ok (.i2l, 1) := by decide +kernel
theorem d_Law_insert_8 : decode b_Law_insert 8 = .ok (.lastore, 1) := by decide +kernel
theorem d_Law_insert_9 : decode b_Law_insert 9 = .ok (.goto 9, 3) := by decide +kernel
theorem d_Law_insert_12 : decode b_Law_insert 12 = .ok (.astore_n 3, 1) := by decide +kernel
theorem d_Law_insert_13 : decode b_Law_insert 13 = .ok (.iconst 1, 1) := by decide +kernel
theorem d_Law_insert_14 : decode b_Law_insert 14 = .ok (.ireturn, 1) := by decide +kernel
theorem d_Law_insert_15 : decode b_Law_insert 15 = .ok (.astore_n 3, 1) := by decide +kernel
theorem d_Law_insert_16 : decode b_Law_insert 16 = .ok (.iconst 2, 1) := by decide +kernel
theorem d_Law_insert_17 : decode b_Law_insert 17 = .ok (.ireturn, 1) := by decide +kernel
theorem d_Law_insert_18 : decode b_Law_insert 18 = .ok (.iconst 0, 1) := by decide +kernel
theorem d_Law_insert_19 : decode b_Law_insert 19 = .ok (.ireturn, 1) := by decide +kernel
theorem d_Law_delete_0 : decode b_Law_delete 0 = .ok (.aload_n 3, 1) := by decide +kernel
theorem d_Law_delete_1 : decode b_Law_delete 1 = .ok (.iconst 0, 1) := by decide +kernel
theorem d_Law_delete_2 : decode b_Law_delete 2 = .ok (.aload_n 0, 1) := by decide +kernel
theorem d_Law_delete_3 : decode b_Law_delete 3 = .ok (.iload_n 1, 1) := by decide +kernel
theorem d_Law_delete_4 : decode b_Law_delete 4 = .ok (.iload_n 2, 1) := by decide +kernel
theorem d_Law_delete_5 : decode b_Law_delete 5 = .ok (.invokevirtual 59, 3) := by decide +kernel
theorem d_Law_delete_8 : decode b_Law_delete 8 = .ok (.i2l, 1) := by decide +kernel
theorem d_Law_delete_9 : decode b_Law_delete 9 = .ok (.lastore, 1) := by decide +kernel
theorem d_Law_delete_10 : decode b_Law_delete 10 = .ok (.goto 7, 3) := by decide +kernel
theorem d_Law_delete_13 : decode b_Law_delete 13 = .ok (.astore 4, 2) := by decide +kernel
theorem d_Law_delete_15 : decode b_Law_delete 15 = .ok (.iconst 1, 1) := by decide +kernel
theorem d_Law_delete_16 : decode b_Law_delete 16 = .ok (.ireturn, 1) := by decide +kernel
theorem d_Law_delete_17 : decode b_Law_delete 17 = .ok (.iconst 0, 1) := by decide +kernel
theorem d_Law_delete_18 : decode b_Law_delete 18 = .ok (.ireturn, 1) := by decide +kernel
theorem d_Law_law_0 : decode code 0 = .ok (.new 8, 3) := by decide +kernel
theorem d_Law_law_3 : decode code 3 = .ok (.dup, 1) := by decide +kernel
theorem d_Law_law_4 : decode code 4 = .ok (.invokespecial 62, 3) := by decide +kernel
theorem d_Law_law_7 : decode code 7 = .ok (.astore_n 1, 1) := by decide +kernel
theorem d_Law_law_8 : decode code 8 = .ok (.new 63, 3) := by decide +kernel
theorem d_Law_law_11 : decode code 11 = .ok (.dup, 1) := by decide +kernel
theorem d_Law_law_12 : decode code 12 = .ok (.invokespecial 65, 3) := by decide +kernel
theorem d_Law_law_15 : decode code 15 = .ok (.astore_n 2, 1) := by decide +kernel
theorem d_Law_law_16 : decode code 16 = .ok (.iconst 1, 1) := by decide +kernel
theorem d_Law_law_17 : decode code 17 = .ok (.newarray .long, 2) := by decide +kernel
theorem d_Law_law_19 : decode code 19 = .ok (.astore_n 3, 1) := by decide +kernel
theorem d_Law_law_20 : decode code 20 = .ok (.iconst 0, 1) := by decide +kernel
theorem d_Law_law_21 : decode code 21 = .ok (.istore 4, 2) := by decide +kernel
theorem d_Law_law_23 : decode code 23 = .ok (.iload 4, 2) := by decide +kernel
theorem d_Law_law_25 : decode code 25 = .ok (.aload_n 0, 1) := by decide +kernel
theorem d_Law_law_26 : decode code 26 = .ok (.arraylength, 1) := by decide +kernel
theorem d_Law_law_27 : decode code 27 = .ok (.iconst 4, 1) := by decide +kernel
theorem d_Law_law_28 : decode code 28 = .ok (.isub, 1) := by decide +kernel
theorem d_Law_law_29 : decode code 29 = .ok (.if_icmp .gt 1274, 3) := by decide +kernel
theorem d_Law_law_32 : decode code 32 = .ok (.aload_n 0, 1) := by decide +kernel
theorem d_Law_law_33 : decode code 33 = .ok (.iload 4, 2) := by decide +kernel
theorem d_Law_law_35 : decode code 35 = .ok (.iaload, 1) := by decide +kernel
theorem d_Law_law_36 : decode code 36 = .ok (.bipush 31, 2) := by decide +kernel
theorem d_Law_law_38 : decode code 38 = .ok (.iand, 1) := by decide +kernel
theorem d_Law_law_39 : decode code 39 = .ok (.tableswitch 1258 0 22 #[105, 174, 242, 310, 366, 422, 447, 515, 583, 667, 692, 717, 773, 829, 897, 953, 1009, 1034, 1090, 1158, 1171, 1196, 1233], 105) := by decide +kernel
theorem d_Law_law_144 : decode code 144 = .ok (.aload_n 1, 1) := by decide +kernel
theorem d_Law_law_145 : decode code 145 = .ok (.aload_n 0, 1) := by decide +kernel
theorem d_Law_law_146 : decode code 146 = .ok (.iload 4, 2) := by decide +kernel
theorem d_Law_law_148 : decode code 148 = .ok (.iconst 1, 1) := by decide +kernel
theorem d_Law_law_149 : decode code 149 = .ok (.iadd, 1) := by decide +kernel
theorem d_Law_law_150 : decode code 150 = .ok (.iaload, 1) := by decide +kernel
theorem d_Law_law_151 : decode code 151 = .ok (.i2l, 1) := by decide +kernel
theorem d_Law_law_152 : decode code 152 = .ok (.bipush 32, 2) := by decide +kernel
theorem d_Law_law_154 : decode code 154 = .ok (.lshl, 1) := by decide +kernel
theorem d_Law_law_155 : decode code 155 = .ok (.aload_n 0, 1) := by decide +kernel
theorem d_Law_law_156 : decode code 156 = .ok (.iload 4, 2) := by decide +kernel
theorem d_Law_law_158 : decode code 158 = .ok (.iconst 2, 1) := by decide +kernel
theorem d_Law_law_159 : decode code 159 = .ok (.iadd, 1) := by decide +kernel
theorem d_Law_law_160 : decode code 160 = .ok (.iaload, 1) := by decide +kernel
theorem d_Law_law_161 : decode code 161 = .ok (.i2l, 1) := by decide +kernel
theorem d_Law_law_162 : decode code 162 = .ok (.ldc2_w 66, 3) := by decide +kernel
theorem d_Law_law_165 : decode code 165 = .ok (.land, 1) := by decide +kernel
theorem d_Law_law_166 : decode code 166 = .ok (.lor, 1) := by decide +kernel
theorem d_Law_law_167 : decode code 167 = .ok (.aload_n 0, 1) := by decide +kernel
theorem d_Law_law_168 : decode code 168 = .ok (.iload 4, 2) := by decide +kernel
theorem d_Law_law_170 : decode code 170 = .ok (.iconst 3, 1) := by decide +kernel
theorem d_Law_law_171 : decode code 171 = .ok (.iadd, 1) := by decide +kernel
theorem d_Law_law_172 : decode code 172 = .ok (.iaload, 1) := by decide +kernel
theorem d_Law_law_173 : decode code 173 = .ok (.invokevirtual 68, 3) := by decide +kernel
theorem d_Law_law_176 : decode code 176 = .ok (.aload_n 2, 1) := by decide +kernel
theorem d_Law_law_177 : decode code 177 = .ok (.aload_n 0, 1) := by decide +kernel
theorem d_Law_law_178 : decode code 178 = .ok (.iload 4, 2) := by decide +kernel
theorem d_Law_law_180 : decode code 180 = .ok (.iconst 1, 1) := by decide +kernel
theorem d_Law_law_181 : decode code 181 = .ok (.iadd, 1) := by decide +kernel
theorem d_Law_law_182 : decode code 182 = .ok (.iaload, 1) := by decide +kernel
theorem d_Law_law_183 : decode code 183 = .ok (.i2l, 1) := by decide +kernel
theorem d_Law_law_184 : decode code 184 = .ok (.bipush 32, 2) := by decide +kernel
theorem d_Law_law_186 : decode code 186 = .ok (.lshl, 1) := by decide +kernel
theorem d_Law_law_187 : decode code 187 = .ok (.aload_n 0, 1) := by decide +kernel
theorem d_Law_law_188 : decode code 188 = .ok (.iload 4, 2) := by decide +kernel
theorem d_Law_law_190 : decode code 190 = .ok (.iconst 2, 1) := by decide +kernel
theorem d_Law_law_191 : decode code 191 = .ok (.iadd, 1) := by decide +kernel
theorem d_Law_law_192 : decode code 192 = .ok (.iaload, 1) := by decide +kernel
theorem d_Law_law_193 : decode code 193 = .ok (.i2l, 1) := by decide +kernel
theorem d_Law_law_194 : decode code 194 = .ok (.ldc2_w 66, 3) := by decide +kernel
theorem d_Law_law_197 : decode code 197 = .ok (.land, 1) := by decide +kernel
theorem d_Law_law_198 : decode code 198 = .ok (.lor, 1) := by decide +kernel
theorem d_Law_law_199 : decode code 199 = .ok (.aload_n 0, 1) := by decide +kernel
theorem d_Law_law_200 : decode code 200 = .ok (.iload 4, 2) := by decide +kernel
theorem d_Law_law_202 : decode code 202 = .ok (.iconst 3, 1) := by decide +kernel
theorem d_Law_law_203 : decode code 203 = .ok (.iadd, 1) := by decide +kernel
theorem d_Law_law_204 : decode code 204 = .ok (.iaload, 1) := by decide +kernel
theorem d_Law_law_205 : decode code 205 = .ok (.invokevirtual 72, 3) := by decide +kernel
theorem d_Law_law_208 : decode code 208 = .ok (.if_icmp .eq 1089, 3) := by decide +kernel
theorem d_Law_law_211 : decode code 211 = .ok (.iconst 0, 1) := by decide +kernel
theorem d_Law_law_212 : decode code 212 = .ok (.ireturn, 1) := by decide +kernel
theorem d_Law_law_213 : decode code 213 = .ok (.aload_n 1, 1) := by decide +kernel
theorem d_Law_law_214 : decode code 214 = .ok (.aload_n 0, 1) := by decide +kernel
theorem d_Law_law_215 : decode code 215 = .ok (.iload 4, 2) := by decide +kernel
theorem d_Law_law_217 : decode code 217 = .ok (.iconst 1, 1) := by decide +kernel
theorem d_Law_law_218 : decode code 218 = .ok (.iadd, 1) := by decide +kernel
theorem d_Law_law_219 : decode code 219 = .ok (.iaload, 1) := by decide +kernel
theorem d_Law_law_220 : decode code 220 = .ok (.aload_n 0, 1) := by decide +kernel
theorem d_Law_law_221 : decode code 221 = .ok (.iload 4, 2) := by decide +kernel
theorem d_Law_law_223 : decode code 223 = .ok (.iconst 2, 1) := by decide +kernel
theorem d_Law_law_224 : decode code 224 = .ok (.iadd, 1) := by decide +kernel
theorem d_Law_law_225 : decode code 225 = .ok (.iaload, 1) := by decide +kernel
theorem d_Law_law_226 : decode code 226 = .ok (.aload_n 3, 1) := by decide +kernel
theorem d_Law_law_227 : decode code 227 = .ok (.invokestatic 73, 3) := by decide +kernel
theorem d_Law_law_230 : decode code 230 = .ok (.istore 5, 2) := by decide +kernel
theorem d_Law_law_232 : decode code 232 = .ok (.aload_n 2, 1) := by decide +kernel
theorem d_Law_law_233 : decode code 233 = .ok (.aload_n 0, 1) := by decide +kernel
theorem d_Law_law_234 : decode code 234 = .ok (.iload 4, 2) := by decide +kernel
theorem d_Law_law_236 : decode code 236 = .ok (.iconst 1, 1) := by decide +kernel
theorem d_Law_law_237 : decode code 237 = .ok (.iadd, 1) := by decide +kernel
theorem d_Law_law_238 : decode code 238 = .ok (.iaload, 1) := by decide +kernel
theorem d_Law_law_239 : decode code 239 = .ok (.aload_n 0, 1) := by decide +kernel
theorem d_Law_law_240 : decode code 240 = .ok (.iload 4, 2) := by decide +kernel
theorem d_Law_law_242 : decode code 242 = .ok (.iconst 2, 1) := by decide +kernel
theorem d_Law_law_243 : decode code 243 = .ok (.iadd, 1) := by decide +kernel
theorem d_Law_law_244 : decode code 244 = .ok (.iaload, 1) := by decide +kernel
theorem d_Law_law_245 : decode code 245 = .ok (.invokevirtual 78, 3) := by decide +kernel
theorem d_Law_law_248 : decode code 248 = .ok (.istore 6, 2) := by decide +kernel
theorem d_Law_law_250 : decode code 250 = .ok (.aload_n 2, 1) := by decide +kernel
theorem d_Law_law_251 : decode code 251 = .ok (.invokevirtual 79, 3) := by decide +kernel
theorem d_Law_law_254 : decode code 254 = .ok (.iload 5, 2) := by decide +kernel
theorem d_Law_law_256 : decode code 256 = .ok (.if_icmp .eq 5, 3) := by decide +kernel
theorem d_Law_law_259 : decode code 259 = .ok (.iconst 0, 1) := by decide +kernel
theorem d_Law_law_260 : decode code 260 = .ok (.ireturn, 1) := by decide +kernel
theorem d_Law_law_261 : decode code 261 = .ok (.iload 5, 2) := by decide +kernel
theorem d_Law_law_263 : decode code 263 = .ok (.ifCond .ne 15, 3) := by decide +kernel
theorem d_Law_law_266 : decode code 266 = .ok (.aload_n 3, 1) := by decide +kernel
theorem d_Law_law_267 : decode code 267 = .ok (.iconst 0, 1) := by decide +kernel
theorem d_Law_law_268 : decode code 268 = .ok (.laload, 1) := by decide +kernel
theorem d_Law_law_269 : decode code 269 = .ok (.iload 6, 2) := by decide +kernel
theorem d_Law_law_271 : decode code 271 = .ok (.i2l, 1) := by decide +kernel
theorem d_Law_law_272 : decode code 272 = .ok (.lcmp, 1) := by decide +kernel
theorem d_Law_law_273 : decode code 273 = .ok (.ifCond .eq 5, 3) := by decide +kernel
theorem d_Law_law_276 : decode code 276 = .ok (.iconst 0, 1) := by decide +kernel
theorem d_Law_law_277 : decode code 277 = .ok (.ireturn, 1) := by decide +kernel
theorem d_Law_law_278 : decode code 278 = .ok (.goto 1019, 3) := by decide +kernel
theorem d_Law_law_281 : decode code 281 = .ok (.aload_n 1, 1) := by decide +kernel
theorem d_Law_law_282 : decode code 282 = .ok (.aload_n 0, 1) := by decide +kernel
theorem d_Law_law_283 : decode code 283 = .ok (.iload 4, 2) := by decide +kernel
theorem d_Law_law_285 : decode code 285 = .ok (.iconst 1, 1) := by decide +kernel
theorem d_Law_law_286 : decode code 286 = .ok (.iadd, 1) := by decide +kernel
theorem d_Law_law_287 : decode code 287 = .ok (.iaload, 1) := by decide +kernel
theorem d_Law_law_288 : decode code 288 = .ok (.aload_n 0, 1) := by decide +kernel
theorem d_Law_law_289 : decode code 289 = .ok (.iload 4, 2) := by decide +kernel
theorem d_Law_law_291 : decode code 291 = .ok (.iconst 2, 1) := by decide +kernel
theorem d_Law_law_292 : decode code 292 = .ok (.iadd, 1) := by decide +kernel
theorem d_Law_law_293 : decode code 293 = .ok (.iaload, 1) := by decide +kernel
theorem d_Law_law_294 : decode code 294 = .ok (.aload_n 3, 1) := by decide +kernel
theorem d_Law_law_295 : decode code 295 = .ok (.invokestatic 83, 3) := by decide +kernel
theorem d_Law_law_298 : decode code 298 = .ok (.istore 5, 2) := by decide +kernel
theorem d_Law_law_300 : decode code 300 = .ok (.aload_n 2, 1) := by decide +kernel
theorem d_Law_law_301 : decode code 301 = .ok (.aload_n 0, 1) := by decide +kernel
theorem d_Law_law_302 : decode code 302 = .ok (.iload 4, 2) := by decide +kernel
theorem d_Law_law_304 : decode code 304 = .ok (.iconst 1, 1) := by decide +kernel
theorem d_Law_law_305 : decode code 305 = .ok (.iadd, 1) := by decide +kernel
theorem d_Law_law_306 : decode code 306 = .ok (.iaload, 1) := by decide +kernel
theorem d_Law_law_307 : decode code 307 = .ok (.aload_n 0, 1) := by decide +kernel
theorem d_Law_law_308 : decode code 308 = .ok (.iload 4, 2) := by decide +kernel
theorem d_Law_law_310 : decode code 310 = .ok (.iconst 2, 1) := by decide +kernel
theorem d_Law_law_311 : decode code 311 = .ok (.iadd, 1) := by decide +kernel
theorem d_Law_law_312 : decode code 312 = .ok (.iaload, 1) := by decide +kernel
theorem d_Law_law_313 : decode code 313 = .ok (.invokevirtual 85, 3) := by decide +kernel
theorem d_Law_law_316 : decode code 316 = .ok (.istore 6, 2) := by decide +kernel
theorem d_Law_law_318 : decode code 318 = .ok (.aload_n 2, 1) := by decide +kernel
theorem d_Law_law_319 : decode code 319 = .ok (.invokevirtual 79, 3) := by decide +kernel
theorem d_Law_law_322 : decode code 322 = .ok (.iload 5, 2) := by decide +kernel
theorem d_Law_law_324 : decode code 324 = .ok (.if_icmp .eq 5, 3) := by decide +kernel
theorem d_Law_law_327 : decode code 327 = .ok (.iconst 0, 1) := by decide +kernel
theorem d_Law_law_328 : decode code 328 = .ok (.ireturn, 1) := by decide +kernel
theorem d_Law_law_329 : decode code 329 = .ok (.iload 5, 2) := by decide +kernel
theorem d_Law_law_331 : decode code 331 = .ok (.ifCond .ne 15, 3) := by decide +kernel
theorem d_Law_law_334 : decode code 334 = .ok (.aload_n 3, 1) := by decide +kernel
theorem d_Law_law_335 : decode code 335 = .ok (.iconst 0, 1) := by decide +kernel
theorem d_Law_law_336 : decode code 336 = .ok (.laload, 1) := by decide +kernel
theorem d_Law_law_337 : decode code 337 = .ok (.iload 6, 2) := by decide +kernel
theorem d_Law_law_339 : decode code 339 = .ok (.i2l, 1) := by decide +kernel
theorem d_Law_law_340 : decode code 340 = .ok (.lcmp, 1) := by decide +kernel
theorem d_Law_law_341 : decode code 341 = .ok (.ifCond .eq 5, 3) := by decide +kernel
theorem d_Law_law_344 : decode code 344 = .ok (.iconst 0, 1) := by decide +kernel
theorem d_Law_law_345 : decode code 345 = .ok (.ireturn, 1) := by decide +kernel
theorem d_Law_law_346 : decode code 346 = .ok (.goto 951, 3) := by decide +kernel
theorem d_Law_law_349 : decode code 349 = .ok (.aload_n 1, 1) := by decide +kernel
theorem d_Law_law_350 : decode code 350 = .ok (.aload_n 0, 1) := by decide +kernel
theorem d_Law_law_351 : decode code 351 = .ok (.iload 4, 2) := by decide +kernel
theorem d_Law_law_353 : decode code 353 = .ok (.iconst 1, 1) := by decide +kernel
theorem d_Law_law_354 : decode code 354 = .ok (.iadd, 1) := by decide +kernel
theorem d_Law_law_355 : decode code 355 = .ok (.iaload, 1) := by decide +kernel
theorem d_Law_law_356 : decode code 356 = .ok (.aload_n 3, 1) := by decide +kernel
theorem d_Law_law_357 : decode code 357 = .ok (.invokestatic 86, 3) := by decide +kernel
theorem d_Law_law_360 : decode code 360 = .ok (.istore 5, 2) := by decide +kernel
theorem d_Law_law_362 : decode code 362 = .ok (.aload_n 2, 1) := by decide +kernel
theorem d_Law_law_363 : decode code 363 = .ok (.aload_n 0, 1) := by decide +kernel
theorem d_Law_law_364 : decode code 364 = .ok (.iload 4, 2) := by decide +kernel
theorem d_Law_law_366 : decode code 366 = .ok (.iconst 1, 1) := by decide +kernel
theorem d_Law_law_367 : decode code 367 = .ok (.iadd, 1) := by decide +kernel
theorem d_Law_law_368 : decode code 368 = .ok (.iaload, 1) := by decide +kernel
theorem d_Law_law_369 : decode code 369 = .ok (.invokevirtual 89, 3) := by decide +kernel
theorem d_Law_law_372 : decode code 372 = .ok (.istore 6, 2) := by decide +kernel
theorem d_Law_law_374 : decode code 374 = .ok (.aload_n 2, 1) := by decide +kernel
theorem d_Law_law_375 : decode code 375 = .ok (.invokevirtual 79, 3) := by decide +kernel
theorem d_Law_law_378 : decode code 378 = .ok (.iload 5, 2) := by decide +kernel
theorem d_Law_law_380 : decode code 380 = .ok (.if_icmp .eq 5, 3) := by decide +kernel
theorem d_Law_law_383 : decode code 383 = .ok (.iconst 0, 1) := by decide +kernel
theorem d_Law_law_384 : decode code 384 = .ok (.ireturn, 1) := by decide +kernel
theorem d_Law_law_385 : decode code 385 = .ok (.iload 5, 2) := by decide +kernel
theorem d_Law_law_387 : decode code 387 = .ok (.ifCond .ne 15, 3) := by decide +kernel
theorem d_Law_law_390 : decode code 390 = .ok (.aload_n 3, 1) := by decide +kernel
theorem d_Law_law_391 : decode code 391 = .ok (.iconst 0, 1) := by decide +kernel
theorem d_Law_law_392 : decode code 392 = .ok (.laload, 1) := by decide +kernel
theorem d_Law_law_393 : decode code 393 = .ok (.iload 6, 2) := by decide +kernel
theorem d_Law_law_395 : decode code 395 = .ok (.i2l, 1) := by decide +kernel
theorem d_Law_law_396 : decode code 396 = .ok (.lcmp, 1) := by decide +kernel
theorem d_Law_law_397 : decode code 397 = .ok (.ifCond .eq 5, 3) := by decide +kernel
theorem d_Law_law_400 : decode code 400 = .ok (.iconst 0, 1) := by decide +kernel
theorem d_Law_law_401 : decode code 401 = .ok (.ireturn, 1) := by decide +kernel
theorem d_Law_law_402 : decode code 402 = .ok (.goto 895, 3) := by decide +kernel
theorem d_Law_law_405 : decode code 405 = .ok (.aload_n 1, 1) := by decide +kernel
theorem d_Law_law_406 : decode code 406 = .ok (.aload_n 0, 1) := by decide +kernel
theorem d_Law_law_407 : decode code 407 = .ok (.iload 4, 2) := by decide +kernel
theorem d_Law_law_409 : decode code 409 = .ok (.iconst 1, 1) := by decide +kernel
theorem d_Law_law_410 : decode code 410 = .ok (.iadd, 1) := by decide +kernel
theorem d_Law_law_411 : decode code 411 = .ok (.iaload, 1) := by decide +kernel
theorem d_Law_law_412 : decode code 412 = .ok (.aload_n 3, 1) := by decide +kernel
theorem d_Law_law_413 : decode code 413 = .ok (.invokestatic 90, 3) := by decide +kernel
theorem d_Law_law_416 : decode code 416 = .ok (.istore 5, 2) := by decide +kernel
theorem d_Law_law_418 : decode code 418 = .ok (.aload_n 2, 1) := by decide +kernel
theorem d_Law_law_419 : decode code 419 = .ok (.aload_n 0, 1) := by decide +kernel
theorem d_Law_law_420 : decode code 420 = .ok (.iload 4, 2) := by decide +kernel
theorem d_Law_law_422 : decode code 422 = .ok (.iconst 1, 1) := by decide +kernel
theorem d_Law_law_423 : decode code 423 = .ok (.iadd, 1) := by decide +kernel
theorem d_Law_law_424 : decode code 424 = .ok (.iaload, 1) := by decide +kernel
theorem d_Law_law_425 : decode code 425 = .ok (.invokevirtual 92, 3) := by decide +kernel
theorem d_Law_law_428 : decode code 428 = .ok (.istore 6, 2) := by decide +kernel
theorem d_Law_law_430 : decode code 430 = .ok (.aload_n 2, 1) := by decide +kernel
theorem d_Law_law_431 : decode code 431 = .ok (.invokevirtual 79, 3) := by decide +kernel
theorem d_Law_law_434 : decode code 434 = .ok (.iload 5, 2) := by decide +kernel
theorem d_Law_law_436 : decode code 436 = .ok (.if_icmp .eq 5, 3) := by decide +kernel
theorem d_Law_law_439 : decode code 439 = .ok (.iconst 0, 1) := by decide +kernel
theorem d_Law_law_440 : decode code 440 = .ok (.ireturn, 1) := by decide +kernel
theorem d_Law_law_441 : decode code 441 = .ok (.iload 5, 2) := by decide +kernel
theorem d_Law_law_443 : decode code 443 = .ok (.ifCond .ne 15, 3) := by decide +kernel
theorem d_Law_law_446 : decode code 446 = .ok (.aload_n 3, 1) := by decide +kernel
theorem d_Law_law_447 : decode code 447 = .ok (.iconst 0, 1) := by decide +kernel
theorem d_Law_law_448 : decode code 448 = .ok (.laload, 1) := by decide +kernel
theorem d_Law_law_449 : decode code 449 = .ok (.iload 6, 2) := by decide +kernel
theorem d_Law_law_451 : decode code 451 = .ok (.i2l, 1) := by decide +kernel
theorem d_Law_law_452 : decode code 452 = .ok (.lcmp, 1) := by decide +kernel
theorem d_Law_law_453 : decode code 453 = .ok (.ifCond .eq 5, 3) := by decide +kernel
theorem d_Law_law_456 : decode code 456 = .ok (.iconst 0, 1) := by decide +kernel
theorem d_Law_law_457 : decode code 457 = .ok (.ireturn, 1) := by decide +kernel
theorem d_Law_law_458 : decode code 458 = .ok (.goto 839, 3) := by decide +kernel
theorem d_Law_law_461 : decode code 461 = .ok (.aload_n 1, 1) := by decide +kernel
theorem d_Law_law_462 : decode code 462 = .ok (.aload_n 0, 1) := by decide +kernel
theorem d_Law_law_463 : decode code 463 = .ok (.iload 4, 2) := by decide +kernel
theorem d_Law_law_465 : decode code 465 = .ok (.iconst 1, 1) := by decide +kernel
theorem d_Law_law_466 : decode code 466 = .ok (.iadd, 1) := by decide +kernel
theorem d_Law_law_467 : decode code 467 = .ok (.iaload, 1) := by decide +kernel
theorem d_Law_law_468 : decode code 468 = .ok (.invokevirtual 93, 3) := by decide +kernel
theorem d_Law_law_471 : decode code 471 = .ok (.aload_n 2, 1) := by decide +kernel
theorem d_Law_law_472 : decode code 472 = .ok (.aload_n 0, 1) := by decide +kernel
theorem d_Law_law_473 : decode code 473 = .ok (.iload 4, 2) := by decide +kernel
theorem d_Law_law_475 : decode code 475 = .ok (.iconst 1, 1) := by decide +kernel
theorem d_Law_law_476 : decode code 476 = .ok (.iadd, 1) := by decide +kernel
theorem d_Law_law_477 : decode code 477 = .ok (.iaload, 1) := by decide +kernel
theorem d_Law_law_478 : decode code 478 = .ok (.invokevirtual 96, 3) := by decide +kernel
theorem d_Law_law_481 : decode code 481 = .ok (.if_icmp .eq 816, 3) := by decide +kernel
theorem d_Law_law_484 : decode code 484 = .ok (.iconst 0, 1) := by decide +kernel
theorem d_Law_law_485 : decode code 485 = .ok (.ireturn, 1) := by decide +kernel
theorem d_Law_law_486 : decode code 486 = .ok (.aload_n 1, 1) := by decide +kernel
theorem d_Law_law_487 : decode code 487 = .ok (.aload_n 0, 1) := by decide +kernel
theorem d_Law_law_488 : decode code 488 = .ok (.iload 4, 2) := by decide +kernel
theorem d_Law_law_490 : decode code 490 = .ok (.iconst 1, 1) := by decide +kernel
theorem d_Law_law_491 : decode code 491 = .ok (.iadd, 1) := by decide +kernel
theorem d_Law_law_492 : decode code 492 = .ok (.iaload, 1) := by decide +kernel
theorem d_Law_law_493 : decode code 493 = .ok (.aload_n 0, 1) := by decide +kernel
theorem d_Law_law_494 : decode code 494 = .ok (.iload 4, 2) := by decide +kernel
theorem d_Law_law_496 : decode code 496 = .ok (.iconst 2, 1) := by decide +kernel
theorem d_Law_law_497 : decode code 497 = .ok (.iadd, 1) := by decide +kernel
theorem d_Law_law_498 : decode code 498 = .ok (.iaload, 1) := by decide +kernel
theorem d_Law_law_499 : decode code 499 = .ok (.aload_n 3, 1) := by decide +kernel
theorem d_Law_law_500 : decode code 500 = .ok (.invokestatic 97, 3) := by decide +kernel
theorem d_Law_law_503 : decode code 503 = .ok (.istore 5, 2) := by decide +kernel
theorem d_Law_law_505 : decode code 505 = .ok (.aload_n 2, 1) := by decide +kernel
theorem d_Law_law_506 : decode code 506 = .ok (.aload_n 0, 1) := by decide +kernel
theorem d_Law_law_507 : decode code 507 = .ok (.iload 4, 2) := by decide +kernel
theorem d_Law_law_509 : decode code 509 = .ok (.iconst 1, 1) := by decide +kernel
theorem d_Law_law_510 : decode code 510 = .ok (.iadd, 1) := by decide +kernel
theorem d_Law_law_511 : decode code 511 = .ok (.iaload, 1) := by decide +kernel
theorem d_Law_law_512 : decode code 512 = .ok (.aload_n 0, 1) := by decide +kernel
theorem d_Law_law_513 : decode code 513 = .ok (.iload 4, 2) := by decide +kernel
theorem d_Law_law_515 : decode code 515 = .ok (.iconst 2, 1) := by decide +kernel
theorem d_Law_law_516 : decode code 516 = .ok (.iadd, 1) := by decide +kernel
theorem d_Law_law_517 : decode code 517 = .ok (.iaload, 1) := by decide +kernel
theorem d_Law_law_518 : decode code 518 = .ok (.invokevirtual 99, 3) := by decide +kernel
theorem d_Law_law_521 : decode code 521 = .ok (.istore 6, 2) := by decide +kernel
theorem d_Law_law_523 : decode code 523 = .ok (.aload_n 2, 1) := by decide +kernel
theorem d_Law_law_524 : decode code 524 = .ok (.invokevirtual 79, 3) := by decide +kernel
theorem d_Law_law_527 : decode code 527 = .ok (.iload 5, 2) := by decide +kernel
theorem d_Law_law_529 : decode code 529 = .ok (.if_icmp .eq 5, 3) := by decide +kernel
theorem d_Law_law_532 : decode code 532 = .ok (.iconst 0, 1) := by decide +kernel
theorem d_Law_law_533 : decode code 533 = .ok (.ireturn, 1) := by decide +kernel
theorem d_Law_law_534 : decode code 534 = .ok (.iload 5, 2) := by decide +kernel
theorem d_Law_law_536 : decode code 536 = .ok (.ifCond .ne 15, 3) := by decide +kernel
theorem d_Law_law_539 : decode code 539 = .ok (.aload_n 3, 1) := by decide +kernel
theorem d_Law_law_540 : decode code 540 = .ok (.iconst 0, 1) := by decide +kernel
theorem d_Law_law_541 : decode code 541 = .ok (.laload, 1) := by decide +kernel
theorem d_Law_law_542 : decode code 542 = .ok (.iload 6, 2) := by decide +kernel
theorem d_Law_law_544 : decode code 544 = .ok (.i2l, 1) := by decide +kernel
theorem d_Law_law_545 : decode code 545 = .ok (.lcmp, 1) := by decide +kernel
theorem d_Law_law_546 : decode code 546 = .ok (.ifCond .eq 5, 3) := by decide +kernel
theorem d_Law_law_549 : decode code 549 = .ok (.iconst 0, 1) := by decide +kernel
theorem d_Law_law_550 : decode code 550 = .ok (.ireturn, 1) := by decide +kernel
theorem d_Law_law_551 : decode code 551 = .ok (.goto 746, 3) := by decide +kernel
theorem d_Law_law_554 : decode code 554 = .ok (.aload_n 1, 1) := by decide +kernel
theorem d_Law_law_555 : decode code 555 = .ok (.aload_n 0, 1) := by decide +kernel
theorem d_Law_law_556 : decode code 556 = .ok (.iload 4, 2) := by decide +kernel
theorem d_Law_law_558 : decode code 558 = .ok (.iconst 1, 1) := by decide +kernel
theorem d_Law_law_559 : decode code 559 = .ok (.iadd, 1) := by decide +kernel
theorem d_Law_law_560 : decode code 560 = .ok (.iaload, 1) := by decide +kernel
theorem d_Law_law_561 : decode code 561 = .ok (.aload_n 0, 1) := by decide +kernel
theorem d_Law_law_562 : decode code 562 = .ok (.iload 4, 2) := by decide +kernel
theorem d_Law_law_564 : decode code 564 = .ok (.iconst 2, 1) := by decide +kernel
theorem d_Law_law_565 : decode code 565 = .ok (.iadd, 1) := by decide +kernel
theorem d_Law_law_566 : decode code 566 = .ok (.iaload, 1) := by decide +kernel
theorem d_Law_law_567 : decode code 567 = .ok (.aload_n 3, 1) := by decide +kernel
theorem d_Law_law_568 : decode code 568 = .ok (.invokestatic 100, 3) := by decide +kernel
theorem d_Law_law_571 : decode code 571 = .ok (.istore 5, 2) := by decide +kernel
theorem d_Law_law_573 : decode code 573 = .ok (.aload_n 2, 1) := by decide +kernel
theorem d_Law_law_574 : decode code 574 = .ok (.aload_n 0, 1) := by decide +kernel
theorem d_Law_law_575 : decode code 575 = .ok (.iload 4, 2) := by decide +kernel
theorem d_Law_law_577 : decode code 577 = .ok (.iconst 1, 1) := by decide +kernel
theorem d_Law_law_578 : decode code 578 = .ok (.iadd, 1) := by decide +kernel
theorem d_Law_law_579 : decode code 579 = .ok (.iaload, 1) := by decide +kernel
theorem d_Law_law_580 : decode code 580 = .ok (.aload_n 0, 1) := by decide +kernel
theorem d_Law_law_581 : decode code 581 = .ok (.iload 4, 2) := by decide +kernel
theorem d_Law_law_583 : decode code 583 = .ok (.iconst 2, 1) := by decide +kernel
theorem d_Law_law_584 : decode code 584 = .ok (.iadd, 1) := by decide +kernel
theorem d_Law_law_585 : decode code 585 = .ok (.iaload, 1) := by decide +kernel
theorem d_Law_law_586 : decode code 586 = .ok (.invokevirtual 102, 3) := by decide +kernel
theorem d_Law_law_589 : decode code 589 = .ok (.istore 6, 2) := by decide +kernel
theorem d_Law_law_591 : decode code 591 = .ok (.aload_n 2, 1) := by decide +kernel
theorem d_Law_law_592 : decode code 592 = .ok (.invokevirtual 79, 3) := by decide +kernel
theorem d_Law_law_595 : decode code 595 = .ok (.iload 5, 2) := by decide +kernel
theorem d_Law_law_597 : decode code 597 = .ok (.if_icmp .eq 5, 3) := by decide +kernel
theorem d_Law_law_600 : decode code 600 = .ok (.iconst 0, 1) := by decide +kernel
theorem d_Law_law_601 : decode code 601 = .ok (.ireturn, 1) := by decide +kernel
theorem d_Law_law_602 : decode code 602 = .ok (.iload 5, 2) := by decide +kernel
theorem d_Law_law_604 : decode code 604 = .ok (.ifCond .ne 15, 3) := by decide +kernel
theorem d_Law_law_607 : decode code 607 = .ok (.aload_n 3, 1) := by decide +kernel
theorem d_Law_law_608 : decode code 608 = .ok (.iconst 0, 1) := by decide +kernel
theorem d_Law_law_609 : decode code 609 = .ok (.laload, 1) := by decide +kernel
theorem d_Law_law_610 : decode code 610 = .ok (.iload 6, 2) := by decide +kernel
theorem d_Law_law_612 : decode code 612 = .ok (.i2l, 1) := by decide +kernel
theorem d_Law_law_613 : decode code 613 = .ok (.lcmp, 1) := by decide +kernel
theorem d_Law_law_614 : decode code 614 = .ok (.ifCond .eq 5, 3) := by decide +kernel
theorem d_Law_law_617 : decode code 617 = .ok (.iconst 0, 1) := by decide +kernel
theorem d_Law_law_618 : decode code 618 = .ok (.ireturn, 1) := by decide +kernel
theorem d_Law_law_619 : decode code 619 = .ok (.goto 678, 3) := by decide +kernel
theorem d_Law_law_622 : decode code 622 = .ok (.aload_n 1, 1) := by decide +kernel
theorem d_Law_law_623 : decode code 623 = .ok (.aload_n 0, 1) := by decide +kernel
theorem d_Law_law_624 : decode code 624 = .ok (.iload 4, 2) := by decide +kernel
theorem d_Law_law_626 : decode code 626 = .ok (.iconst 1, 1) := by decide +kernel
theorem d_Law_law_627 : decode code 627 = .ok (.iadd, 1) := by decide +kernel
theorem d_Law_law_628 : decode code 628 = .ok (.iaload, 1) := by decide +kernel
theorem d_Law_law_629 : decode code 629 = .ok (.aload_n 0, 1) := by decide +kernel
theorem d_Law_law_630 : decode code 630 = .ok (.iload 4, 2) := by decide +kernel
theorem d_Law_law_632 : decode code 632 = .ok (.iconst 2, 1) := by decide +kernel
theorem d_Law_law_633 : decode code 633 = .ok (.iadd, 1) := by decide +kernel
theorem d_Law_law_634 : decode code 634 = .ok (.iaload, 1) := by decide +kernel
theorem d_Law_law_635 : decode code 635 = .ok (.ifCond .eq 7, 3) := by decide +kernel
theorem d_Law_law_638 : decode code 638 = .ok (.iconst 1, 1) := by decide +kernel
theorem d_Law_law_639 : decode code 639 = .ok (.goto 4, 3) := by decide +kernel
theorem d_Law_law_642 : decode code 642 = .ok (.iconst 0, 1) := by decide +kernel
theorem d_Law_law_643 : decode code 643 = .ok (.aload_n 3, 1) := by decide +kernel
theorem d_Law_law_644 : decode code 644 = .ok (.invokestatic 103, 3) := by decide +kernel
theorem d_Law_law_647 : decode code 647 = .ok (.istore 5, 2) := by decide +kernel
theorem d_Law_law_649 : decode code 649 = .ok (.aload_n 2, 1) := by decide +kernel
theorem d_Law_law_650 : decode code 650 = .ok (.aload_n 0, 1) := by decide +kernel
theorem d_Law_law_651 : decode code 651 = .ok (.iload 4, 2) := by decide +kernel
theorem d_Law_law_653 : decode code 653 = .ok (.iconst 1, 1) := by decide +kernel
theorem d_Law_law_654 : decode code 654 = .ok (.iadd, 1) := by decide +kernel
theorem d_Law_law_655 : decode code 655 = .ok (.iaload, 1) := by decide +kernel
theorem d_Law_law_656 : decode code 656 = .ok (.aload_n 0, 1) := by decide +kernel
theorem d_Law_law_657 : decode code 657 = .ok (.iload 4, 2) := by decide +kernel
theorem d_Law_law_659 : decode code 659 = .ok (.iconst 2, 1) := by decide +kernel
theorem d_Law_law_660 : decode code 660 = .ok (.iadd, 1) := by decide +kernel
theorem d_Law_law_661 : decode code 661 = .ok (.iaload, 1) := by decide +kernel
theorem d_Law_law_662 : decode code 662 = .ok (.ifCond .eq 7, 3) := by decide +kernel
theorem d_Law_law_665 : decode code 665 = .ok (.iconst 1, 1) := by decide +kernel
theorem d_Law_law_666 : decode code 666 = .ok (.goto 4, 3) := by decide +kernel
theorem d_Law_law_669 : decode code 669 = .ok (.iconst 0, 1) := by decide +kernel
theorem d_Law_law_670 : decode code 670 = .ok (.invokevirtual 106, 3) := by decide +kernel
theorem d_Law_law_673 : decode code 673 = .ok (.istore 6, 2) := by decide +kernel
theorem d_Law_law_675 : decode code 675 = .ok (.aload_n 2, 1) := by decide +kernel
theorem d_Law_law_676 : decode code 676 = .ok (.invokevirtual 79, 3) := by decide +kernel
theorem d_Law_law_679 : decode code 679 = .ok (.iload 5, 2) := by decide +kernel
theorem d_Law_law_681 : decode code 681 = .ok (.if_icmp .eq 5, 3) := by decide +kernel
theorem d_Law_law_684 : decode code 684 = .ok (.iconst 0, 1) := by decide +kernel
theorem d_Law_law_685 : decode code 685 = .ok (.ireturn, 1) := by decide +kernel
theorem d_Law_law_686 : decode code 686 = .ok (.iload 5, 2) := by decide +kernel
theorem d_Law_law_688 : decode code 688 = .ok (.ifCond .ne 15, 3) := by decide +kernel
theorem d_Law_law_691 : decode code 691 = .ok (.aload_n 3, 1) := by decide +kernel
theorem d_Law_law_692 : decode code 692 = .ok (.iconst 0, 1) := by decide +kernel
theorem d_Law_law_693 : decode code 693 = .ok (.laload, 1) := by decide +kernel
theorem d_Law_law_694 : decode code 694 = .ok (.iload 6, 2) := by decide +kernel
theorem d_Law_law_696 : decode code 696 = .ok (.i2l, 1) := by decide +kernel
theorem d_Law_law_697 : decode code 697 = .ok (.lcmp, 1) := by decide +kernel
theorem d_Law_law_698 : decode code 698 = .ok (.ifCond .eq 5, 3) := by decide +kernel
theorem d_Law_law_701 : decode code 701 = .ok (.iconst 0, 1) := by decide +kernel
theorem d_Law_law_702 : decode code 702 = .ok (.ireturn, 1) := by decide +kernel
theorem d_Law_law_703 : decode code 703 = .ok (.goto 594, 3) := by decide +kernel
theorem d_Law_law_706 : decode code 706 = .ok (.aload_n 1, 1) := by decide +kernel
theorem d_Law_law_707 : decode code 707 = .ok (.aload_n 0, 1) := by decide +kernel
theorem d_Law_law_708 : decode code 708 = .ok (.iload 4, 2) := by decide +kernel
theorem d_Law_law_710 : decode code 710 = .ok (.iconst 1, 1) := by decide +kernel
theorem d_Law_law_711 : decode code 711 = .ok (.iadd, 1) := by decide +kernel
theorem d_Law_law_712 : decode code 712 = .ok (.iaload, 1) := by decide +kernel
theorem d_Law_law_713 : decode code 713 = .ok (.invokevirtual 107, 3) := by decide +kernel
theorem d_Law_law_716 : decode code 716 = .ok (.aload_n 2, 1) := by decide +kernel
theorem d_Law_law_717 : decode code 717 = .ok (.aload_n 0, 1) := by decide +kernel
theorem d_Law_law_718 : decode code 718 = .ok (.iload 4, 2) := by decide +kernel
theorem d_Law_law_720 : decode code 720 = .ok (.iconst 1, 1) := by decide +kernel
theorem d_Law_law_721 : decode code 721 = .ok (.iadd, 1) := by decide +kernel
theorem d_Law_law_722 : decode code 722 = .ok (.iaload, 1) := by decide +kernel
theorem d_Law_law_723 : decode code 723 = .ok (.invokevirtual 110, 3) := by decide +kernel
theorem d_Law_law_726 : decode code 726 = .ok (.if_icmp .eq 571, 3) := by decide +kernel
theorem d_Law_law_729 : decode code 729 = .ok (.iconst 0, 1) := by decide +kernel
theorem d_Law_law_730 : decode code 730 = .ok (.ireturn, 1) := by decide +kernel
theorem d_Law_law_731 : decode code 731 = .ok (.aload_n 1, 1) := by decide +kernel
theorem d_Law_law_732 : decode code 732 = .ok (.aload_n 0, 1) := by decide +kernel
theorem d_Law_law_733 : decode code 733 = .ok (.iload 4, 2) := by decide +kernel
theorem d_Law_law_735 : decode code 735 = .ok (.iconst 1, 1) := by decide +kernel
theorem d_Law_law_736 : decode code 736 = .ok (.iadd, 1) := by decide +kernel
theorem d_Law_law_737 : decode code 737 = .ok (.iaload, 1) := by decide +kernel
theorem d_Law_law_738 : decode code 738 = .ok (.invokevirtual 111, 3) := by decide +kernel
theorem d_Law_law_741 : decode code 741 = .ok (.aload_n 2, 1) := by decide +kernel
theorem d_Law_law_742 : decode code 742 = .ok (.aload_n 0, 1) := by decide +kernel
theorem d_Law_law_743 : decode code 743 = .ok (.iload 4, 2) := by decide +kernel
theorem d_Law_law_745 : decode code 745 = .ok (.iconst 1, 1) := by decide +kernel
theorem d_Law_law_746 : decode code 746 = .ok (.iadd, 1) := by decide +kernel
theorem d_Law_law_747 : decode code 747 = .ok (.iaload, 1) := by decide +kernel
theorem d_Law_law_748 : decode code 748 = .ok (.invokevirtual 115, 3) := by decide +kernel
theorem d_Law_law_751 : decode code 751 = .ok (.if_icmp .eq 546, 3) := by decide +kernel
theorem d_Law_law_754 : decode code 754 = .ok (.iconst 0, 1) := by decide +kernel
theorem d_Law_law_755 : decode code 755 = .ok (.ireturn, 1) := by decide +kernel
theorem d_Law_law_756 : decode code 756 = .ok (.aload_n 1, 1) := by decide +kernel
theorem d_Law_law_757 : decode code 757 = .ok (.aload_n 0, 1) := by decide +kernel
theorem d_Law_law_758 : decode code 758 = .ok (.iload 4, 2) := by decide +kernel
theorem d_Law_law_760 : decode code 760 = .ok (.iconst 1, 1) := by decide +kernel
theorem d_Law_law_761 : decode code 761 = .ok (.iadd, 1) := by decide +kernel
theorem d_Law_law_762 : decode code 762 = .ok (.iaload, 1) := by decide +kernel
theorem d_Law_law_763 : decode code 763 = .ok (.aload_n 3, 1) := by decide +kernel
theorem d_Law_law_764 : decode code 764 = .ok (.invokestatic 116, 3) := by decide +kernel
theorem d_Law_law_767 : decode code 767 = .ok (.istore 5, 2) := by decide +kernel
theorem d_Law_law_769 : decode code 769 = .ok (.aload_n 2, 1) := by decide +kernel
theorem d_Law_law_770 : decode code 770 = .ok (.aload_n 0, 1) := by decide +kernel
theorem d_Law_law_771 : decode code 771 = .ok (.iload 4, 2) := by decide +kernel
theorem d_Law_law_773 : decode code 773 = .ok (.iconst 1, 1) := by decide +kernel
theorem d_Law_law_774 : decode code 774 = .ok (.iadd, 1) := by decide +kernel
theorem d_Law_law_775 : decode code 775 = .ok (.iaload, 1) := by decide +kernel
theorem d_Law_law_776 : decode code 776 = .ok (.invokevirtual 118, 3) := by decide +kernel
theorem d_Law_law_779 : decode code 779 = .ok (.istore 6, 2) := by decide +kernel
theorem d_Law_law_781 : decode code 781 = .ok (.aload_n 2, 1) := by decide +kernel
theorem d_Law_law_782 : decode code 782 = .ok (.invokevirtual 79, 3) := by decide +kernel
theorem d_Law_law_785 : decode code 785 = .ok (.iload 5, 2) := by decide +kernel
theorem d_Law_law_787 : decode code 787 = .ok (.if_icmp .eq 5, 3) := by decide +kernel
theorem d_Law_law_790 : decode code 790 = .ok (.iconst 0, 1) := by decide +kernel
theorem d_Law_law_791 : decode code 791 = .ok (.ireturn, 1) := by decide +kernel
theorem d_Law_law_792 : decode code 792 = .ok (.iload 5, 2) := by decide +kernel
theorem d_Law_law_794 : decode code 794 = .ok (.ifCond .ne 15, 3) := by decide +kernel
theorem d_Law_law_797 : decode code 797 = .ok (.aload_n 3, 1) := by decide +kernel
theorem d_Law_law_798 : decode code 798 = .ok (.iconst 0, 1) := by decide +kernel
theorem d_Law_law_799 : decode code 799 = .ok (.laload, 1) := by decide +kernel
theorem d_Law_law_800 : decode code 800 = .ok (.iload 6, 2) := by decide +kernel
theorem d_Law_law_802 : decode code 802 = .ok (.i2l, 1) := by decide +kernel
theorem d_Law_law_803 : decode code 803 = .ok (.lcmp, 1) := by decide +kernel
theorem d_Law_law_804 : decode code 804 = .ok (.ifCond .eq 5, 3) := by decide +kernel
theorem d_Law_law_807 : decode code 807 = .ok (.iconst 0, 1) := by decide +kernel
theorem d_Law_law_808 : decode code 808 = .ok (.ireturn, 1) := by decide +kernel
theorem d_Law_law_809 : decode code 809 = .ok (.goto 488, 3) := by decide +kernel
theorem d_Law_law_812 : decode code 812 = .ok (.aload_n 1, 1) := by decide +kernel
theorem d_Law_law_813 : decode code 813 = .ok (.aload_n 0, 1) := by decide +kernel
theorem d_Law_law_814 : decode code 814 = .ok (.iload 4, 2) := by decide +kernel
theorem d_Law_law_816 : decode code 816 = .ok (.iconst 1, 1) := by decide +kernel
theorem d_Law_law_817 : decode code 817 = .ok (.iadd, 1) := by decide +kernel
theorem d_Law_law_818 : decode code 818 = .ok (.iaload, 1) := by decide +kernel
theorem d_Law_law_819 : decode code 819 = .ok (.aload_n 3, 1) := by decide +kernel
theorem d_Law_law_820 : decode code 820 = .ok (.invokestatic 119, 3) := by decide +kernel
theorem d_Law_law_823 : decode code 823 = .ok (.istore 5, 2) := by decide +kernel
theorem d_Law_law_825 : decode code 825 = .ok (.aload_n 2, 1) := by decide +kernel
theorem d_Law_law_826 : decode code 826 = .ok (.aload_n 0, 1) := by decide +kernel
theorem d_Law_law_827 : decode code 827 = .ok (.iload 4, 2) := by decide +kernel
theorem d_Law_law_829 : decode code 829 = .ok (.iconst 1, 1) := by decide +kernel
theorem d_Law_law_830 : decode code 830 = .ok (.iadd, 1) := by decide +kernel
theorem d_Law_law_831 : decode code 831 = .ok (.iaload, 1) := by decide +kernel
theorem d_Law_law_832 : decode code 832 = .ok (.invokevirtual 121, 3) := by decide +kernel
theorem d_Law_law_835 : decode code 835 = .ok (.istore 6, 2) := by decide +kernel
theorem d_Law_law_837 : decode code 837 = .ok (.aload_n 2, 1) := by decide +kernel
theorem d_Law_law_838 : decode code 838 = .ok (.invokevirtual 79, 3) := by decide +kernel
theorem d_Law_law_841 : decode code 841 = .ok (.iload 5, 2) := by decide +kernel
theorem d_Law_law_843 : decode code 843 = .ok (.if_icmp .eq 5, 3) := by decide +kernel
theorem d_Law_law_846 : decode code 846 = .ok (.iconst 0, 1) := by decide +kernel
theorem d_Law_law_847 : decode code 847 = .ok (.ireturn, 1) := by decide +kernel
theorem d_Law_law_848 : decode code 848 = .ok (.iload 5, 2) := by decide +kernel
theorem d_Law_law_850 : decode code 850 = .ok (.ifCond .ne 15, 3) := by decide +kernel
theorem d_Law_law_853 : decode code 853 = .ok (.aload_n 3, 1) := by decide +kernel
theorem d_Law_law_854 : decode code 854 = .ok (.iconst 0, 1) := by decide +kernel
theorem d_Law_law_855 : decode code 855 = .ok (.laload, 1) := by decide +kernel
theorem d_Law_law_856 : decode code 856 = .ok (.iload 6, 2) := by decide +kernel
theorem d_Law_law_858 : decode code 858 = .ok (.i2l, 1) := by decide +kernel
theorem d_Law_law_859 : decode code 859 = .ok (.lcmp, 1) := by decide +kernel
theorem d_Law_law_860 : decode code 860 = .ok (.ifCond .eq 5, 3) := by decide +kernel
theorem d_Law_law_863 : decode code 863 = .ok (.iconst 0, 1) := by decide +kernel
theorem d_Law_law_864 : decode code 864 = .ok (.ireturn, 1) := by decide +kernel
theorem d_Law_law_865 : decode code 865 = .ok (.goto 432, 3) := by decide +kernel
theorem d_Law_law_868 : decode code 868 = .ok (.aload_n 1, 1) := by decide +kernel
theorem d_Law_law_869 : decode code 869 = .ok (.aload_n 0, 1) := by decide +kernel
theorem d_Law_law_870 : decode code 870 = .ok (.iload 4, 2) := by decide +kernel
theorem d_Law_law_872 : decode code 872 = .ok (.iconst 1, 1) := by decide +kernel
theorem d_Law_law_873 : decode code 873 = .ok (.iadd, 1) := by decide +kernel
theorem d_Law_law_874 : decode code 874 = .ok (.iaload, 1) := by decide +kernel
theorem d_Law_law_875 : decode code 875 = .ok (.aload_n 0, 1) := by decide +kernel
theorem d_Law_law_876 : decode code 876 = .ok (.iload 4, 2) := by decide +kernel
theorem d_Law_law_878 : decode code 878 = .ok (.iconst 2, 1) := by decide +kernel
theorem d_Law_law_879 : decode code 879 = .ok (.iadd, 1) := by decide +kernel
theorem d_Law_law_880 : decode code 880 = .ok (.iaload, 1) := by decide +kernel
theorem d_Law_law_881 : decode code 881 = .ok (.aload_n 3, 1) := by decide +kernel
theorem d_Law_law_882 : decode code 882 = .ok (.invokestatic 122, 3) := by decide +kernel
theorem d_Law_law_885 : decode code 885 = .ok (.istore 5, 2) := by decide +kernel
theorem d_Law_law_887 : decode code 887 = .ok (.aload_n 2, 1) := by decide +kernel
theorem d_Law_law_888 : decode code 888 = .ok (.aload_n 0, 1) := by decide +kernel
theorem d_Law_law_889 : decode code 889 = .ok (.iload 4, 2) := by decide +kernel
theorem d_Law_law_891 : decode code 891 = .ok (.iconst 1, 1) := by decide +kernel
theorem d_Law_law_892 : decode code 892 = .ok (.iadd, 1) := by decide +kernel
theorem d_Law_law_893 : decode code 893 = .ok (.iaload, 1) := by decide +kernel
theorem d_Law_law_894 : decode code 894 = .ok (.aload_n 0, 1) := by decide +kernel
theorem d_Law_law_895 : decode code 895 = .ok (.iload 4, 2) := by decide +kernel
theorem d_Law_law_897 : decode code 897 = .ok (.iconst 2, 1) := by decide +kernel
theorem d_Law_law_898 : decode code 898 = .ok (.iadd, 1) := by decide +kernel
theorem d_Law_law_899 : decode code 899 = .ok (.iaload, 1) := by decide +kernel
theorem d_Law_law_900 : decode code 900 = .ok (.invokevirtual 124, 3) := by decide +kernel
theorem d_Law_law_903 : decode code 903 = .ok (.istore 6, 2) := by decide +kernel
theorem d_Law_law_905 : decode code 905 = .ok (.aload_n 2, 1) := by decide +kernel
theorem d_Law_law_906 : decode code 906 = .ok (.invokevirtual 79, 3) := by decide +kernel
theorem d_Law_law_909 : decode code 909 = .ok (.iload 5, 2) := by decide +kernel
theorem d_Law_law_911 : decode code 911 = .ok (.if_icmp .eq 5, 3) := by decide +kernel
theorem d_Law_law_914 : decode code 914 = .ok (.iconst 0, 1) := by decide +kernel
theorem d_Law_law_915 : decode code 915 = .ok (.ireturn, 1) := by decide +kernel
theorem d_Law_law_916 : decode code 916 = .ok (.iload 5, 2) := by decide +kernel
theorem d_Law_law_918 : decode code 918 = .ok (.ifCond .ne 15, 3) := by decide +kernel
theorem d_Law_law_921 : decode code 921 = .ok (.aload_n 3, 1) := by decide +kernel
theorem d_Law_law_922 : decode code 922 = .ok (.iconst 0, 1) := by decide +kernel
theorem d_Law_law_923 : decode code 923 = .ok (.laload, 1) := by decide +kernel
theorem d_Law_law_924 : decode code 924 = .ok (.iload 6, 2) := by decide +kernel
theorem d_Law_law_926 : decode code 926 = .ok (.i2l, 1) := by decide +kernel
theorem d_Law_law_927 : decode code 927 = .ok (.lcmp, 1) := by decide +kernel
theorem d_Law_law_928 : decode code 928 = .ok (.ifCond .eq 5, 3) := by decide +kernel
theorem d_Law_law_931 : decode code 931 = .ok (.iconst 0, 1) := by decide +kernel
theorem d_Law_law_932 : decode code 932 = .ok (.ireturn, 1) := by decide +kernel
theorem d_Law_law_933 : decode code 933 = .ok (.goto 364, 3) := by decide +kernel
theorem d_Law_law_936 : decode code 936 = .ok (.aload_n 1, 1) := by decide +kernel
theorem d_Law_law_937 : decode code 937 = .ok (.aload_n 0, 1) := by decide +kernel
theorem d_Law_law_938 : decode code 938 = .ok (.iload 4, 2) := by decide +kernel
theorem d_Law_law_940 : decode code 940 = .ok (.iconst 1, 1) := by decide +kernel
theorem d_Law_law_941 : decode code 941 = .ok (.iadd, 1) := by decide +kernel
theorem d_Law_law_942 : decode code 942 = .ok (.iaload, 1) := by decide +kernel
theorem d_Law_law_943 : decode code 943 = .ok (.aload_n 3, 1) := by decide +kernel
theorem d_Law_law_944 : decode code 944 = .ok (.invokestatic 125, 3) := by decide +kernel
theorem d_Law_law_947 : decode code 947 = .ok (.istore 5, 2) := by decide +kernel
theorem d_Law_law_949 : decode code 949 = .ok (.aload_n 2, 1) := by decide +kernel
theorem d_Law_law_950 : decode code 950 = .ok (.aload_n 0, 1) := by decide +kernel
theorem d_Law_law_951 : decode code 951 = .ok (.iload 4, 2) := by decide +kernel
theorem d_Law_law_953 : decode code 953 = .ok (.iconst 1, 1) := by decide +kernel
theorem d_Law_law_954 : decode code 954 = .ok (.iadd, 1) := by decide +kernel
theorem d_Law_law_955 : decode code 955 = .ok (.iaload, 1) := by decide +kernel
theorem d_Law_law_956 : decode code 956 = .ok (.invokevirtual 127, 3) := by decide +kernel
theorem d_Law_law_959 : decode code 959 = .ok (.istore 6, 2) := by decide +kernel
theorem d_Law_law_961 : decode code 961 = .ok (.aload_n 2, 1) := by decide +kernel
theorem d_Law_law_962 : decode code 962 = .ok (.invokevirtual 79, 3) := by decide +kernel
theorem d_Law_law_965 : decode code 965 = .ok (.iload 5, 2) := by decide +kernel
theorem d_Law_law_967 : decode code 967 = .ok (.if_icmp .eq 5, 3) := by decide +kernel
theorem d_Law_law_970 : decode code 970 = .ok (.iconst 0, 1) := by decide +kernel
theorem d_Law_law_971 : decode code 971 = .ok (.ireturn, 1) := by decide +kernel
theorem d_Law_law_972 : decode code 972 = .ok (.iload 5, 2) := by decide +kernel
theorem d_Law_law_974 : decode code 974 = .ok (.ifCond .ne 15, 3) := by decide +kernel
theorem d_Law_law_977 : decode code 977 = .ok (.aload_n 3, 1) := by decide +kernel
theorem d_Law_law_978 : decode code 978 = .ok (.iconst 0, 1) := by decide +kernel
theorem d_Law_law_979 : decode code 979 = .ok (.laload, 1) := by decide +kernel
theorem d_Law_law_980 : decode code 980 = .ok (.iload 6, 2) := by decide +kernel
theorem d_Law_law_982 : decode code 982 = .ok (.i2l, 1) := by decide +kernel
theorem d_Law_law_983 : decode code 983 = .ok (.lcmp, 1) := by decide +kernel
theorem d_Law_law_984 : decode code 984 = .ok (.ifCond .eq 5, 3) := by decide +kernel
theorem d_Law_law_987 : decode code 987 = .ok (.iconst 0, 1) := by decide +kernel
theorem d_Law_law_988 : decode code 988 = .ok (.ireturn, 1) := by decide +kernel
theorem d_Law_law_989 : decode code 989 = .ok (.goto 308, 3) := by decide +kernel
theorem d_Law_law_992 : decode code 992 = .ok (.aload_n 1, 1) := by decide +kernel
theorem d_Law_law_993 : decode code 993 = .ok (.aload_n 0, 1) := by decide +kernel
theorem d_Law_law_994 : decode code 994 = .ok (.iload 4, 2) := by decide +kernel
theorem d_Law_law_996 : decode code 996 = .ok (.iconst 1, 1) := by decide +kernel
theorem d_Law_law_997 : decode code 997 = .ok (.iadd, 1) := by decide +kernel
theorem d_Law_law_998 : decode code 998 = .ok (.iaload, 1) := by decide +kernel
theorem d_Law_law_999 : decode code 999 = .ok (.aload_n 3, 1) := by decide +kernel
theorem d_Law_law_1000 : decode code 1000 = .ok (.invokestatic 128, 3) := by decide +kernel
theorem d_Law_law_1003 : decode code 1003 = .ok (.istore 5, 2) := by decide +kernel
theorem d_Law_law_1005 : decode code 1005 = .ok (.aload_n 2, 1) := by decide +kernel
theorem d_Law_law_1006 : decode code 1006 = .ok (.aload_n 0, 1) := by decide +kernel
theorem d_Law_law_1007 : decode code 1007 = .ok (.iload 4, 2) := by decide +kernel
theorem d_Law_law_1009 : decode code 1009 = .ok (.iconst 1, 1) := by decide +kernel
theorem d_Law_law_1010 : decode code 1010 = .ok (.iadd, 1) := by decide +kernel
theorem d_Law_law_1011 : decode code 1011 = .ok (.iaload, 1) := by decide +kernel
theorem d_Law_law_1012 : decode code 1012 = .ok (.invokevirtual 130, 3) := by decide +kernel
theorem d_Law_law_1015 : decode code 1015 = .ok (.istore 6, 2) := by decide +kernel
theorem d_Law_law_1017 : decode code 1017 = .ok (.aload_n 2, 1) := by decide +kernel
theorem d_Law_law_1018 : decode code 1018 = .ok (.invokevirtual 79, 3) := by decide +kernel
theorem d_Law_law_1021 : decode code 1021 = .ok (.iload 5, 2) := by decide +kernel
theorem d_Law_law_1023 : decode code 1023 = .ok (.if_icmp .eq 5, 3) := by decide +kernel
theorem d_Law_law_1026 : decode code 1026 = .ok (.iconst 0, 1) := by decide +kernel
theorem d_Law_law_1027 : decode code 1027 = .ok (.ireturn, 1) := by decide +kernel
theorem d_Law_law_1028 : decode code 1028 = .ok (.iload 5, 2) := by decide +kernel
theorem d_Law_law_1030 : decode code 1030 = .ok (.ifCond .ne 15, 3) := by decide +kernel
theorem d_Law_law_1033 : decode code 1033 = .ok (.aload_n 3, 1) := by decide +kernel
theorem d_Law_law_1034 : decode code 1034 = .ok (.iconst 0, 1) := by decide +kernel
theorem d_Law_law_1035 : decode code 1035 = .ok (.laload, 1) := by decide +kernel
theorem d_Law_law_1036 : decode code 1036 = .ok (.iload 6, 2) := by decide +kernel
theorem d_Law_law_1038 : decode code 1038 = .ok (.i2l, 1) := by decide +kernel
theorem d_Law_law_1039 : decode code 1039 = .ok (.lcmp, 1) := by decide +kernel
theorem d_Law_law_1040 : decode code 1040 = .ok (.ifCond .eq 5, 3) := by decide +kernel
theorem d_Law_law_1043 : decode code 1043 = .ok (.iconst 0, 1) := by decide +kernel
theorem d_Law_law_1044 : decode code 1044 = .ok (.ireturn, 1) := by decide +kernel
theorem d_Law_law_1045 : decode code 1045 = .ok (.goto 252, 3) := by decide +kernel
theorem d_Law_law_1048 : decode code 1048 = .ok (.aload_n 1, 1) := by decide +kernel
theorem d_Law_law_1049 : decode code 1049 = .ok (.aload_n 0, 1) := by decide +kernel
theorem d_Law_law_1050 : decode code 1050 = .ok (.iload 4, 2) := by decide +kernel
theorem d_Law_law_1052 : decode code 1052 = .ok (.iconst 1, 1) := by decide +kernel
theorem d_Law_law_1053 : decode code 1053 = .ok (.iadd, 1) := by decide +kernel
theorem d_Law_law_1054 : decode code 1054 = .ok (.iaload, 1) := by decide +kernel
theorem d_Law_law_1055 : decode code 1055 = .ok (.invokevirtual 131, 3) := by decide +kernel
theorem d_Law_law_1058 : decode code 1058 = .ok (.aload_n 2, 1) := by decide +kernel
theorem d_Law_law_1059 : decode code 1059 = .ok (.aload_n 0, 1) := by decide +kernel
theorem d_Law_law_1060 : decode code 1060 = .ok (.iload 4, 2) := by decide +kernel
theorem d_Law_law_1062 : decode code 1062 = .ok (.iconst 1, 1) := by decide +kernel
theorem d_Law_law_1063 : decode code 1063 = .ok (.iadd, 1) := by decide +kernel
theorem d_Law_law_1064 : decode code 1064 = .ok (.iaload, 1) := by decide +kernel
theorem d_Law_law_1065 : decode code 1065 = .ok (.invokevirtual 134, 3) := by decide +kernel
theorem d_Law_law_1068 : decode code 1068 = .ok (.if_icmp .eq 229, 3) := by decide +kernel
theorem d_Law_law_1071 : decode code 1071 = .ok (.iconst 0, 1) := by decide +kernel
theorem d_Law_law_1072 : decode code 1072 = .ok (.ireturn, 1) := by decide +kernel
theorem d_Law_law_1073 : decode code 1073 = .ok (.aload_n 1, 1) := by decide +kernel
theorem d_Law_law_1074 : decode code 1074 = .ok (.aload_n 0, 1) := by decide +kernel
theorem d_Law_law_1075 : decode code 1075 = .ok (.iload 4, 2) := by decide +kernel
theorem d_Law_law_1077 : decode code 1077 = .ok (.iconst 1, 1) := by decide +kernel
theorem d_Law_law_1078 : decode code 1078 = .ok (.iadd, 1) := by decide +kernel
theorem d_Law_law_1079 : decode code 1079 = .ok (.iaload, 1) := by decide +kernel
theorem d_Law_law_1080 : decode code 1080 = .ok (.aload_n 3, 1) := by decide +kernel
theorem d_Law_law_1081 : decode code 1081 = .ok (.invokestatic 135, 3) := by decide +kernel
theorem d_Law_law_1084 : decode code 1084 = .ok (.istore 5, 2) := by decide +kernel
theorem d_Law_law_1086 : decode code 1086 = .ok (.aload_n 2, 1) := by decide +kernel
theorem d_Law_law_1087 : decode code 1087 = .ok (.aload_n 0, 1) := by decide +kernel
theorem d_Law_law_1088 : decode code 1088 = .ok (.iload 4, 2) := by decide +kernel
theorem d_Law_law_1090 : decode code 1090 = .ok (.iconst 1, 1) := by decide +kernel
theorem d_Law_law_1091 : decode code 1091 = .ok (.iadd, 1) := by decide +kernel
theorem d_Law_law_1092 : decode code 1092 = .ok (.iaload, 1) := by decide +kernel
theorem d_Law_law_1093 : decode code 1093 = .ok (.invokevirtual 137, 3) := by decide +kernel
theorem d_Law_law_1096 : decode code 1096 = .ok (.istore 6, 2) := by decide +kernel
theorem d_Law_law_1098 : decode code 1098 = .ok (.aload_n 2, 1) := by decide +kernel
theorem d_Law_law_1099 : decode code 1099 = .ok (.invokevirtual 79, 3) := by decide +kernel
theorem d_Law_law_1102 : decode code 1102 = .ok (.iload 5, 2) := by decide +kernel
theorem d_Law_law_1104 : decode code 1104 = .ok (.if_icmp .eq 5, 3) := by decide +kernel
theorem d_Law_law_1107 : decode code 1107 = .ok (.iconst 0, 1) := by decide +kernel
theorem d_Law_law_1108 : decode code 1108 = .ok (.ireturn, 1) := by decide +kernel
theorem d_Law_law_1109 : decode code 1109 = .ok (.iload 5, 2) := by decide +kernel
theorem d_Law_law_1111 : decode code 1111 = .ok (.ifCond .ne 15, 3) := by decide +kernel
theorem d_Law_law_1114 : decode code 1114 = .ok (.aload_n 3, 1) := by decide +kernel
theorem d_Law_law_1115 : decode code 1115 = .ok (.iconst 0, 1) := by decide +kernel
theorem d_Law_law_1116 : decode code 1116 = .ok (.laload, 1) := by decide +kernel
theorem d_Law_law_1117 : decode code 1117 = .ok (.iload 6, 2) := by decide +kernel
theorem d_Law_law_1119 : decode code 1119 = .ok (.i2l, 1) := by decide +kernel
theorem d_Law_law_1120 : decode code 1120 = .ok (.lcmp, 1) := by decide +kernel
theorem d_Law_law_1121 : decode code 1121 = .ok (.ifCond .eq 5, 3) := by decide +kernel
theorem d_Law_law_1124 : decode code 1124 = .ok (.iconst 0, 1) := by decide +kernel
theorem d_Law_law_1125 : decode code 1125 = .ok (.ireturn, 1) := by decide +kernel
theorem d_Law_law_1126 : decode code 1126 = .ok (.goto 171, 3) := by decide +kernel
theorem d_Law_law_1129 : decode code 1129 = .ok (.aload_n 1, 1) := by decide +kernel
theorem d_Law_law_1130 : decode code 1130 = .ok (.aload_n 0, 1) := by decide +kernel
theorem d_Law_law_1131 : decode code 1131 = .ok (.iload 4, 2) := by decide +kernel
theorem d_Law_law_1133 : decode code 1133 = .ok (.iconst 1, 1) := by decide +kernel
theorem d_Law_law_1134 : decode code 1134 = .ok (.iadd, 1) := by decide +kernel
theorem d_Law_law_1135 : decode code 1135 = .ok (.iaload, 1) := by decide +kernel
theorem d_Law_law_1136 : decode code 1136 = .ok (.aload_n 0, 1) := by decide +kernel
theorem d_Law_law_1137 : decode code 1137 = .ok (.iload 4, 2) := by decide +kernel
theorem d_Law_law_1139 : decode code 1139 = .ok (.iconst 2, 1) := by decide +kernel
theorem d_Law_law_1140 : decode code 1140 = .ok (.iadd, 1) := by decide +kernel
theorem d_Law_law_1141 : decode code 1141 = .ok (.iaload, 1) := by decide +kernel
theorem d_Law_law_1142 : decode code 1142 = .ok (.aload_n 3, 1) := by decide +kernel
theorem d_Law_law_1143 : decode code 1143 = .ok (.invokestatic 138, 3) := by decide +kernel
theorem d_Law_law_1146 : decode code 1146 = .ok (.istore 5, 2) := by decide +kernel
theorem d_Law_law_1148 : decode code 1148 = .ok (.aload_n 2, 1) := by decide +kernel
theorem d_Law_law_1149 : decode code 1149 = .ok (.aload_n 0, 1) := by decide +kernel
theorem d_Law_law_1150 : decode code 1150 = .ok (.iload 4, 2) := by decide +kernel
theorem d_Law_law_1152 : decode code 1152 = .ok (.iconst 1, 1) := by decide +kernel
theorem d_Law_law_1153 : decode code 1153 = .ok (.iadd, 1) := by decide +kernel
theorem d_Law_law_1154 : decode code 1154 = .ok (.iaload, 1) := by decide +kernel
theorem d_Law_law_1155 : decode code 1155 = .ok (.aload_n 0, 1) := by decide +kernel
theorem d_Law_law_1156 : decode code 1156 = .ok (.iload 4, 2) := by decide +kernel
theorem d_Law_law_1158 : decode code 1158 = .ok (.iconst 2, 1) := by decide +kernel
theorem d_Law_law_1159 : decode code 1159 = .ok (.iadd, 1) := by decide +kernel
theorem d_Law_law_1160 : decode code 1160 = .ok (.iaload, 1) := by decide +kernel
theorem d_Law_law_1161 : decode code 1161 = .ok (.invokevirtual 140, 3) := by decide +kernel
theorem d_Law_law_1164 : decode code 1164 = .ok (.istore 6, 2) := by decide +kernel
theorem d_Law_law_1166 : decode code 1166 = .ok (.aload_n 2, 1) := by decide +kernel
theorem d_Law_law_1167 : decode code 1167 = .ok (.invokevirtual 79, 3) := by decide +kernel
theorem d_Law_law_1170 : decode code 1170 = .ok (.iload 5, 2) := by decide +kernel
theorem d_Law_law_1172 : decode code 1172 = .ok (.if_icmp .eq 5, 3) := by decide +kernel
theorem d_Law_law_1175 : decode code 1175 = .ok (.iconst 0, 1) := by decide +kernel
theorem d_Law_law_1176 : decode code 1176 = .ok (.ireturn, 1) := by decide +kernel
theorem d_Law_law_1177 : decode code 1177 = .ok (.iload 5, 2) := by decide +kernel
theorem d_Law_law_1179 : decode code 1179 = .ok (.ifCond .ne 15, 3) := by decide +kernel
theorem d_Law_law_1182 : decode code 1182 = .ok (.aload_n 3, 1) := by decide +kernel
theorem d_Law_law_1183 : decode code 1183 = .ok (.iconst 0, 1) := by decide +kernel
theorem d_Law_law_1184 : decode code 1184 = .ok (.laload, 1) := by decide +kernel
theorem d_Law_law_1185 : decode code 1185 = .ok (.iload 6, 2) := by decide +kernel
theorem d_Law_law_1187 : decode code 1187 = .ok (.i2l, 1) := by decide +kernel
theorem d_Law_law_1188 : decode code 1188 = .ok (.lcmp, 1) := by decide +kernel
theorem d_Law_law_1189 : decode code 1189 = .ok (.ifCond .eq 5, 3) := by decide +kernel
theorem d_Law_law_1192 : decode code 1192 = .ok (.iconst 0, 1) := by decide +kernel
theorem d_Law_law_1193 : decode code 1193 = .ok (.ireturn, 1) := by decide +kernel
theorem d_Law_law_1194 : decode code 1194 = .ok (.goto 103, 3) := by decide +kernel
theorem d_Law_law_1197 : decode code 1197 = .ok (.aload_n 1, 1) := by decide +kernel
theorem d_Law_law_1198 : decode code 1198 = .ok (.invokevirtual 141, 3) := by decide +kernel
theorem d_Law_law_1201 : decode code 1201 = .ok (.aload_n 2, 1) := by decide +kernel
theorem d_Law_law_1202 : decode code 1202 = .ok (.invokevirtual 144, 3) := by decide +kernel
theorem d_Law_law_1205 : decode code 1205 = .ok (.if_icmp .eq 92, 3) := by decide +kernel
theorem d_Law_law_1208 : decode code 1208 = .ok (.iconst 0, 1) := by decide +kernel
theorem d_Law_law_1209 : decode code 1209 = .ok (.ireturn, 1) := by decide +kernel
theorem d_Law_law_1210 : decode code 1210 = .ok (.aload_n 1, 1) := by decide +kernel
theorem d_Law_law_1211 : decode code 1211 = .ok (.aload_n 0, 1) := by decide +kernel
theorem d_Law_law_1212 : decode code 1212 = .ok (.iload 4, 2) := by decide +kernel
theorem d_Law_law_1214 : decode code 1214 = .ok (.iconst 1, 1) := by decide +kernel
theorem d_Law_law_1215 : decode code 1215 = .ok (.iadd, 1) := by decide +kernel
theorem d_Law_law_1216 : decode code 1216 = .ok (.iaload, 1) := by decide +kernel
theorem d_Law_law_1217 : decode code 1217 = .ok (.invokevirtual 145, 3) := by decide +kernel
theorem d_Law_law_1220 : decode code 1220 = .ok (.aload_n 2, 1) := by decide +kernel
theorem d_Law_law_1221 : decode code 1221 = .ok (.aload_n 0, 1) := by decide +kernel
theorem d_Law_law_1222 : decode code 1222 = .ok (.iload 4, 2) := by decide +kernel
theorem d_Law_law_1224 : decode code 1224 = .ok (.iconst 1, 1) := by decide +kernel
theorem d_Law_law_1225 : decode code 1225 = .ok (.iadd, 1) := by decide +kernel
theorem d_Law_law_1226 : decode code 1226 = .ok (.iaload, 1) := by decide +kernel
theorem d_Law_law_1227 : decode code 1227 = .ok (.invokevirtual 148, 3) := by decide +kernel
theorem d_Law_law_1230 : decode code 1230 = .ok (.if_icmp .eq 67, 3) := by decide +kernel
theorem d_Law_law_1233 : decode code 1233 = .ok (.iconst 0, 1) := by decide +kernel
theorem d_Law_law_1234 : decode code 1234 = .ok (.ireturn, 1) := by decide +kernel
theorem d_Law_law_1235 : decode code 1235 = .ok (.aload_n 1, 1) := by decide +kernel
theorem d_Law_law_1236 : decode code 1236 = .ok (.aload_n 0, 1) := by decide +kernel
theorem d_Law_law_1237 : decode code 1237 = .ok (.iload 4, 2) := by decide +kernel
theorem d_Law_law_1239 : decode code 1239 = .ok (.iconst 1, 1) := by decide +kernel
theorem d_Law_law_1240 : decode code 1240 = .ok (.iadd, 1) := by decide +kernel
theorem d_Law_law_1241 : decode code 1241 = .ok (.iaload, 1) := by decide +kernel
theorem d_Law_law_1242 : decode code 1242 = .ok (.aload_n 0, 1) := by decide +kernel
theorem d_Law_law_1243 : decode code 1243 = .ok (.iload 4, 2) := by decide +kernel
theorem d_Law_law_1245 : decode code 1245 = .ok (.iconst 2, 1) := by decide +kernel
theorem d_Law_law_1246 : decode code 1246 = .ok (.iadd, 1) := by decide +kernel
theorem d_Law_law_1247 : decode code 1247 = .ok (.iaload, 1) := by decide +kernel
theorem d_Law_law_1248 : decode code 1248 = .ok (.invokevirtual 149, 3) := by decide +kernel
theorem d_Law_law_1251 : decode code 1251 = .ok (.aload_n 2, 1) := by decide +kernel
theorem d_Law_law_1252 : decode code 1252 = .ok (.aload_n 0, 1) := by decide +kernel
theorem d_Law_law_1253 : decode code 1253 = .ok (.iload 4, 2) := by decide +kernel
theorem d_Law_law_1255 : decode code 1255 = .ok (.iconst 1, 1) := by decide +kernel
theorem d_Law_law_1256 : decode code 1256 = .ok (.iadd, 1) := by decide +kernel
theorem d_Law_law_1257 : decode code 1257 = .ok (.iaload, 1) := by decide +kernel
theorem d_Law_law_1258 : decode code 1258 = .ok (.aload_n 0, 1) := by decide +kernel
theorem d_Law_law_1259 : decode code 1259 = .ok (.iload 4, 2) := by decide +kernel
theorem d_Law_law_1261 : decode code 1261 = .ok (.iconst 2, 1) := by decide +kernel
theorem d_Law_law_1262 : decode code 1262 = .ok (.iadd, 1) := by decide +kernel
theorem d_Law_law_1263 : decode code 1263 = .ok (.iaload, 1) := by decide +kernel
theorem d_Law_law_1264 : decode code 1264 = .ok (.invokevirtual 152, 3) := by decide +kernel
theorem d_Law_law_1267 : decode code 1267 = .ok (.if_icmp .eq 30, 3) := by decide +kernel
theorem d_Law_law_1270 : decode code 1270 = .ok (.iconst 0, 1) := by decide +kernel
theorem d_Law_law_1271 : decode code 1271 = .ok (.ireturn, 1) := by decide +kernel
theorem d_Law_law_1272 : decode code 1272 = .ok (.aload_n 1, 1) := by decide +kernel
theorem d_Law_law_1273 : decode code 1273 = .ok (.aload_n 0, 1) := by decide +kernel
theorem d_Law_law_1274 : decode code 1274 = .ok (.iload 4, 2) := by decide +kernel
theorem d_Law_law_1276 : decode code 1276 = .ok (.iconst 1, 1) := by decide +kernel
theorem d_Law_law_1277 : decode code 1277 = .ok (.iadd, 1) := by decide +kernel
theorem d_Law_law_1278 : decode code 1278 = .ok (.iaload, 1) := by decide +kernel
theorem d_Law_law_1279 : decode code 1279 = .ok (.invokevirtual 153, 3) := by decide +kernel
theorem d_Law_law_1282 : decode code 1282 = .ok (.aload_n 2, 1) := by decide +kernel
theorem d_Law_law_1283 : decode code 1283 = .ok (.aload_n 0, 1) := by decide +kernel
theorem d_Law_law_1284 : decode code 1284 = .ok (.iload 4, 2) := by decide +kernel
theorem d_Law_law_1286 : decode code 1286 = .ok (.iconst 1, 1) := by decide +kernel
theorem d_Law_law_1287 : decode code 1287 = .ok (.iadd, 1) := by decide +kernel
theorem d_Law_law_1288 : decode code 1288 = .ok (.iaload, 1) := by decide +kernel
theorem d_Law_law_1289 : decode code 1289 = .ok (.invokevirtual 156, 3) := by decide +kernel
theorem d_Law_law_1292 : decode code 1292 = .ok (.if_icmp .eq 5, 3) := by decide +kernel
theorem d_Law_law_1295 : decode code 1295 = .ok (.iconst 0, 1) := by decide +kernel
theorem d_Law_law_1296 : decode code 1296 = .ok (.ireturn, 1) := by decide +kernel
theorem d_Law_law_1297 : decode code 1297 = .ok (.iinc 4 4, 3) := by decide +kernel
theorem d_Law_law_1300 : decode code 1300 = .ok (.goto (-1277), 3) := by decide +kernel
theorem d_Law_law_1303 : decode code 1303 = .ok (.iconst 1, 1) := by decide +kernel
theorem d_Law_law_1304 : decode code 1304 = .ok (.ireturn, 1) := by decide +kernel
