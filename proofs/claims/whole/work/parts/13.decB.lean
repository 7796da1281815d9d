/-! printed by wip/tools/names.py: decode rows -/
theorem d_Edges_init_0 : decode b_Edges_init 0 = .ok (.aload_n 0, 1) := by decide +kernel
theorem d_Edges_init_1 : decode b_Edges_init 1 = .ok (.invokespecial 3, 3) := by decide +kernel
theorem d_Edges_init_4 : decode b_Edges_init 4 = .ok (.aload_n 0, 1) := by decide +kernel
theorem d_Edges_init_5 : decode b_Edges_init 5 = .ok (.bipush 64, 2) := by decide +kernel
theorem d_Edges_init_7 : decode b_Edges_init 7 = .ok (.newarray .int, 2) := by decide +kernel
theorem d_Edges_init_9 : decode b_Edges_init 9 = .ok (.putfield 9, 3) := by decide +kernel
theorem d_Edges_init_12 : decode b_Edges_init 12 = .ok (.aload_n 0, 1) := by decide +kernel
theorem d_Edges_init_13 : decode b_Edges_init 13 = .ok (.sipush 136, 3) := by decide +kernel
theorem d_Edges_init_16 : decode b_Edges_init 16 = .ok (.newarray .boolean, 2) := by decide +kernel
theorem d_Edges_init_18 : decode b_Edges_init 18 = .ok (.putfield 15, 3) := by decide +kernel
theorem d_Edges_init_21 : decode b_Edges_init 21 = .ok (.return_, 1) := by decide +kernel
theorem d_Edges_countInner_0 : decode b_Edges_countInner 0 = .ok (.aload_n 1, 1) := by decide +kernel
theorem d_Edges_countInner_1 : decode b_Edges_countInner 1 = .ok (.getfield 19, 3) := by decide +kernel
theorem d_Edges_countInner_4 : decode b_Edges_countInner 4 = .ok (.iconst 1, 1) := by decide +kernel
theorem d_Edges_countInner_5 : decode b_Edges_countInner 5 = .ok (.isub, 1) := by decide +kernel
theorem d_Edges_countInner_6 : decode b_Edges_countInner 6 = .ok (.istore 4, 2) := by decide +kernel
theorem d_Edges_countInner_8 : decode b_Edges_countInner 8 = .ok (.iconst 0, 1) := by decide +kernel
theorem d_Edges_countInner_9 : decode b_Edges_countInner 9 = .ok (.istore 5, 2) := by decide +kernel
theorem d_Edges_countInner_11 : decode b_Edges_countInner 11 = .ok (.iload 5, 2) := by decide +kernel
theorem d_Edges_countInner_13 : decode b_Edges_countInner 13 = .ok (.iload 4, 2) := by decide +kernel
theorem d_Edges_countInner_15 : decode b_Edges_countInner 15 = .ok (.if_icmp .ge 36, 3) := by decide +kernel
theorem d_Edges_countInner_18 : decode b_Edges_countInner 18 = .ok (.aload_n 0, 1) := by decide +kernel
theorem d_Edges_countInner_19 : decode b_Edges_countInner 19 = .ok (.getfield 9, 3) := by decide +kernel
theorem d_Edges_countInner_22 : decode b_Edges_countInner 22 = .ok (.iload 5, 2) := by decide +kernel
theorem d_Edges_countInner_24 : decode b_Edges_countInner 24 = .ok (.aload_n 0, 1) := by decide +kernel
theorem d_Edges_countInner_25 : decode b_Edges_countInner 25 = .ok (.aload_n 1, 1) := by decide +kernel
theorem d_Edges_countInner_26 : decode b_Edges_countInner 26 = .ok (.getfield 25, 3) := by decide +kernel
theorem d_Edges_countInner_29 : decode b_Edges_countInner 29 = .ok (.iload 5, 2) := by decide +kernel
theorem d_Edges_countInner_31 : decode b_Edges_countInner 31 = .ok (.aaload, 1) := by decide +kernel
theorem d_Edges_countInner_32 : decode b_Edges_countInner 32 = .ok (.aload_n 1, 1) := by decide +kernel
theorem d_Edges_countInner_33 : decode b_Edges_countInner 33 = .ok (.getfield 25, 3) := by decide +kernel
theorem d_Edges_countInner_36 : decode b_Edges_countInner 36 = .ok (.iload 5, 2) := by decide +kernel
theorem d_Edges_countInner_38 : decode b_Edges_countInner 38 = .ok (.iconst 1, 1) := by decide +kernel
theorem d_Edges_countInner_39 : decode b_Edges_countInner 39 = .ok (.iadd, 1) := by decide +kernel
theorem d_Edges_countInner_40 : decode b_Edges_countInner 40 = .ok (.aaload, 1) := by decide +kernel
theorem d_Edges_countInner_41 : decode b_Edges_countInner 41 = .ok (.invokevirtual 29, 3) := by decide +kernel
theorem d_Edges_countInner_44 : decode b_Edges_countInner 44 = .ok (.iastore, 1) := by decide +kernel
theorem d_Edges_countInner_45 : decode b_Edges_countInner 45 = .ok (.iinc 5 1, 3) := by decide +kernel
theorem d_Edges_countInner_48 : decode b_Edges_countInner 48 = .ok (.goto (-37), 3) := by decide +kernel
theorem d_Edges_countInner_51 : decode b_Edges_countInner 51 = .ok (.iconst 0, 1) := by decide +kernel
theorem d_Edges_countInner_52 : decode b_Edges_countInner 52 = .ok (.istore 5, 2) := by decide +kernel
theorem d_Edges_countInner_54 : decode b_Edges_countInner 54 = .ok (.iconst 0, 1) := by decide +kernel
theorem d_Edges_countInner_55 : decode b_Edges_countInner 55 = .ok (.istore 6, 2) := by decide +kernel
theorem d_Edges_countInner_57 : decode b_Edges_countInner 57 = .ok (.iload 6, 2) := by decide +kernel
theorem d_Edges_countInner_59 : decode b_Edges_countInner 59 = .ok (.iload 4, 2) := by decide +kernel
theorem d_Edges_countInner_61 : decode b_Edges_countInner 61 = .ok (.if_icmp .ge 50, 3) := by decide +kernel
theorem d_Edges_countInner_64 : decode b_Edges_countInner 64 = .ok (.aload_n 0, 1) := by decide +kernel
theorem d_Edges_countInner_65 : decode b_Edges_countInner 65 = .ok (.iload 6, 2) := by decide +kernel
theorem d_Edges_countInner_67 : decode b_Edges_countInner 67 = .ok (.invokevirtual 33, 3) := by decide +kernel
theorem d_Edges_countInner_70 : decode b_Edges_countInner 70 = .ok (.ifCond .eq 35, 3) := by decide +kernel
theorem d_Edges_countInner_73 : decode b_Edges_countInner 73 = .ok (.aload_n 0, 1) := by decide +kernel
theorem d_Edges_countInner_74 : decode b_Edges_countInner 74 = .ok (.iload 6, 2) := by decide +kernel
theorem d_Edges_countInner_76 : decode b_Edges_countInner 76 = .ok (.iload 4, 2) := by decide +kernel
theorem d_Edges_countInner_78 : decode b_Edges_countInner 78 = .ok (.aload_n 1, 1) := by decide +kernel
theorem d_Edges_countInner_79 : decode b_Edges_countInner 79 = .ok (.getfield 25, 3) := by decide +kernel
theorem d_Edges_countInner_82 : decode b_Edges_countInner 82 = .ok (.iload 6, 2) := by decide +kernel
theorem d_Edges_countInner_84 : decode b_Edges_countInner 84 = .ok (.aaload, 1) := by decide +kernel
theorem d_Edges_countInner_85 : decode b_Edges_countInner 85 = .ok (.invokevirtual 37, 3) := by decide +kernel
theorem d_Edges_countInner_88 : decode b_Edges_countInner 88 = .ok (.istore 7, 2) := by decide +kernel
theorem d_Edges_countInner_90 : decode b_Edges_countInner 90 = .ok (.iload 7, 2) := by decide +kernel
theorem d_Edges_countInner_92 : decode b_Edges_countInner 92 = .ok (.iload_n 2, 1) := by decide +kernel
theorem d_Edges_countInner_93 : decode b_Edges_countInner 93 = .ok (.if_icmp .lt 12, 3) := by decide +kernel
theorem d_Edges_countInner_96 : decode b_Edges_countInner 96 = .ok (.iload 7, 2) := by decide +kernel
theorem d_Edges_countInner_98 : decode b_Edges_countInner 98 = .ok (.iload_n 3, 1) := by decide +kernel
theorem d_Edges_countInner_99 : decode b_Edges_countInner 99 = .ok (.if_icmp .gt 6, 3) := by decide +kernel
theorem d_Edges_countInner_102 : decode b_Edges_countInner 102 = .ok (.iinc 5 1, 3) := by decide +kernel
theorem d_Edges_countInner_105 : decode b_Edges_countInner 105 = .ok (.iinc 6 1, 3) := by decide +kernel
theorem d_Edges_countInner_108 : decode b_Edges_countInner 108 = .ok (.goto (-51), 3) := by decide +kernel
theorem d_Edges_countInner_111 : decode b_Edges_countInner 111 = .ok (.iload 5, 2) := by decide +kernel
theorem d_Edges_countInner_113 : decode b_Edges_countInner 113 = .ok (.ireturn, 1) := by decide +kernel
theorem d_Edges_countSharedBytes_0 : decode b_Edges_countSharedBytes 0 = .ok (.aload_n 1, 1) := by decide +kernel
theorem d_Edges_countSharedBytes_1 : decode b_Edges_countSharedBytes 1 = .ok (.aload_n 2, 1) := by decide +kernel
theorem d_Edges_countSharedBytes_2 : decode b_Edges_countSharedBytes 2 = .ok (.invokevirtual 41, 3) := by decide +kernel
theorem d_Edges_countSharedBytes_5 : decode b_Edges_countSharedBytes 5 = .ok (.istore_n 3, 1) := by decide +kernel
theorem d_Edges_countSharedBytes_6 : decode b_Edges_countSharedBytes 6 = .ok (.iload_n 3, 1) := by decide +kernel
theorem d_Edges_countSharedBytes_7 : decode b_Edges_countSharedBytes 7 = .ok (.aload_n 1, 1) := by decide +kernel
theorem d_Edges_countSharedBytes_8 : decode b_Edges_countSharedBytes 8 = .ok (.getfield 47, 3) := by decide +kernel
theorem d_Edges_countSharedBytes_11 : decode b_Edges_countSharedBytes 11 = .ok (.if_icmp .eq 11, 3) := by decide +kernel
theorem d_Edges_countSharedBytes_14 : decode b_Edges_countSharedBytes 14 = .ok (.iload_n 3, 1) := by decide +kernel
theorem d_Edges_countSharedBytes_15 : decode b_Edges_countSharedBytes 15 = .ok (.aload_n 2, 1) := by decide +kernel
theorem d_Edges_countSharedBytes_16 : decode b_Edges_countSharedBytes 16 = .ok (.getfield 47, 3) := by decide +kernel
theorem d_Edges_countSharedBytes_19 : decode b_Edges_countSharedBytes 19 = .ok (.if_icmp .ne 7, 3) := by decide +kernel
theorem d_Edges_countSharedBytes_22 : decode b_Edges_countSharedBytes 22 = .ok (.iconst 2, 1) := by decide +kernel
theorem d_Edges_countSharedBytes_23 : decode b_Edges_countSharedBytes 23 = .ok (.iload_n 3, 1) := by decide +kernel
theorem d_Edges_countSharedBytes_24 : decode b_Edges_countSharedBytes 24 = .ok (.imul, 1) := by decide +kernel
theorem d_Edges_countSharedBytes_25 : decode b_Edges_countSharedBytes 25 = .ok (.ireturn, 1) := by decide +kernel
theorem d_Edges_countSharedBytes_26 : decode b_Edges_countSharedBytes 26 = .ok (.aload_n 1, 1) := by decide +kernel
theorem d_Edges_countSharedBytes_27 : decode b_Edges_countSharedBytes 27 = .ok (.getfield 50, 3) := by decide +kernel
theorem d_Edges_countSharedBytes_30 : decode b_Edges_countSharedBytes 30 = .ok (.iload_n 3, 1) := by decide +kernel
theorem d_Edges_countSharedBytes_31 : decode b_Edges_countSharedBytes 31 = .ok (.iaload, 1) := by decide +kernel
theorem d_Edges_countSharedBytes_32 : decode b_Edges_countSharedBytes 32 = .ok (.bipush 8, 2) := by decide +kernel
theorem d_Edges_countSharedBytes_34 : decode b_Edges_countSharedBytes 34 = .ok (.ishr, 1) := by decide +kernel
theorem d_Edges_countSharedBytes_35 : decode b_Edges_countSharedBytes 35 = .ok (.aload_n 2, 1) := by decide +kernel
theorem d_Edges_countSharedBytes_36 : decode b_Edges_countSharedBytes 36 = .ok (.getfield 50, 3) := by decide +kernel
theorem d_Edges_countSharedBytes_39 : decode b_Edges_countSharedBytes 39 = .ok (.iload_n 3, 1) := by decide +kernel
theorem d_Edges_countSharedBytes_40 : decode b_Edges_countSharedBytes 40 = .ok (.iaload, 1) := by decide +kernel
theorem d_Edges_countSharedBytes_41 : decode b_Edges_countSharedBytes 41 = .ok (.bipush 8, 2) := by decide +kernel
theorem d_Edges_countSharedBytes_43 : decode b_Edges_countSharedBytes 43 = .ok (.ishr, 1) := by decide +kernel
theorem d_Edges_countSharedBytes_44 : decode b_Edges_countSharedBytes 44 = .ok (.if_icmp .ne 7, 3) := by decide +kernel
theorem d_Edges_countSharedBytes_47 : decode b_Edges_countSharedBytes 47 = .ok (.iconst 1, 1) := by decide +kernel
theorem d_Edges_countSharedBytes_48 : decode b_Edges_countSharedBytes 48 = .ok (.goto 4, 3) := by decide +kernel
theorem d_Edges_countSharedBytes_51 : decode b_Edges_countSharedBytes 51 = .ok (.iconst 0, 1) := by decide +kernel
theorem d_Edges_countSharedBytes_52 : decode b_Edges_countSharedBytes 52 = .ok (.istore 4, 2) := by decide +kernel
theorem d_Edges_countSharedBytes_54 : decode b_Edges_countSharedBytes 54 = .ok (.iconst 2, 1) := by decide +kernel
theorem d_Edges_countSharedBytes_55 : decode b_Edges_countSharedBytes 55 = .ok (.iload_n 3, 1) := by decide +kernel
theorem d_Edges_countSharedBytes_56 : decode b_Edges_countSharedBytes 56 = .ok (.imul, 1) := by decide +kernel
theorem d_Edges_countSharedBytes_57 : decode b_Edges_countSharedBytes 57 = .ok (.iload 4, 2) := by decide +kernel
theorem d_Edges_countSharedBytes_59 : decode b_Edges_countSharedBytes 59 = .ok (.ifCond .eq 7, 3) := by decide +kernel
theorem d_Edges_countSharedBytes_62 : decode b_Edges_countSharedBytes 62 = .ok (.iconst 1, 1) := by decide +kernel
theorem d_Edges_countSharedBytes_63 : decode b_Edges_countSharedBytes 63 = .ok (.goto 4, 3) := by decide +kernel
theorem d_Edges_countSharedBytes_66 : decode b_Edges_countSharedBytes 66 = .ok (.iconst 0, 1) := by decide +kernel
theorem d_Edges_countSharedBytes_67 : decode b_Edges_countSharedBytes 67 = .ok (.iadd, 1) := by decide +kernel
theorem d_Edges_countSharedBytes_68 : decode b_Edges_countSharedBytes 68 = .ok (.ireturn, 1) := by decide +kernel
theorem d_Edges_isNewText_0 : decode b_Edges_isNewText 0 = .ok (.iload_n 1, 1) := by decide +kernel
theorem d_Edges_isNewText_1 : decode b_Edges_isNewText 1 = .ok (.iconst 1, 1) := by decide +kernel
theorem d_Edges_isNewText_2 : decode b_Edges_isNewText 2 = .ok (.isub, 1) := by decide +kernel
theorem d_Edges_isNewText_3 : decode b_Edges_isNewText 3 = .ok (.istore_n 2, 1) := by decide +kernel
theorem d_Edges_isNewText_4 : decode b_Edges_isNewText 4 = .ok (.iload_n 2, 1) := by decide +kernel
theorem d_Edges_isNewText_5 : decode b_Edges_isNewText 5 = .ok (.ifCond .lt 41, 3) := by decide +kernel
theorem d_Edges_isNewText_8 : decode b_Edges_isNewText 8 = .ok (.aload_n 0, 1) := by decide +kernel
theorem d_Edges_isNewText_9 : decode b_Edges_isNewText 9 = .ok (.getfield 9, 3) := by decide +kernel
theorem d_Edges_isNewText_12 : decode b_Edges_isNewText 12 = .ok (.iload_n 2, 1) := by decide +kernel
theorem d_Edges_isNewText_13 : decode b_Edges_isNewText 13 = .ok (.iaload, 1) := by decide +kernel
theorem d_Edges_isNewText_14 : decode b_Edges_isNewText 14 = .ok (.aload_n 0, 1) := by decide +kernel
theorem d_Edges_isNewText_15 : decode b_Edges_isNewText 15 = .ok (.getfield 9, 3) := by decide +kernel
theorem d_Edges_isNewText_18 : decode b_Edges_isNewText 18 = .ok (.iload_n 1, 1) := by decide +kernel
theorem d_Edges_isNewText_19 : decode b_Edges_isNewText 19 = .ok (.iaload, 1) := by decide +kernel
theorem d_Edges_isNewText_20 : decode b_Edges_isNewText 20 = .ok (.if_icmp .lt 26, 3) := by decide +kernel
theorem d_Edges_isNewText_23 : decode b_Edges_isNewText 23 = .ok (.aload_n 0, 1) := by decide +kernel
theorem d_Edges_isNewText_24 : decode b_Edges_isNewText 24 = .ok (.getfield 9, 3) := by decide +kernel
theorem d_Edges_isNewText_27 : decode b_Edges_isNewText 27 = .ok (.iload_n 2, 1) := by decide +kernel
theorem d_Edges_isNewText_28 : decode b_Edges_isNewText 28 = .ok (.iaload, 1) := by decide +kernel
theorem d_Edges_isNewText_29 : decode b_Edges_isNewText 29 = .ok (.aload_n 0, 1) := by decide +kernel
theorem d_Edges_isNewText_30 : decode b_Edges_isNewText 30 = .ok (.getfield 9, 3) := by decide +kernel
theorem d_Edges_isNewText_33 : decode b_Edges_isNewText 33 = .ok (.iload_n 1, 1) := by decide +kernel
theorem d_Edges_isNewText_34 : decode b_Edges_isNewText 34 = .ok (.iaload, 1) := by decide +kernel
theorem d_Edges_isNewText_35 : decode b_Edges_isNewText 35 = .ok (.if_icmp .ne 5, 3) := by decide +kernel
theorem d_Edges_isNewText_38 : decode b_Edges_isNewText 38 = .ok (.iconst 0, 1) := by decide +kernel
theorem d_Edges_isNewText_39 : decode b_Edges_isNewText 39 = .ok (.ireturn, 1) := by decide +kernel
theorem d_Edges_isNewText_40 : decode b_Edges_isNewText 40 = .ok (.iinc 2 (-1), 3) := by decide +kernel
theorem d_Edges_isNewText_43 : decode b_Edges_isNewText 43 = .ok (.goto (-39), 3) := by decide +kernel
theorem d_Edges_isNewText_46 : decode b_Edges_isNewText 46 = .ok (.iconst 1, 1) := by decide +kernel
theorem d_Edges_isNewText_47 : decode b_Edges_isNewText 47 = .ok (.ireturn, 1) := by decide +kernel
theorem d_Edges_fan_0 : decode b_Edges_fan 0 = .ok (.aload_n 0, 1) := by decide +kernel
theorem d_Edges_fan_1 : decode b_Edges_fan 1 = .ok (.getfield 9, 3) := by decide +kernel
theorem d_Edges_fan_4 : decode b_Edges_fan 4 = .ok (.iload_n 1, 1) := by decide +kernel
theorem d_Edges_fan_5 : decode b_Edges_fan 5 = .ok (.iaload, 1) := by decide +kernel
theorem d_Edges_fan_6 : decode b_Edges_fan 6 = .ok (.istore 4, 2) := by decide +kernel
theorem d_Edges_fan_8 : decode b_Edges_fan 8 = .ok (.iconst 2, 1) := by decide +kernel
theorem d_Edges_fan_9 : decode b_Edges_fan 9 = .ok (.aload_n 3, 1) := by decide +kernel
theorem d_Edges_fan_10 : decode b_Edges_fan 10 = .ok (.getfield 47, 3) := by decide +kernel
theorem d_Edges_fan_13 : decode b_Edges_fan 13 = .ok (.imul, 1) := by decide +kernel
theorem d_Edges_fan_14 : decode b_Edges_fan 14 = .ok (.iload 4, 2) := by decide +kernel
theorem d_Edges_fan_16 : decode b_Edges_fan 16 = .ok (.if_icmp .ne 7, 3) := by decide +kernel
theorem d_Edges_fan_19 : decode b_Edges_fan 19 = .ok (.iconst 0, 1) := by decide +kernel
theorem d_Edges_fan_20 : decode b_Edges_fan 20 = .ok (.goto 4, 3) := by decide +kernel
theorem d_Edges_fan_23 : decode b_Edges_fan 23 = .ok (.iconst 1, 1) := by decide +kernel
theorem d_Edges_fan_24 : decode b_Edges_fan 24 = .ok (.istore 5, 2) := by decide +kernel
theorem d_Edges_fan_26 : decode b_Edges_fan 26 = .ok (.iload_n 1, 1) := by decide +kernel
theorem d_Edges_fan_27 : decode b_Edges_fan 27 = .ok (.istore 6, 2) := by decide +kernel
theorem d_Edges_fan_29 : decode b_Edges_fan 29 = .ok (.iload 6, 2) := by decide +kernel
theorem d_Edges_fan_31 : decode b_Edges_fan 31 = .ok (.iload_n 2, 1) := by decide +kernel
theorem d_Edges_fan_32 : decode b_Edges_fan 32 = .ok (.if_icmp .ge 36, 3) := by decide +kernel
theorem d_Edges_fan_35 : decode b_Edges_fan 35 = .ok (.aload_n 0, 1) := by decide +kernel
theorem d_Edges_fan_36 : decode b_Edges_fan 36 = .ok (.getfield 9, 3) := by decide +kernel
theorem d_Edges_fan_39 : decode b_Edges_fan 39 = .ok (.iload 6, 2) := by decide +kernel
theorem d_Edges_fan_41 : decode b_Edges_fan 41 = .ok (.iaload, 1) := by decide +kernel
theorem d_Edges_fan_42 : decode b_Edges_fan 42 = .ok (.iload 4, 2) := by decide +kernel
theorem d_Edges_fan_44 : decode b_Edges_fan 44 = .ok (.if_icmp .lt 24, 3) := by decide +kernel
theorem d_Edges_fan_47 : decode b_Edges_fan 47 = .ok (.aload_n 0, 1) := by decide +kernel
theorem d_Edges_fan_48 : decode b_Edges_fan 48 = .ok (.getfield 9, 3) := by decide +kernel
theorem d_Edges_fan_51 : decode b_Edges_fan 51 = .ok (.iload 6, 2) := by decide +kernel
theorem d_Edges_fan_53 : decode b_Edges_fan 53 = .ok (.iaload, 1) := by decide +kernel
theorem d_Edges_fan_54 : decode b_Edges_fan 54 = .ok (.iload 4, 2) := by decide +kernel
theorem d_Edges_fan_56 : decode b_Edges_fan 56 = .ok (.if_icmp .ne 6, 3) := by decide +kernel
theorem d_Edges_fan_59 : decode b_Edges_fan 59 = .ok (.iinc 5 1, 3) := by decide +kernel
theorem d_Edges_fan_62 : decode b_Edges_fan 62 = .ok (.iinc 6 1, 3) := by decide +kernel
theorem d_Edges_fan_65 : decode b_Edges_fan 65 = .ok (.goto (-36), 3) := by decide +kernel
theorem d_Edges_fan_68 : decode b_Edges_fan 68 = .ok (.iload 5, 2) := by decide +kernel
theorem d_Edges_fan_70 : decode b_Edges_fan 70 = .ok (.ireturn, 1) := by decide +kernel
theorem d_Edges_depth_0 : decode b_Edges_depth 0 = .ok (.iconst 0, 1) := by decide +kernel
theorem d_Edges_depth_1 : decode b_Edges_depth 1 = .ok (.istore_n 3, 1) := by decide +kernel
theorem d_Edges_depth_2 : decode b_Edges_depth 2 = .ok (.iload_n 3, 1) := by decide +kernel
theorem d_Edges_depth_3 : decode b_Edges_depth 3 = .ok (.aload_n 0, 1) := by decide +kernel
theorem d_Edges_depth_4 : decode b_Edges_depth 4 = .ok (.getfield 15, 3) := by decide +kernel
theorem d_Edges_depth_7 : decode b_Edges_depth 7 = .ok (.arraylength, 1) := by decide +kernel
theorem d_Edges_depth_8 : decode b_Edges_depth 8 = .ok (.if_icmp .ge 16, 3) := by decide +kernel
theorem d_Edges_depth_11 : decode b_Edges_depth 11 = .ok (.aload_n 0, 1) := by decide +kernel
theorem d_Edges_depth_12 : decode b_Edges_depth 12 = .ok (.getfield 15, 3) := by decide +kernel
theorem d_Edges_depth_15 : decode b_Edges_depth 15 = .ok (.iload_n 3, 1) := by decide +kernel
theorem d_Edges_depth_16 : decode b_Edges_depth 16 = .ok (.iconst 0, 1) := by decide +kernel
theorem d_Edges_depth_17 : decode b_Edges_depth 17 = .ok (.bastore, 1) := by decide +kernel
theorem d_Edges_depth_18 : decode b_Edges_depth 18 = .ok (.iinc 3 1, 3) := by decide +kernel
theorem d_Edges_depth_21 : decode b_Edges_depth 21 = .ok (.goto (-19), 3) := by decide +kernel
theorem d_Edges_depth_24 : decode b_Edges_depth 24 = .ok (.iconst 0, 1) := by decide +kernel
theorem d_Edges_depth_25 : decode b_Edges_depth 25 = .ok (.istore_n 3, 1) := by decide +kernel
theorem d_Edges_depth_26 : decode b_Edges_depth 26 = .ok (.iconst 0, 1) := by decide +kernel
theorem d_Edges_depth_27 : decode b_Edges_depth 27 = .ok (.istore 4, 2) := by decide +kernel
theorem d_Edges_depth_29 : decode b_Edges_depth 29 = .ok (.iload 4, 2) := by decide +kernel
theorem d_Edges_depth_31 : decode b_Edges_depth 31 = .ok (.aload_n 1, 1) := by decide +kernel
theorem d_Edges_depth_32 : decode b_Edges_depth 32 = .ok (.getfield 19, 3) := by decide +kernel
theorem d_Edges_depth_35 : decode b_Edges_depth 35 = .ok (.if_icmp .ge 60, 3) := by decide +kernel
theorem d_Edges_depth_38 : decode b_Edges_depth 38 = .ok (.iload 4, 2) := by decide +kernel
theorem d_Edges_depth_40 : decode b_Edges_depth 40 = .ok (.iload_n 2, 1) := by decide +kernel
theorem d_Edges_depth_41 : decode b_Edges_depth 41 = .ok (.if_icmp .eq 48, 3) := by decide +kernel
theorem d_Edges_depth_44 : decode b_Edges_depth 44 = .ok (.aload_n 0, 1) := by decide +kernel
theorem d_Edges_depth_45 : decode b_Edges_depth 45 = .ok (.aload_n 1, 1) := by decide +kernel
theorem d_Edges_depth_46 : decode b_Edges_depth 46 = .ok (.getfield 25, 3) := by decide +kernel
theorem d_Edges_depth_49 : decode b_Edges_depth 49 = .ok (.iload_n 2, 1) := by decide +kernel
theorem d_Edges_depth_50 : decode b_Edges_depth 50 = .ok (.aaload, 1) := by decide +kernel
theorem d_Edges_depth_51 : decode b_Edges_depth 51 = .ok (.aload_n 1, 1) := by decide +kernel
theorem d_Edges_depth_52 : decode b_Edges_depth 52 = .ok (.getfield 25, 3) := by decide +kernel
theorem d_Edges_depth_55 : decode b_Edges_depth 55 = .ok (.iload 4, 2) := by decide +kernel
theorem d_Edges_depth_57 : decode b_Edges_depth 57 = .ok (.aaload, 1) := by decide +kernel
theorem d_Edges_depth_58 : decode b_Edges_depth 58 = .ok (.invokevirtual 53, 3) := by decide +kernel
theorem d_Edges_depth_61 : decode b_Edges_depth 61 = .ok (.istore 5, 2) := by decide +kernel
theorem d_Edges_depth_63 : decode b_Edges_depth 63 = .ok (.iload_n 3, 1) := by decide +kernel
theorem d_Edges_depth_64 : decode b_Edges_depth 64 = .ok (.aload_n 0, 1) := by decide +kernel
theorem d_Edges_depth_65 : decode b_Edges_depth 65 = .ok (.getfield 15, 3) := by decide +kernel
theorem d_Edges_depth_68 : decode b_Edges_depth 68 = .ok (.iload 5, 2) := by decide +kernel
theorem d_Edges_depth_70 : decode b_Edges_depth 70 = .ok (.baload, 1) := by decide +kernel
theorem d_Edges_depth_71 : decode b_Edges_depth 71 = .ok (.ifCond .eq 7, 3) := by decide +kernel
theorem d_Edges_depth_74 : decode b_Edges_depth 74 = .ok (.iconst 0, 1) := by decide +kernel
theorem d_Edges_depth_75 : decode b_Edges_depth 75 = .ok (.goto 4, 3) := by decide +kernel
theorem d_Edges_depth_78 : decode b_Edges_depth 78 = .ok (.iconst 1, 1) := by decide +kernel
theorem d_Edges_depth_79 : decode b_Edges_depth 79 = .ok (.iadd, 1) := by decide +kernel
theorem d_Edges_depth_80 : decode b_Edges_depth 80 = .ok (.istore_n 3, 1) := by decide +kernel
theorem d_Edges_depth_81 : decode b_Edges_depth 81 = .ok (.aload_n 0, 1) := by decide +kernel
theorem d_Edges_depth_82 : decode b_Edges_depth 82 = .ok (.getfield 15, 3) := by decide +kernel
theorem d_Edges_depth_85 : decode b_Edges_depth 85 = .ok (.iload 5, 2) := by decide +kernel
theorem d_Edges_depth_87 : decode b_Edges_depth 87 = .ok (.iconst 1, 1) := by decide +kernel
theorem d_Edges_depth_88 : decode b_Edges_depth 88 = .ok (.bastore, 1) := by decide +kernel
theorem d_Edges_depth_89 : decode b_Edges_depth 89 = .ok (.iinc 4 1, 3) := by decide +kernel
theorem d_Edges_depth_92 : decode b_Edges_depth 92 = .ok (.goto (-63), 3) := by decide +kernel
theorem d_Edges_depth_95 : decode b_Edges_depth 95 = .ok (.iload_n 3, 1) := by decide +kernel
theorem d_Edges_depth_96 : decode b_Edges_depth 96 = .ok (.ireturn, 1) := by decide +kernel
theorem d_Edges_firstDifferentBit_0 : decode b_Edges_firstDifferentBit 0 = .ok (.aload_n 1, 1) := by decide +kernel
theorem d_Edges_firstDifferentBit_1 : decode b_Edges_firstDifferentBit 1 = .ok (.aload_n 2, 1) := by decide +kernel
theorem d_Edges_firstDifferentBit_2 : decode b_Edges_firstDifferentBit 2 = .ok (.invokevirtual 41, 3) := by decide +kernel
theorem d_Edges_firstDifferentBit_5 : decode b_Edges_firstDifferentBit 5 = .ok (.istore_n 3, 1) := by decide +kernel
theorem d_Edges_firstDifferentBit_6 : decode b_Edges_firstDifferentBit 6 = .ok (.iload_n 3, 1) := by decide +kernel
theorem d_Edges_firstDifferentBit_7 : decode b_Edges_firstDifferentBit 7 = .ok (.bipush 17, 2) := by decide +kernel
theorem d_Edges_firstDifferentBit_9 : decode b_Edges_firstDifferentBit 9 = .ok (.imul, 1) := by decide +kernel
theorem d_Edges_firstDifferentBit_10 : decode b_Edges_firstDifferentBit 10 = .ok (.istore 4, 2) := by decide +kernel
theorem d_Edges_firstDifferentBit_12 : decode b_Edges_firstDifferentBit 12 = .ok (.iload_n 3, 1) := by decide +kernel
theorem d_Edges_firstDifferentBit_13 : decode b_Edges_firstDifferentBit 13 = .ok (.aload_n 1, 1) := by decide +kernel
theorem d_Edges_firstDifferentBit_14 : decode b_Edges_firstDifferentBit 14 = .ok (.getfield 47, 3) := by decide +kernel
theorem d_Edges_firstDifferentBit_17 : decode b_Edges_firstDifferentBit 17 = .ok (.if_icmp .eq 11, 3) := by decide +kernel
theorem d_Edges_firstDifferentBit_20 : decode b_Edges_firstDifferentBit 20 = .ok (.iload_n 3, 1) := by decide +kernel
theorem d_Edges_firstDifferentBit_21 : decode b_Edges_firstDifferentBit 21 = .ok (.aload_n 2, 1) := by decide +kernel
theorem d_Edges_firstDifferentBit_22 : decode b_Edges_firstDifferentBit 22 = .ok (.getfield 47, 3) := by decide +kernel
theorem d_Edges_firstDifferentBit_25 : decode b_Edges_firstDifferentBit 25 = .ok (.if_icmp .ne 6, 3) := by decide +kernel
theorem d_Edges_firstDifferentBit_28 : decode b_Edges_firstDifferentBit 28 = .ok (.iload 4, 2) := by decide +kernel
theorem d_Edges_firstDifferentBit_30 : decode b_Edges_firstDifferentBit 30 = .ok (.ireturn, 1) := by decide +kernel
theorem d_Edges_firstDifferentBit_31 : decode b_Edges_firstDifferentBit 31 = .ok (.aload_n 1, 1) := by decide +kernel
theorem d_Edges_firstDifferentBit_32 : decode b_Edges_firstDifferentBit 32 = .ok (.getfield 50, 3) := by decide +kernel
theorem d_Edges_firstDifferentBit_35 : decode b_Edges_firstDifferentBit 35 = .ok (.iload_n 3, 1) := by decide +kernel
theorem d_Edges_firstDifferentBit_36 : decode b_Edges_firstDifferentBit 36 = .ok (.iaload, 1) := by decide +kernel
theorem d_Edges_firstDifferentBit_37 : decode b_Edges_firstDifferentBit 37 = .ok (.aload_n 2, 1) := by decide +kernel
theorem d_Edges_firstDifferentBit_38 : decode b_Edges_firstDifferentBit 38 = .ok (.getfield 50, 3) := by decide +kernel
theorem d_Edges_firstDifferentBit_41 : decode b_Edges_firstDifferentBit 41 = .ok (.iload_n 3, 1) := by decide +kernel
theorem d_Edges_firstDifferentBit_42 : decode b_Edges_firstDifferentBit 42 = .ok (.iaload, 1) := by decide +kernel
theorem d_Edges_firstDifferentBit_43 : decode b_Edges_firstDifferentBit 43 = .ok (.ixor, 1) := by decide +kernel
theorem d_Edges_firstDifferentBit_44 : decode b_Edges_firstDifferentBit 44 = .ok (.istore 5, 2) := by decide +kernel
theorem d_Edges_firstDifferentBit_46 : decode b_Edges_firstDifferentBit 46 = .ok (.bipush 15, 2) := by decide +kernel
theorem d_Edges_firstDifferentBit_48 : decode b_Edges_firstDifferentBit 48 = .ok (.istore 6, 2) := by decide +kernel
theorem d_Edges_firstDifferentBit_50 : decode b_Edges_firstDifferentBit 50 = .ok (.iload 6, 2) := by decide +kernel
theorem d_Edges_firstDifferentBit_52 : decode b_Edges_firstDifferentBit 52 = .ok (.ifCond .le 17, 3) := by decide +kernel
theorem d_Edges_firstDifferentBit_55 : decode b_Edges_firstDifferentBit 55 = .ok (.iload 5, 2) := by decide +kernel
theorem d_Edges_firstDifferentBit_57 : decode b_Edges_firstDifferentBit 57 = .ok (.iload 6, 2) := by decide +kernel
theorem d_Edges_firstDifferentBit_59 : decode b_Edges_firstDifferentBit 59 = .ok (.ishr, 1) := by decide +kernel
theorem d_Edges_firstDifferentBit_60 : decode b_Edges_firstDifferentBit 60 = .ok (.ifCond .ne 9, 3) := by decide +kernel
theorem d_Edges_firstDifferentBit_63 : decode b_Edges_firstDifferentBit 63 = .ok (.iinc 6 (-1), 3) := by decide +kernel
theorem d_Edges_firstDifferentBit_66 : decode b_Edges_firstDifferentBit 66 = .ok (.goto (-16), 3) := by decide +kernel
theorem d_Edges_firstDifferentBit_69 : decode b_Edges_firstDifferentBit 69 = .ok (.iload 4, 2) := by decide +kernel
theorem d_Edges_firstDifferentBit_71 : decode b_Edges_firstDifferentBit 71 = .ok (.bipush 16, 2) := by decide +kernel
theorem d_Edges_firstDifferentBit_73 : decode b_Edges_firstDifferentBit 73 = .ok (.iadd, 1) := by decide +kernel
theorem d_Edges_firstDifferentBit_74 : decode b_Edges_firstDifferentBit 74 = .ok (.iload 6, 2) := by decide +kernel
theorem d_Edges_firstDifferentBit_76 : decode b_Edges_firstDifferentBit 76 = .ok (.isub, 1) := by decide +kernel
theorem d_Edges_firstDifferentBit_77 : decode b_Edges_firstDifferentBit 77 = .ok (.ireturn, 1) := by decide +kernel
theorem d_Automaton_init_0 : decode b_Automaton_init 0 = .ok (.aload_n 0, 1) := by decide +kernel
theorem d_Automaton_init_1 : decode b_Automaton_init 1 = .ok (.invokespecial 3, 3) := by decide +kernel
theorem d_Automaton_init_4 : decode b_Automaton_init 4 = .ok (.aload_n 0, 1) := by decide +kernel
theorem d_Automaton_init_5 : decode b_Automaton_init 5 = .ok (.bipush 64, 2) := by decide +kernel
theorem d_Automaton_init_7 : decode b_Automaton_init 7 = .ok (.anewarray 9, 3) := by decide +kernel
theorem d_Automaton_init_10 : decode b_Automaton_init 10 = .ok (.putfield 11, 3) := by decide +kernel
theorem d_Automaton_init_13 : decode b_Automaton_init 13 = .ok (.iconst 0, 1) := by decide +kernel
theorem d_Automaton_init_14 : decode b_Automaton_init 14 = .ok (.istore_n 1, 1) := by decide +kernel
theorem d_Automaton_init_15 : decode b_Automaton_init 15 = .ok (.iload_n 1, 1) := by decide +kernel
theorem d_Automaton_init_16 : decode b_Automaton_init 16 = .ok (.bipush 64, 2) := by decide +kernel
theorem d_Automaton_init_18 : decode b_Automaton_init 18 = .ok (.if_icmp .ge 22, 3) := by decide +kernel
theorem d_Automaton_init_21 : decode b_Automaton_init 21 = .ok (.aload_n 0, 1) := by decide +kernel
theorem d_Automaton_init_22 : decode b_Automaton_init 22 = .ok (.getfield 11, 3) := by decide +kernel
theorem d_Automaton_init_25 : decode b_Automaton_init 25 = .ok (.iload_n 1, 1) := by decide +kernel
theorem d_Automaton_init_26 : decode b_Automaton_init 26 = .ok (.new 9, 3) := by decide +kernel
theorem d_Automaton_init_29 : decode b_Automaton_init 29 = .ok (.dup, 1) := by decide +kernel
theorem d_Automaton_init_30 : decode b_Automaton_init 30 = .ok (.invokespecial 17, 3) := by decide +kernel
theorem d_Automaton_init_33 : decode b_Automaton_init 33 = .ok (.aastore, 1) := by decide +kernel
theorem d_Automaton_init_34 : decode b_Automaton_init 34 = .ok (.iinc 1 1, 3) := by decide +kernel
theorem d_Automaton_init_37 : decode b_Automaton_init 37 = .ok (.goto (-22), 3) := by decide +kernel
theorem d_Automaton_init_40 : decode b_Automaton_init 40 = .ok (.aload_n 0, 1) := by decide +kernel
theorem d_Automaton_init_41 : decode b_Automaton_init 41 = .ok (.sipush 513, 3) := by decide +kernel
theorem d_Automaton_init_44 : decode b_Automaton_init 44 = .ok (.newarray .int, 2) := by decide +kernel
theorem d_Automaton_init_46 : decode b_Automaton_init 46 = .ok (.putfield 18, 3) := by decide +kernel
theorem d_Automaton_init_49 : decode b_Automaton_init 49 = .ok (.aload_n 0, 1) := by decide +kernel
theorem d_Automaton_init_50 : decode b_Automaton_init 50 = .ok (.sipush 513, 3) := by decide +kernel
theorem d_Automaton_init_53 : decode b_Automaton_init 53 = .ok (.newarray .int, 2) := by decide +kernel
theorem d_Automaton_init_55 : decode b_Automaton_init 55 = .ok (.putfield 22, 3) := by decide +kernel
theorem d_Automaton_init_58 : decode b_Automaton_init 58 = .ok (.aload_n 0, 1) := by decide +kernel
theorem d_Automaton_init_59 : decode b_Automaton_init 59 = .ok (.sipush 513, 3) := by decide +kernel
theorem d_Automaton_init_62 : decode b_Automaton_init 62 = .ok (.newarray .int, 2) := by decide +kernel
theorem d_Automaton_init_64 : decode b_Automaton_init 64 = .ok (.putfield 25, 3) := by decide +kernel
theorem d_Automaton_init_67 : decode b_Automaton_init 67 = .ok (.aload_n 0, 1) := by decide +kernel
theorem d_Automaton_init_68 : decode b_Automaton_init 68 = .ok (.sipush 513, 3) := by decide +kernel
theorem d_Automaton_init_71 : decode b_Automaton_init 71 = .ok (.newarray .int, 2) := by decide +kernel
theorem d_Automaton_init_73 : decode b_Automaton_init 73 = .ok (.putfield 28, 3) := by decide +kernel
theorem d_Automaton_init_76 : decode b_Automaton_init 76 = .ok (.aload_n 0, 1) := by decide +kernel
theorem d_Automaton_init_77 : decode b_Automaton_init 77 = .ok (.sipush 513, 3) := by decide +kernel
theorem d_Automaton_init_80 : decode b_Automaton_init 80 = .ok (.newarray .int, 2) := by decide +kernel
theorem d_Automaton_init_82 : decode b_Automaton_init 82 = .ok (.putfield 31, 3) := by decide +kernel
theorem d_Automaton_init_85 : decode b_Automaton_init 85 = .ok (.return_, 1) := by decide +kernel
theorem d_Automaton_become_0 : decode b_Automaton_become 0 = .ok (.aload_n 0, 1) := by decide +kernel
theorem d_Automaton_become_1 : decode b_Automaton_become 1 = .ok (.aload_n 1, 1) := by decide +kernel
theorem d_Automaton_become_2 : decode b_Automaton_become 2 = .ok (.invokevirtual 34, 3) := by decide +kernel
theorem d_Automaton_become_5 : decode b_Automaton_become 5 = .ok (.putfield 40, 3) := by decide +kernel
theorem d_Automaton_become_8 : decode b_Automaton_become 8 = .ok (.iconst 0, 1) := by decide +kernel
theorem d_Automaton_become_9 : decode b_Automaton_become 9 = .ok (.istore_n 2, 1) := by decide +kernel
theorem d_Automaton_become_10 : decode b_Automaton_become 10 = .ok (.iload_n 2, 1) := by decide +kernel
theorem d_Automaton_become_11 : decode b_Automaton_become 11 = .ok (.aload_n 0, 1) := by decide +kernel
theorem d_Automaton_become_12 : decode b_Automaton_become 12 = .ok (.getfield 40, 3) := by decide +kernel
theorem d_Automaton_become_15 : decode b_Automaton_become 15 = .ok (.if_icmp .ge 32, 3) := by decide +kernel
theorem d_Automaton_become_18 : decode b_Automaton_become 18 = .ok (.aload_n 0, 1) := by decide +kernel
theorem d_Automaton_become_19 : decode b_Automaton_become 19 = .ok (.getfield 11, 3) := by decide +kernel
theorem d_Automaton_become_22 : decode b_Automaton_become 22 = .ok (.iload_n 2, 1) := by decide +kernel
theorem d_Automaton_become_23 : decode b_Automaton_become 23 = .ok (.aaload, 1) := by decide +kernel
theorem d_Automaton_become_24 : decode b_Automaton_become 24 = .ok (.aload_n 1, 1) := by decide +kernel
theorem d_Automaton_become_25 : decode b_Automaton_become 25 = .ok (.getfield 43, 3) := by decide +kernel
theorem d_Automaton_become_28 : decode b_Automaton_become 28 = .ok (.getfield 47, 3) := by decide +kernel
theorem d_Automaton_become_31 : decode b_Automaton_become 31 = .ok (.aload_n 1, 1) := by decide +kernel
theorem d_Automaton_become_32 : decode b_Automaton_become 32 = .ok (.getfield 50, 3) := by decide +kernel
theorem d_Automaton_become_35 : decode b_Automaton_become 35 = .ok (.iload_n 2, 1) := by decide +kernel
theorem d_Automaton_become_36 : decode b_Automaton_become 36 = .ok (.iadd, 1) := by decide +kernel
theorem d_Automaton_become_37 : decode b_Automaton_become 37 = .ok (.aaload, 1) := by decide +kernel
theorem d_Automaton_become_38 : decode b_Automaton_become 38 = .ok (.invokevirtual 53, 3) := by decide +kernel
theorem d_Automaton_become_41 : decode b_Automaton_become 41 = .ok (.iinc 2 1, 3) := by decide +kernel
theorem d_Automaton_become_44 : decode b_Automaton_become 44 = .ok (.goto (-34), 3) := by decide +kernel
theorem d_Automaton_become_47 : decode b_Automaton_become 47 = .ok (.aload_n 0, 1) := by decide +kernel
theorem d_Automaton_become_48 : decode b_Automaton_become 48 = .ok (.invokevirtual 57, 3) := by decide +kernel
theorem d_Automaton_become_51 : decode b_Automaton_become 51 = .ok (.aload_n 0, 1) := by decide +kernel
theorem d_Automaton_become_52 : decode b_Automaton_become 52 = .ok (.invokevirtual 60, 3) := by decide +kernel
theorem d_Automaton_become_55 : decode b_Automaton_become 55 = .ok (.return_, 1) := by decide +kernel
theorem d_Automaton_listPrefixes_0 : decode b_Automaton_listPrefixes 0 = .ok (.aload_n 0, 1) := by decide +kernel
theorem d_Automaton_listPrefixes_1 : decode b_Automaton_listPrefixes 1 = .ok (.iconst 0, 1) := by decide +kernel
theorem d_Automaton_listPrefixes_2 : decode b_Automaton_listPrefixes 2 = .ok (.putfield 63, 3) := by decide +kernel
theorem d_Automaton_listPrefixes_5 : decode b_Automaton_listPrefixes 5 = .ok (.iconst 0, 1) := by decide +kernel
theorem d_Automaton_listPrefixes_6 : decode b_Automaton_listPrefixes 6 = .ok (.istore_n 1, 1) := by decide +kernel
theorem d_Automaton_listPrefixes_7 : decode b_Automaton_listPrefixes 7 = .ok (.iload_n 1, 1) := by decide +kernel
theorem d_Automaton_listPrefixes_8 : decode b_Automaton_listPrefixes 8 = .ok (.aload_n 0, 1) := by decide +kernel
theorem d_Automaton_listPrefixes_9 : decode b_Automaton_listPrefixes 9 = .ok (.getfield 40, 3) := by decide +kernel
theorem d_Automaton_listPrefixes_12 : decode b_Automaton_listPrefixes 12 = .ok (.if_icmp .ge 64, 3) := by decide +kernel
theorem d_Automaton_listPrefixes_15 : decode b_Automaton_listPrefixes 15 = .ok (.iload_n 1, 1) := by decide +kernel
theorem d_Automaton_listPrefixes_16 : decode b_Automaton_listPrefixes 16 = .ok (.ifCond .ne 7, 3) := by decide +kernel
theorem d_Automaton_listPrefixes_19 : decode b_Automaton_listPrefixes 19 = .ok (.iconst 0, 1) := by decide +kernel
theorem d_Automaton_listPrefixes_20 : decode b_Automaton_listPrefixes 20 = .ok (.goto 22, 3) := by decide +kernel
theorem d_Automaton_listPrefixes_23 : decode b_Automaton_listPrefixes 23 = .ok (.aload_n 0, 1) := by decide +kernel
theorem d_Automaton_listPrefixes_24 : decode b_Automaton_listPrefixes 24 = .ok (.getfield 11, 3) := by decide +kernel
theorem d_Automaton_listPrefixes_27 : decode b_Automaton_listPrefixes 27 = .ok (.iload_n 1, 1) := by decide +kernel
theorem d_Automaton_listPrefixes_28 : decode b_Automaton_listPrefixes 28 = .ok (.aaload, 1) := by decide +kernel
theorem d_Automaton_listPrefixes_29 : decode b_Automaton_listPrefixes 29 = .ok (.aload_n 0, 1) := by decide +kernel
theorem d_Automaton_listPrefixes_30 : decode b_Automaton_listPrefixes 30 = .ok (.getfield 11, 3) := by decide +kernel
theorem d_Automaton_listPrefixes_33 : decode b_Automaton_listPrefixes 33 = .ok (.iload_n 1, 1) := by decide +kernel
theorem d_Automaton_listPrefixes_34 : decode b_Automaton_listPrefixes 34 = .ok (.iconst 1, 1) := by decide +kernel
theorem d_Automaton_listPrefixes_35 : decode b_Automaton_listPrefixes 35 = .ok (.isub, 1) := by decide +kernel
theorem d_Automaton_listPrefixes_36 : decode b_Automaton_listPrefixes 36 = .ok (.aaload, 1) := by decide +kernel
theorem d_Automaton_listPrefixes_37 : decode b_Automaton_listPrefixes 37 = .ok (.invokevirtual 66, 3) := by decide +kernel
theorem d_Automaton_listPrefixes_40 : decode b_Automaton_listPrefixes 40 = .ok (.iconst 1, 1) := by decide +kernel
theorem d_Automaton_listPrefixes_41 : decode b_Automaton_listPrefixes 41 = .ok (.iadd, 1) := by decide +kernel
theorem d_Automaton_listPrefixes_42 : decode b_Automaton_listPrefixes 42 = .ok (.istore_n 2, 1) := by decide +kernel
theorem d_Automaton_listPrefixes_43 : decode b_Automaton_listPrefixes 43 = .ok (.iload_n 2, 1) := by decide +kernel
theorem d_Automaton_listPrefixes_44 : decode b_Automaton_listPrefixes 44 = .ok (.istore_n 3, 1) := by decide +kernel
theorem d_Automaton_listPrefixes_45 : decode b_Automaton_listPrefixes 45 = .ok (.iload_n 3, 1) := by decide +kernel
theorem d_Automaton_listPrefixes_46 : decode b_Automaton_listPrefixes 46 = .ok (.aload_n 0, 1) := by decide +kernel
theorem d_Automaton_listPrefixes_47 : decode b_Automaton_listPrefixes 47 = .ok (.getfield 11, 3) := by decide +kernel
theorem d_Automaton_listPrefixes_50 : decode b_Automaton_listPrefixes 50 = .ok (.iload_n 1, 1) := by decide +kernel
theorem d_Automaton_listPrefixes_51 : decode b_Automaton_listPrefixes 51 = .ok (.aaload, 1) := by decide +kernel
theorem d_Automaton_listPrefixes_52 : decode b_Automaton_listPrefixes 52 = .ok (.getfield 70, 3) := by decide +kernel
theorem d_Automaton_listPrefixes_55 : decode b_Automaton_listPrefixes 55 = .ok (.if_icmp .gt 15, 3) := by decide +kernel
theorem d_Automaton_listPrefixes_58 : decode b_Automaton_listPrefixes 58 = .ok (.aload_n 0, 1) := by decide +kernel
theorem d_Automaton_listPrefixes_59 : decode b_Automaton_listPrefixes 59 = .ok (.iload_n 1, 1) := by decide +kernel
theorem d_Automaton_listPrefixes_60 : decode b_Automaton_listPrefixes 60 = .ok (.iload_n 3, 1) := by decide +kernel
theorem d_Automaton_listPrefixes_61 : decode b_Automaton_listPrefixes 61 = .ok (.invokevirtual 73, 3) := by decide +kernel
theorem d_Automaton_listPrefixes_64 : decode b_Automaton_listPrefixes 64 = .ok (.iinc 3 1, 3) := by decide +kernel
theorem d_Automaton_listPrefixes_67 : decode b_Automaton_listPrefixes 67 = .ok (.goto (-22), 3) := by decide +kernel
theorem d_Automaton_listPrefixes_70 : decode b_Automaton_listPrefixes 70 = .ok (.iinc 1 1, 3) := by decide +kernel
theorem d_Automaton_listPrefixes_73 : decode b_Automaton_listPrefixes 73 = .ok (.goto (-66), 3) := by decide +kernel
theorem d_Automaton_listPrefixes_76 : decode b_Automaton_listPrefixes 76 = .ok (.return_, 1) := by decide +kernel
theorem d_Automaton_addPrefix_0 : decode b_Automaton_addPrefix 0 = .ok (.iload_n 1, 1) := by decide +kernel
theorem d_Automaton_addPrefix_1 : decode b_Automaton_addPrefix 1 = .ok (.istore_n 3, 1) := by decide +kernel
theorem d_Automaton_addPrefix_2 : decode b_Automaton_addPrefix 2 = .ok (.iload_n 2, 1) := by decide +kernel
theorem d_Automaton_addPrefix_3 : decode b_Automaton_addPrefix 3 = .ok (.istore 4, 2) := by decide +kernel
theorem d_Automaton_addPrefix_5 : decode b_Automaton_addPrefix 5 = .ok (.iload_n 3, 1) := by decide +kernel
theorem d_Automaton_addPrefix_6 : decode b_Automaton_addPrefix 6 = .ok (.aload_n 0, 1) := by decide +kernel
theorem d_Automaton_addPrefix_7 : decode b_Automaton_addPrefix 7 = .ok (.getfield 40, 3) := by decide +kernel
theorem d_Automaton_addPrefix_10 : decode b_Automaton_addPrefix 10 = .ok (.if_icmp .ge 44, 3) := by decide +kernel
theorem d_Automaton_addPrefix_13 : decode b_Automaton_addPrefix 13 = .ok (.aload_n 0, 1) := by decide +kernel
theorem d_Automaton_addPrefix_14 : decode b_Automaton_addPrefix 14 = .ok (.getfield 11, 3) := by decide +kernel
theorem d_Automaton_addPrefix_17 : decode b_Automaton_addPrefix 17 = .ok (.iload_n 3, 1) := by decide +kernel
theorem d_Automaton_addPrefix_18 : decode b_Automaton_addPrefix 18 = .ok (.aaload, 1) := by decide +kernel
theorem d_Automaton_addPrefix_19 : decode b_Automaton_addPrefix 19 = .ok (.aload_n 0, 1) := by decide +kernel
theorem d_Automaton_addPrefix_20 : decode b_Automaton_addPrefix 20 = .ok (.getfield 11, 3) := by decide +kernel
theorem d_Automaton_addPrefix_23 : decode b_Automaton_addPrefix 23 = .ok (.iload_n 1, 1) := by decide +kernel
theorem d_Automaton_addPrefix_24 : decode b_Automaton_addPrefix 24 = .ok (.aaload, 1) := by decide +kernel
theorem d_Automaton_addPrefix_25 : decode b_Automaton_addPrefix 25 = .ok (.invokevirtual 66, 3) := by decide +kernel
theorem d_Automaton_addPrefix_28 : decode b_Automaton_addPrefix 28 = .ok (.iload_n 2, 1) := by decide +kernel
theorem d_Automaton_addPrefix_29 : decode b_Automaton_addPrefix 29 = .ok (.if_icmp .lt 25, 3) := by decide +kernel
theorem d_Automaton_addPrefix_32 : decode b_Automaton_addPrefix 32 = .ok (.iload 4, 2) := by decide +kernel
theorem d_Automaton_addPrefix_34 : decode b_Automaton_addPrefix 34 = .ok (.aload_n 0, 1) := by decide +kernel
theorem d_Automaton_addPrefix_35 : decode b_Automaton_addPrefix 35 = .ok (.getfield 11, 3) := by decide +kernel
theorem d_Automaton_addPrefix_38 : decode b_Automaton_addPrefix 38 = .ok (.iload_n 3, 1) := by decide +kernel
theorem d_Automaton_addPrefix_39 : decode b_Automaton_addPrefix 39 = .ok (.aaload, 1) := by decide +kernel
theorem d_Automaton_addPrefix_40 : decode b_Automaton_addPrefix 40 = .ok (.getfield 70, 3) := by decide +kernel
theorem d_Automaton_addPrefix_43 : decode b_Automaton_addPrefix 43 = .ok (.invokestatic 77, 3) := by decide +kernel
theorem d_Automaton_addPrefix_46 : decode b_Automaton_addPrefix 46 = .ok (.istore 4, 2) := by decide +kernel
theorem d_Automaton_addPrefix_48 : decode b_Automaton_addPrefix 48 = .ok (.iinc 3 1, 3) := by decide +kernel
theorem d_Automaton_addPrefix_51 : decode b_Automaton_addPrefix 51 = .ok (.goto (-46), 3) := by decide +kernel
theorem d_Automaton_addPrefix_54 : decode b_Automaton_addPrefix 54 = .ok (.aload_n 0, 1) := by decide +kernel
theorem d_Automaton_addPrefix_55 : decode b_Automaton_addPrefix 55 = .ok (.getfield 18, 3) := by decide +kernel
theorem d_Automaton_addPrefix_58 : decode b_Automaton_addPrefix 58 = .ok (.aload_n 0, 1) := by decide +kernel
theorem d_Automaton_addPrefix_59 : decode b_Automaton_addPrefix 59 = .ok (.getfield 63, 3) := by decide +kernel
theorem d_Automaton_addPrefix_62 : decode b_Automaton_addPrefix 62 = .ok (.iload_n 1, 1) := by decide +kernel
theorem d_Automaton_addPrefix_63 : decode b_Automaton_addPrefix 63 = .ok (.iastore, 1) := by decide +kernel
theorem d_Automaton_addPrefix_64 : decode b_Automaton_addPrefix 64 = .ok (.aload_n 0, 1) := by decide +kernel
theorem d_Automaton_addPrefix_65 : decode b_Automaton_addPrefix 65 = .ok (.getfield 22, 3) := by decide +kernel
theorem d_Automaton_addPrefix_68 : decode b_Automaton_addPrefix 68 = .ok (.aload_n 0, 1) := by decide +kernel
theorem d_Automaton_addPrefix_69 : decode b_Automaton_addPrefix 69 = .ok (.getfield 63, 3) := by decide +kernel
theorem d_Automaton_addPrefix_72 : decode b_Automaton_addPrefix 72 = .ok (.iload_n 3, 1) := by decide +kernel
theorem d_Automaton_addPrefix_73 : decode b_Automaton_addPrefix 73 = .ok (.iastore, 1) := by decide +kernel
theorem d_Automaton_addPrefix_74 : decode b_Automaton_addPrefix 74 = .ok (.aload_n 0, 1) := by decide +kernel
theorem d_Automaton_addPrefix_75 : decode b_Automaton_addPrefix 75 = .ok (.getfield 25, 3) := by decide +kernel
theorem d_Automaton_addPrefix_78 : decode b_Automaton_addPrefix 78 = .ok (.aload_n 0, 1) := by decide +kernel
theorem d_Automaton_addPrefix_79 : decode b_Automaton_addPrefix 79 = .ok (.getfield 63, 3) := by decide +kernel
theorem d_Automaton_addPrefix_82 : decode b_Automaton_addPrefix 82 = .ok (.iload_n 2, 1) := by decide +kernel
theorem d_Automaton_addPrefix_83 : decode b_Automaton_addPrefix 83 = .ok (.iastore, 1) := by decide +kernel
theorem d_Automaton_addPrefix_84 : decode b_Automaton_addPrefix 84 = .ok (.aload_n 0, 1) := by decide +kernel
theorem d_Automaton_addPrefix_85 : decode b_Automaton_addPrefix 85 = .ok (.getfield 28, 3) := by decide +kernel
theorem d_Automaton_addPrefix_88 : decode b_Automaton_addPrefix 88 = .ok (.aload_n 0, 1) := by decide +kernel
theorem d_Automaton_addPrefix_89 : decode b_Automaton_addPrefix 89 = .ok (.getfield 63, 3) := by decide +kernel
theorem d_Automaton_addPrefix_92 : decode b_Automaton_addPrefix 92 = .ok (.iload 4, 2) := by decide +kernel
theorem d_Automaton_addPrefix_94 : decode b_Automaton_addPrefix 94 = .ok (.iload_n 2, 1) := by decide +kernel
theorem d_Automaton_addPrefix_95 : decode b_Automaton_addPrefix 95 = .ok (.isub, 1) := by decide +kernel
theorem d_Automaton_addPrefix_96 : decode b_Automaton_addPrefix 96 = .ok (.iastore, 1) := by decide +kernel
theorem d_Automaton_addPrefix_97 : decode b_Automaton_addPrefix 97 = .ok (.aload_n 0, 1) := by decide +kernel
theorem d_Automaton_addPrefix_98 : decode b_Automaton_addPrefix 98 = .ok (.dup, 1) := by decide +kernel
theorem d_Automaton_addPrefix_99 : decode b_Automaton_addPrefix 99 = .ok (.getfield 63, 3) := by decide +kernel
theorem d_Automaton_addPrefix_102 : decode b_Automaton_addPrefix 102 = .ok (.iconst 1, 1) := by decide +kernel
theorem d_Automaton_addPrefix_103 : decode b_Automaton_addPrefix 103 = .ok (.iadd, 1) := by decide +kernel
theorem d_Automaton_addPrefix_104 : decode b_Automaton_addPrefix 104 = .ok (.putfield 63, 3) := by decide +kernel
theorem d_Automaton_addPrefix_107 : decode b_Automaton_addPrefix 107 = .ok (.return_, 1) := by decide +kernel
theorem d_Automaton_countStates_0 : decode b_Automaton_countStates 0 = .ok (.aload_n 0, 1) := by decide +kernel
theorem d_Automaton_countStates_1 : decode b_Automaton_countStates 1 = .ok (.iconst 0, 1) := by decide +kernel
theorem d_Automaton_countStates_2 : decode b_Automaton_countStates 2 = .ok (.putfield 83, 3) := by decide +kernel
theorem d_Automaton_countStates_5 : decode b_Automaton_countStates 5 = .ok (.aload_n 0, 1) := by decide +kernel
theorem d_Automaton_countStates_6 : decode b_Automaton_countStates 6 = .ok (.iconst 0, 1) := by decide +kernel
theorem d_Automaton_countStates_7 : decode b_Automaton_countStates 7 = .ok (.putfield 86, 3) := by decide +kernel
theorem d_Automaton_countStates_10 : decode b_Automaton_countStates 10 = .ok (.aload_n 0, 1) := by decide +kernel
theorem d_Automaton_countStates_11 : decode b_Automaton_countStates 11 = .ok (.iconst 0, 1) := by decide +kernel
theorem d_Automaton_countStates_12 : decode b_Automaton_countStates 12 = .ok (.putfield 89, 3) := by decide +kernel
theorem d_Automaton_countStates_15 : decode b_Automaton_countStates 15 = .ok (.iconst 0, 1) := by decide +kernel
theorem d_Automaton_countStates_16 : decode b_Automaton_countStates 16 = .ok (.istore_n 1, 1) := by decide +kernel
theorem d_Automaton_countStates_17 : decode b_Automaton_countStates 17 = .ok (.iload_n 1, 1) := by decide +kernel
theorem d_Automaton_countStates_18 : decode b_Automaton_countStates 18 = .ok (.bipush 8, 2) := by decide +kernel
theorem d_Automaton_countStates_20 : decode b_Automaton_countStates 20 = .ok (.if_icmp .gt 54, 3) := by decide +kernel
theorem d_Automaton_countStates_23 : decode b_Automaton_countStates 23 = .ok (.aload_n 0, 1) := by decide +kernel
theorem d_Automaton_countStates_24 : decode b_Automaton_countStates 24 = .ok (.getfield 83, 3) := by decide +kernel
theorem d_Automaton_countStates_27 : decode b_Automaton_countStates 27 = .ok (.istore_n 2, 1) := by decide +kernel
theorem d_Automaton_countStates_28 : decode b_Automaton_countStates 28 = .ok (.iconst 0, 1) := by decide +kernel
theorem d_Automaton_countStates_29 : decode b_Automaton_countStates 29 = .ok (.istore_n 3, 1) := by decide +kernel
theorem d_Automaton_countStates_30 : decode b_Automaton_countStates 30 = .ok (.iload_n 3, 1) := by decide +kernel
theorem d_Automaton_countStates_31 : decode b_Automaton_countStates 31 = .ok (.aload_n 0, 1) := by decide +kernel
theorem d_Automaton_countStates_32 : decode b_Automaton_countStates 32 = .ok (.getfield 63, 3) := by decide +kernel
theorem d_Automaton_countStates_35 : decode b_Automaton_countStates 35 = .ok (.if_icmp .ge 33, 3) := by decide +kernel
theorem d_Automaton_countStates_38 : decode b_Automaton_countStates 38 = .ok (.aload_n 0, 1) := by decide +kernel
theorem d_Automaton_countStates_39 : decode b_Automaton_countStates 39 = .ok (.getfield 28, 3) := by decide +kernel
theorem d_Automaton_countStates_42 : decode b_Automaton_countStates 42 = .ok (.iload_n 3, 1) := by decide +kernel
theorem d_Automaton_countStates_43 : decode b_Automaton_countStates 43 = .ok (.iaload, 1) := by decide +kernel
theorem d_Automaton_countStates_44 : decode b_Automaton_countStates 44 = .ok (.iload_n 1, 1) := by decide +kernel
theorem d_Automaton_countStates_45 : decode b_Automaton_countStates 45 = .ok (.if_icmp .ne 17, 3) := by decide +kernel
theorem d_Automaton_countStates_48 : decode b_Automaton_countStates 48 = .ok (.aload_n 0, 1) := by decide +kernel
theorem d_Automaton_countStates_49 : decode b_Automaton_countStates 49 = .ok (.iload_n 3, 1) := by decide +kernel
theorem d_Automaton_countStates_50 : decode b_Automaton_countStates 50 = .ok (.iload_n 2, 1) := by decide +kernel
theorem d_Automaton_countStates_51 : decode b_Automaton_countStates 51 = .ok (.invokevirtual 92, 3) := by decide +kernel
theorem d_Automaton_countStates_54 : decode b_Automaton_countStates 54 = .ok (.ifCond .ne 8, 3) := by decide +kernel
theorem d_Automaton_countStates_57 : decode b_Automaton_countStates 57 = .ok (.aload_n 0, 1) := by decide +kernel
theorem d_Automaton_countStates_58 : decode b_Automaton_countStates 58 = .ok (.iload_n 3, 1) := by decide +kernel
theorem d_Automaton_countStates_59 : decode b_Automaton_countStates 59 = .ok (.invokevirtual 96, 3) := by decide +kernel
theorem d_Automaton_countStates_62 : decode b_Automaton_countStates 62 = .ok (.iinc 3 1, 3) := by decide +kernel
theorem d_Automaton_countStates_65 : decode b_Automaton_countStates 65 = .ok (.goto (-35), 3) := by decide +kernel
theorem d_Automaton_countStates_68 : decode b_Automaton_countStates 68 = .ok (.iinc 1 1, 3) := by decide +kernel
theorem d_Automaton_countStates_71 : decode b_Automaton_countStates 71 = .ok (.goto (-54), 3) := by decide +kernel
theorem d_Automaton_countStates_74 : decode b_Automaton_countStates 74 = .ok (.return_, 1) := by decide +kernel
theorem d_Automaton_isKnown_0 : decode b_Automaton_isKnown 0 = .ok (.iload_n 2, 1) := by decide +kernel
theorem d_Automaton_isKnown_1 : decode b_Automaton_isKnown 1 = .ok (.istore_n 3, 1) := by decide +kernel
theorem d_Automaton_isKnown_2 : decode b_Automaton_isKnown 2 = .ok (.iload_n 3, 1) := by decide +kernel
theorem d_Automaton_isKnown_3 : decode b_Automaton_isKnown 3 = .ok (.aload_n 0, 1) := by decide +kernel
theorem d_Automaton_isKnown_4 : decode b_Automaton_isKnown 4 = .ok (.getfield 83, 3) := by decide +kernel
theorem d_Automaton_isKnown_7 : decode b_Automaton_isKnown 7 = .ok (.if_icmp .ge 25, 3) := by decide +kernel
theorem d_Automaton_isKnown_10 : decode b_Automaton_isKnown 10 = .ok (.aload_n 0, 1) := by decide +kernel
theorem d_Automaton_isKnown_11 : decode b_Automaton_isKnown 11 = .ok (.iload_n 1, 1) := by decide +kernel
theorem d_Automaton_isKnown_12 : decode b_Automaton_isKnown 12 = .ok (.aload_n 0, 1) := by decide +kernel
theorem d_Automaton_isKnown_13 : decode b_Automaton_isKnown 13 = .ok (.getfield 31, 3) := by decide +kernel
theorem d_Automaton_isKnown_16 : decode b_Automaton_isKnown 16 = .ok (.iload_n 3, 1) := by decide +kernel
theorem d_Automaton_isKnown_17 : decode b_Automaton_isKnown 17 = .ok (.iaload, 1) := by decide +kernel
theorem d_Automaton_isKnown_18 : decode b_Automaton_isKnown 18 = .ok (.invokevirtual 100, 3) := by decide +kernel
theorem d_Automaton_isKnown_21 : decode b_Automaton_isKnown 21 = .ok (.ifCond .eq 5, 3) := by decide +kernel
theorem d_Automaton_isKnown_24 : decode b_Automaton_isKnown 24 = .ok (.iconst 1, 1) := by decide +kernel
theorem d_Automaton_isKnown_25 : decode b_Automaton_isKnown 25 = .ok (.ireturn, 1) := by decide +kernel
theorem d_Automaton_isKnown_26 : decode b_Automaton_isKnown 26 = .ok (.iinc 3 1, 3) := by decide +kernel
theorem d_Automaton_isKnown_29 : decode b_Automaton_isKnown 29 = .ok (.goto (-27), 3) := by decide +kernel
theorem d_Automaton_isKnown_32 : decode b_Automaton_isKnown 32 = .ok (.iconst 0, 1) := by decide +kernel
theorem d_Automaton_isKnown_33 : decode b_Automaton_isKnown 33 = .ok (.ireturn, 1) := by decide +kernel
theorem d_Automaton_leadAlike_0 : decode b_Automaton_leadAlike 0 = .ok (.aload_n 0, 1) := by decide +kernel
theorem d_Automaton_leadAlike_1 : decode b_Automaton_leadAlike 1 = .ok (.getfield 22, 3) := by decide +kernel
theorem d_Automaton_leadAlike_4 : decode b_Automaton_leadAlike 4 = .ok (.iload_n 1, 1) := by decide +kernel
theorem d_Automaton_leadAlike_5 : decode b_Automaton_leadAlike 5 = .ok (.iaload, 1) := by decide +kernel
theorem d_Automaton_leadAlike_6 : decode b_Automaton_leadAlike 6 = .ok (.aload_n 0, 1) := by decide +kernel
theorem d_Automaton_leadAlike_7 : decode b_Automaton_leadAlike 7 = .ok (.getfield 18, 3) := by decide +kernel
theorem d_Automaton_leadAlike_10 : decode b_Automaton_leadAlike 10 = .ok (.iload_n 1, 1) := by decide +kernel
theorem d_Automaton_leadAlike_11 : decode b_Automaton_leadAlike 11 = .ok (.iaload, 1) := by decide +kernel
theorem d_Automaton_leadAlike_12 : decode b_Automaton_leadAlike 12 = .ok (.isub, 1) := by decide +kernel
theorem d_Automaton_leadAlike_13 : decode b_Automaton_leadAlike 13 = .ok (.istore_n 3, 1) := by decide +kernel
theorem d_Automaton_leadAlike_14 : decode b_Automaton_leadAlike 14 = .ok (.iload_n 3, 1) := by decide +kernel
theorem d_Automaton_leadAlike_15 : decode b_Automaton_leadAlike 15 = .ok (.aload_n 0, 1) := by decide +kernel
theorem d_Automaton_leadAlike_16 : decode b_Automaton_leadAlike 16 = .ok (.getfield 22, 3) := by decide +kernel
theorem d_Automaton_leadAlike_19 : decode b_Automaton_leadAlike 19 = .ok (.iload_n 2, 1) := by decide +kernel
theorem d_Automaton_leadAlike_20 : decode b_Automaton_leadAlike 20 = .ok (.iaload, 1) := by decide +kernel
theorem d_Automaton_leadAlike_21 : decode b_Automaton_leadAlike 21 = .ok (.aload_n 0, 1) := by decide +kernel
theorem d_Automaton_leadAlike_22 : decode b_Automaton_leadAlike 22 = .ok (.getfield 18, 3) := by decide +kernel
theorem d_Automaton_leadAlike_25 : decode b_Automaton_leadAlike 25 = .ok (.iload_n 2, 1) := by decide +kernel
theorem d_Automaton_leadAlike_26 : decode b_Automaton_leadAlike 26 = .ok (.iaload, 1) := by decide +kernel
theorem d_Automaton_leadAlike_27 : decode b_Automaton_leadAlike 27 = .ok (.isub, 1) := by decide +kernel
theorem d_Automaton_leadAlike_28 : decode b_Automaton_leadAlike 28 = .ok (.if_icmp .eq 5, 3) := by decide +kernel
theorem d_Automaton_leadAlike_31 : decode b_Automaton_leadAlike 31 = .ok (.iconst 0, 1) := by decide +kernel
theorem d_Automaton_leadAlike_32 : decode b_Automaton_leadAlike 32 = .ok (.ireturn, 1) := by decide +kernel
theorem d_Automaton_leadAlike_33 : decode b_Automaton_leadAlike 33 = .ok (.iconst 0, 1) := by decide +kernel
theorem d_Automaton_leadAlike_34 : decode b_Automaton_leadAlike 34 = .ok (.istore 4, 2) := by decide +kernel
theorem d_Automaton_leadAlike_36 : decode b_Automaton_leadAlike 36 = .ok (.iload 4, 2) := by decide +kernel
theorem d_Automaton_leadAlike_38 : decode b_Automaton_leadAlike 38 = .ok (.iload_n 3, 1) := by decide +kernel
theorem d_Automaton_leadAlike_39 : decode b_Automaton_leadAlike 39 = .ok (.if_icmp .ge 65, 3) := by decide +kernel
theorem d_Automaton_leadAlike_42 : decode b_Automaton_leadAlike 42 = .ok (.aload_n 0, 1) := by decide +kernel
theorem d_Automaton_leadAlike_43 : decode b_Automaton_leadAlike 43 = .ok (.getfield 11, 3) := by decide +kernel
theorem d_Automaton_leadAlike_46 : decode b_Automaton_leadAlike 46 = .ok (.aload_n 0, 1) := by decide +kernel
theorem d_Automaton_leadAlike_47 : decode b_Automaton_leadAlike 47 = .ok (.getfield 18, 3) := by decide +kernel
theorem d_Automaton_leadAlike_50 : decode b_Automaton_leadAlike 50 = .ok (.iload_n 1, 1) := by decide +kernel
theorem d_Automaton_leadAlike_51 : decode b_Automaton_leadAlike 51 = .ok (.iaload, 1) := by decide +kernel
theorem d_Automaton_leadAlike_52 : decode b_Automaton_leadAlike 52 = .ok (.iload 4, 2) := by decide +kernel
theorem d_Automaton_leadAlike_54 : decode b_Automaton_leadAlike 54 = .ok (.iadd, 1) := by decide +kernel
theorem d_Automaton_leadAlike_55 : decode b_Automaton_leadAlike 55 = .ok (.aaload, 1) := by decide +kernel
theorem d_Automaton_leadAlike_56 : decode b_Automaton_leadAlike 56 = .ok (.astore 5, 2) := by decide +kernel
theorem d_Automaton_leadAlike_58 : decode b_Automaton_leadAlike 58 = .ok (.aload_n 0, 1) := by decide +kernel
theorem d_Automaton_leadAlike_59 : decode b_Automaton_leadAlike 59 = .ok (.getfield 11, 3) := by decide +kernel
theorem d_Automaton_leadAlike_62 : decode b_Automaton_leadAlike 62 = .ok (.aload_n 0, 1) := by decide +kernel
theorem d_Automaton_leadAlike_63 : decode b_Automaton_leadAlike 63 = .ok (.getfield 18, 3) := by decide +kernel
theorem d_Automaton_leadAlike_66 : decode b_Automaton_leadAlike 66 = .ok (.iload_n 2, 1) := by decide +kernel
theorem d_Automaton_leadAlike_67 : decode b_Automaton_leadAlike 67 = .ok (.iaload, 1) := by decide +kernel
theorem d_Automaton_leadAlike_68 : decode b_Automaton_leadAlike 68 = .ok (.iload 4, 2) := by decide +kernel
theorem d_Automaton_leadAlike_70 : decode b_Automaton_leadAlike 70 = .ok (.iadd, 1) := by decide +kernel
theorem d_Automaton_leadAlike_71 : decode b_Automaton_leadAlike 71 = .ok (.aaload, 1) := by decide +kernel
theorem d_Automaton_leadAlike_72 : decode b_Automaton_leadAlike 72 = .ok (.astore 6, 2) := by decide +kernel
theorem d_Automaton_leadAlike_74 : decode b_Automaton_leadAlike 74 = .ok (.aload 5, 2) := by decide +kernel
theorem d_Automaton_leadAlike_76 : decode b_Automaton_leadAlike 76 = .ok (.aload_n 0, 1) := by decide +kernel
theorem d_Automaton_leadAlike_77 : decode b_Automaton_leadAlike 77 = .ok (.getfield 25, 3) := by decide +kernel
theorem d_Automaton_leadAlike_80 : decode b_Automaton_leadAlike 80 = .ok (.iload_n 1, 1) := by decide +kernel
theorem d_Automaton_leadAlike_81 : decode b_Automaton_leadAlike 81 = .ok (.iaload, 1) := by decide +kernel
theorem d_Automaton_leadAlike_82 : decode b_Automaton_leadAlike 82 = .ok (.aload 6, 2) := by decide +kernel
theorem d_Automaton_leadAlike_84 : decode b_Automaton_leadAlike 84 = .ok (.aload_n 0, 1) := by decide +kernel
theorem d_Automaton_leadAlike_85 : decode b_Automaton_leadAlike 85 = .ok (.getfield 25, 3) := by decide +kernel
theorem d_Automaton_leadAlike_88 : decode b_Automaton_leadAlike 88 = .ok (.iload_n 2, 1) := by decide +kernel
theorem d_Automaton_leadAlike_89 : decode b_Automaton_leadAlike 89 = .ok (.iaload, 1) := by decide +kernel
theorem d_Automaton_leadAlike_90 : decode b_Automaton_leadAlike 90 = .ok (.invokevirtual 103, 3) := by decide +kernel
theorem d_Automaton_leadAlike_93 : decode b_Automaton_leadAlike 93 = .ok (.ifCond .ne 5, 3) := by decide +kernel
theorem d_Automaton_leadAlike_96 : decode b_Automaton_leadAlike 96 = .ok (.iconst 0, 1) := by decide +kernel
theorem d_Automaton_leadAlike_97 : decode b_Automaton_leadAlike 97 = .ok (.ireturn, 1) := by decide +kernel
theorem d_Automaton_leadAlike_98 : decode b_Automaton_leadAlike 98 = .ok (.iinc 4 1, 3) := by decide +kernel
theorem d_Automaton_leadAlike_101 : decode b_Automaton_leadAlike 101 = .ok (.goto (-65), 3) := by decide +kernel
theorem d_Automaton_leadAlike_104 : decode b_Automaton_leadAlike 104 = .ok (.iconst 1, 1) := by decide +kernel
theorem d_Automaton_leadAlike_105 : decode b_Automaton_leadAlike 105 = .ok (.ireturn, 1) := by decide +kernel
theorem d_Automaton_addState_0 : decode b_Automaton_addState 0 = .ok (.aload_n 0, 1) := by decide +kernel
theorem d_Automaton_addState_1 : decode b_Automaton_addState 1 = .ok (.getfield 31, 3) := by decide +kernel
theorem d_Automaton_addState_4 : decode b_Automaton_addState 4 = .ok (.aload_n 0, 1) := by decide +kernel
theorem d_Automaton_addState_5 : decode b_Automaton_addState 5 = .ok (.getfield 83, 3) := by decide +kernel
theorem d_Automaton_addState_8 : decode b_Automaton_addState 8 = .ok (.iload_n 1, 1) := by decide +kernel
theorem d_Automaton_addState_9 : decode b_Automaton_addState 9 = .ok (.iastore, 1) := by decide +kernel
theorem d_Automaton_addState_10 : decode b_Automaton_addState 10 = .ok (.aload_n 0, 1) := by decide +kernel
theorem d_Automaton_addState_11 : decode b_Automaton_addState 11 = .ok (.dup, 1) := by decide +kernel
theorem d_Automaton_addState_12 : decode b_Automaton_addState 12 = .ok (.getfield 83, 3) := by decide +kernel
theorem d_Automaton_addState_15 : decode b_Automaton_addState 15 = .ok (.iconst 1, 1) := by decide +kernel
theorem d_Automaton_addState_16 : decode b_Automaton_addState 16 = .ok (.iadd, 1) := by decide +kernel
theorem d_Automaton_addState_17 : decode b_Automaton_addState 17 = .ok (.putfield 83, 3) := by decide +kernel
theorem d_Automaton_addState_20 : decode b_Automaton_addState 20 = .ok (.aload_n 0, 1) := by decide +kernel
theorem d_Automaton_addState_21 : decode b_Automaton_addState 21 = .ok (.dup, 1) := by decide +kernel
theorem d_Automaton_addState_22 : decode b_Automaton_addState 22 = .ok (.getfield 86, 3) := by decide +kernel
theorem d_Automaton_addState_25 : decode b_Automaton_addState 25 = .ok (.aload_n 0, 1) := by decide +kernel
theorem d_Automaton_addState_26 : decode b_Automaton_addState 26 = .ok (.iload_n 1, 1) := by decide +kernel
theorem d_Automaton_addState_27 : decode b_Automaton_addState 27 = .ok (.invokevirtual 107, 3) := by decide +kernel
theorem d_Automaton_addState_30 : decode b_Automaton_addState 30 = .ok (.iadd, 1) := by decide +kernel
theorem d_Automaton_addState_31 : decode b_Automaton_addState 31 = .ok (.putfield 86, 3) := by decide +kernel
theorem d_Automaton_addState_34 : decode b_Automaton_addState 34 = .ok (.aload_n 0, 1) := by decide +kernel
theorem d_Automaton_addState_35 : decode b_Automaton_addState 35 = .ok (.getfield 11, 3) := by decide +kernel
theorem d_Automaton_addState_38 : decode b_Automaton_addState 38 = .ok (.aload_n 0, 1) := by decide +kernel
theorem d_Automaton_addState_39 : decode b_Automaton_addState 39 = .ok (.getfield 18, 3) := by decide +kernel
theorem d_Automaton_addState_42 : decode b_Automaton_addState 42 = .ok (.iload_n 1, 1) := by decide +kernel
theorem d_Automaton_addState_43 : decode b_Automaton_addState 43 = .ok (.iaload, 1) := by decide +kernel
theorem d_Automaton_addState_44 : decode b_Automaton_addState 44 = .ok (.aaload, 1) := by decide +kernel
theorem d_Automaton_addState_45 : decode b_Automaton_addState 45 = .ok (.getfield 70, 3) := by decide +kernel
theorem d_Automaton_addState_48 : decode b_Automaton_addState 48 = .ok (.aload_n 0, 1) := by decide +kernel
theorem d_Automaton_addState_49 : decode b_Automaton_addState 49 = .ok (.getfield 25, 3) := by decide +kernel
theorem d_Automaton_addState_52 : decode b_Automaton_addState 52 = .ok (.iload_n 1, 1) := by decide +kernel
theorem d_Automaton_addState_53 : decode b_Automaton_addState 53 = .ok (.iaload, 1) := by decide +kernel
theorem d_Automaton_addState_54 : decode b_Automaton_addState 54 = .ok (.if_icmp .ne 13, 3) := by decide +kernel
theorem d_Automaton_addState_57 : decode b_Automaton_addState 57 = .ok (.aload_n 0, 1) := by decide +kernel
theorem d_Automaton_addState_58 : decode b_Automaton_addState 58 = .ok (.dup, 1) := by decide +kernel
theorem d_Automaton_addState_59 : decode b_Automaton_addState 59 = .ok (.getfield 89, 3) := by decide +kernel
theorem d_Automaton_addState_62 : decode b_Automaton_addState 62 = .ok (.iconst 1, 1) := by decide +kernel
theorem d_Automaton_addState_63 : decode b_Automaton_addState 63 = .ok (.iadd, 1) := by decide +kernel
theorem d_Automaton_addState_64 : decode b_Automaton_addState 64 = .ok (.putfield 89, 3) := by decide +kernel
theorem d_Automaton_addState_67 : decode b_Automaton_addState 67 = .ok (.return_, 1) := by decide +kernel
theorem d_Automaton_countFollowing_0 : decode b_Automaton_countFollowing 0 = .ok (.aload_n 0, 1) := by decide +kernel
theorem d_Automaton_countFollowing_1 : decode b_Automaton_countFollowing 1 = .ok (.getfield 25, 3) := by decide +kernel
theorem d_Automaton_countFollowing_4 : decode b_Automaton_countFollowing 4 = .ok (.iload_n 1, 1) := by decide +kernel
theorem d_Automaton_countFollowing_5 : decode b_Automaton_countFollowing 5 = .ok (.iaload, 1) := by decide +kernel
theorem d_Automaton_countFollowing_6 : decode b_Automaton_countFollowing 6 = .ok (.istore_n 2, 1) := by decide +kernel
theorem d_Automaton_countFollowing_7 : decode b_Automaton_countFollowing 7 = .ok (.iconst 0, 1) := by decide +kernel
theorem d_Automaton_countFollowing_8 : decode b_Automaton_countFollowing 8 = .ok (.istore_n 3, 1) := by decide +kernel
theorem d_Automaton_countFollowing_9 : decode b_Automaton_countFollowing 9 = .ok (.iconst (-1), 1) := by decide +kernel
theorem d_Automaton_countFollowing_10 : decode b_Automaton_countFollowing 10 = .ok (.istore 4, 2) := by decide +kernel
theorem d_Automaton_countFollowing_12 : decode b_Automaton_countFollowing 12 = .ok (.aload_n 0, 1) := by decide +kernel
theorem d_Automaton_countFollowing_13 : decode b_Automaton_countFollowing 13 = .ok (.getfield 18, 3) := by decide +kernel
theorem d_Automaton_countFollowing_16 : decode b_Automaton_countFollowing 16 = .ok (.iload_n 1, 1) := by decide +kernel
theorem d_Automaton_countFollowing_17 : decode b_Automaton_countFollowing 17 = .ok (.iaload, 1) := by decide +kernel
theorem d_Automaton_countFollowing_18 : decode b_Automaton_countFollowing 18 = .ok (.istore 5, 2) := by decide +kernel
theorem d_Automaton_countFollowing_20 : decode b_Automaton_countFollowing 20 = .ok (.iload 5, 2) := by decide +kernel
theorem d_Automaton_countFollowing_22 : decode b_Automaton_countFollowing 22 = .ok (.aload_n 0, 1) := by decide +kernel
theorem d_Automaton_countFollowing_23 : decode b_Automaton_countFollowing 23 = .ok (.getfield 22, 3) := by decide +kernel
theorem d_Automaton_countFollowing_26 : decode b_Automaton_countFollowing 26 = .ok (.iload_n 1, 1) := by decide +kernel
theorem d_Automaton_countFollowing_27 : decode b_Automaton_countFollowing 27 = .ok (.iaload, 1) := by decide +kernel
theorem d_Automaton_countFollowing_28 : decode b_Automaton_countFollowing 28 = .ok (.if_icmp .ge 57, 3) := by decide +kernel
theorem d_Automaton_countFollowing_31 : decode b_Automaton_countFollowing 31 = .ok (.aload_n 0, 1) := by decide +kernel
theorem d_Automaton_countFollowing_32 : decode b_Automaton_countFollowing 32 = .ok (.getfield 11, 3) := by decide +kernel
theorem d_Automaton_countFollowing_35 : decode b_Automaton_countFollowing 35 = .ok (.iload 5, 2) := by decide +kernel
theorem d_Automaton_countFollowing_37 : decode b_Automaton_countFollowing 37 = .ok (.aaload, 1) := by decide +kernel
theorem d_Automaton_countFollowing_38 : decode b_Automaton_countFollowing 38 = .ok (.getfield 70, 3) := by decide +kernel
theorem d_Automaton_countFollowing_41 : decode b_Automaton_countFollowing 41 = .ok (.iload_n 2, 1) := by decide +kernel
theorem d_Automaton_countFollowing_42 : decode b_Automaton_countFollowing 42 = .ok (.if_icmp .le 37, 3) := by decide +kernel
theorem d_Automaton_countFollowing_45 : decode b_Automaton_countFollowing 45 = .ok (.aload_n 0, 1) := by decide +kernel
theorem d_Automaton_countFollowing_46 : decode b_Automaton_countFollowing 46 = .ok (.getfield 11, 3) := by decide +kernel
theorem d_Automaton_countFollowing_49 : decode b_Automaton_countFollowing 49 = .ok (.iload 5, 2) := by decide +kernel
theorem d_Automaton_countFollowing_51 : decode b_Automaton_countFollowing 51 = .ok (.aaload, 1) := by decide +kernel
theorem d_Automaton_countFollowing_52 : decode b_Automaton_countFollowing 52 = .ok (.getfield 111, 3) := by decide +kernel
theorem d_Automaton_countFollowing_55 : decode b_Automaton_countFollowing 55 = .ok (.iload_n 2, 1) := by decide +kernel
theorem d_Automaton_countFollowing_56 : decode b_Automaton_countFollowing 56 = .ok (.iaload, 1) := by decide +kernel
theorem d_Automaton_countFollowing_57 : decode b_Automaton_countFollowing 57 = .ok (.iload 4, 2) := by decide +kernel
theorem d_Automaton_countFollowing_59 : decode b_Automaton_countFollowing 59 = .ok (.if_icmp .eq 20, 3) := by decide +kernel
theorem d_Automaton_countFollowing_62 : decode b_Automaton_countFollowing 62 = .ok (.aload_n 0, 1) := by decide +kernel
theorem d_Automaton_countFollowing_63 : decode b_Automaton_countFollowing 63 = .ok (.getfield 11, 3) := by decide +kernel
theorem d_Automaton_countFollowing_66 : decode b_Automaton_countFollowing 66 = .ok (.iload 5, 2) := by decide +kernel
theorem d_Automaton_countFollowing_68 : decode b_Automaton_countFollowing 68 = .ok (.aaload, 1) := by decide +kernel
theorem d_Automaton_countFollowing_69 : decode b_Automaton_countFollowing 69 = .ok (.getfield 111, 3) := by decide +kernel
theorem d_Automaton_countFollowing_72 : decode b_Automaton_countFollowing 72 = .ok (.iload_n 2, 1) := by decide +kernel
theorem d_Automaton_countFollowing_73 : decode b_Automaton_countFollowing 73 = .ok (.iaload, 1) := by decide +kernel
theorem d_Automaton_countFollowing_74 : decode b_Automaton_countFollowing 74 = .ok (.istore 4, 2) := by decide +kernel
theorem d_Automaton_countFollowing_76 : decode b_Automaton_countFollowing 76 = .ok (.iinc 3 1, 3) := by decide +kernel
theorem d_Automaton_countFollowing_79 : decode b_Automaton_countFollowing 79 = .ok (.iinc 5 1, 3) := by decide +kernel
theorem d_Automaton_countFollowing_82 : decode b_Automaton_countFollowing 82 = .ok (.goto (-62), 3) := by decide +kernel
theorem d_Automaton_countFollowing_85 : decode b_Automaton_countFollowing 85 = .ok (.iload_n 3, 1) := by decide +kernel
theorem d_Automaton_countFollowing_86 : decode b_Automaton_countFollowing 86 = .ok (.ireturn, 1) := by decide +kernel
theorem d_Automaton_reach_0 : decode b_Automaton_reach 0 = .ok (.iconst (-1), 1) := by decide +kernel
theorem d_Automaton_reach_1 : decode b_Automaton_reach 1 = .ok (.istore_n 2, 1) := by decide +kernel
theorem d_Automaton_reach_2 : decode b_Automaton_reach 2 = .ok (.iconst 0, 1) := by decide +kernel
theorem d_Automaton_reach_3 : decode b_Automaton_reach 3 = .ok (.istore_n 3, 1) := by decide +kernel
theorem d_Automaton_reach_4 : decode b_Automaton_reach 4 = .ok (.iload_n 3, 1) := by decide +kernel
theorem d_Automaton_reach_5 : decode b_Automaton_reach 5 = .ok (.aload_n 0, 1) := by decide +kernel
theorem d_Automaton_reach_6 : decode b_Automaton_reach 6 = .ok (.getfield 40, 3) := by decide +kernel
theorem d_Automaton_reach_9 : decode b_Automaton_reach 9 = .ok (.if_icmp .ge 24, 3) := by decide +kernel
theorem d_Automaton_reach_12 : decode b_Automaton_reach 12 = .ok (.iload_n 2, 1) := by decide +kernel
theorem d_Automaton_reach_13 : decode b_Automaton_reach 13 = .ok (.aload_n 0, 1) := by decide +kernel
theorem d_Automaton_reach_14 : decode b_Automaton_reach 14 = .ok (.getfield 11, 3) := by decide +kernel
theorem d_Automaton_reach_17 : decode b_Automaton_reach 17 = .ok (.iload_n 3, 1) := by decide +kernel
theorem d_Automaton_reach_18 : decode b_Automaton_reach 18 = .ok (.aaload, 1) := by decide +kernel
theorem d_Automaton_reach_19 : decode b_Automaton_reach 19 = .ok (.aload_n 1, 1) := by decide +kernel
theorem d_Automaton_reach_20 : decode b_Automaton_reach 20 = .ok (.invokevirtual 66, 3) := by decide +kernel
theorem d_Automaton_reach_23 : decode b_Automaton_reach 23 = .ok (.invokestatic 77, 3) := by decide +kernel
theorem d_Automaton_reach_26 : decode b_Automaton_reach 26 = .ok (.istore_n 2, 1) := by decide +kernel
theorem d_Automaton_reach_27 : decode b_Automaton_reach 27 = .ok (.iinc 3 1, 3) := by decide +kernel
theorem d_Automaton_reach_30 : decode b_Automaton_reach 30 = .ok (.goto (-26), 3) := by decide +kernel
theorem d_Automaton_reach_33 : decode b_Automaton_reach 33 = .ok (.iload_n 2, 1) := by decide +kernel
theorem d_Automaton_reach_34 : decode b_Automaton_reach 34 = .ok (.ireturn, 1) := by decide +kernel
theorem d_Automaton_accepts_0 : decode b_Automaton_accepts 0 = .ok (.iconst 0, 1) := by decide +kernel
theorem d_Automaton_accepts_1 : decode b_Automaton_accepts 1 = .ok (.istore_n 2, 1) := by decide +kernel
theorem d_Automaton_accepts_2 : decode b_Automaton_accepts 2 = .ok (.iload_n 2, 1) := by decide +kernel
theorem d_Automaton_accepts_3 : decode b_Automaton_accepts 3 = .ok (.aload_n 0, 1) := by decide +kernel
theorem d_Automaton_accepts_4 : decode b_Automaton_accepts 4 = .ok (.getfield 40, 3) := by decide +kernel
theorem d_Automaton_accepts_7 : decode b_Automaton_accepts 7 = .ok (.if_icmp .ge 24, 3) := by decide +kernel
theorem d_Automaton_accepts_10 : decode b_Automaton_accepts 10 = .ok (.aload_n 0, 1) := by decide +kernel
theorem d_Automaton_accepts_11 : decode b_Automaton_accepts 11 = .ok (.getfield 11, 3) := by decide +kernel
theorem d_Automaton_accepts_14 : decode b_Automaton_accepts 14 = .ok (.iload_n 2, 1) := by decide +kernel
theorem d_Automaton_accepts_15 : decode b_Automaton_accepts 15 = .ok (.aaload, 1) := by decide +kernel
theorem d_Automaton_accepts_16 : decode b_Automaton_accepts 16 = .ok (.aload_n 1, 1) := by decide +kernel
theorem d_Automaton_accepts_17 : decode b_Automaton_accepts 17 = .ok (.invokevirtual 114, 3) := by decide +kernel
theorem d_Automaton_accepts_20 : decode b_Automaton_accepts 20 = .ok (.ifCond .ne 5, 3) := by decide +kernel
theorem d_Automaton_accepts_23 : decode b_Automaton_accepts 23 = .ok (.iconst 1, 1) := by decide +kernel
theorem d_Automaton_accepts_24 : decode b_Automaton_accepts 24 = .ok (.ireturn, 1) := by decide +kernel
theorem d_Automaton_accepts_25 : decode b_Automaton_accepts 25 = .ok (.iinc 2 1, 3) := by decide +kernel
theorem d_Automaton_accepts_28 : decode b_Automaton_accepts 28 = .ok (.goto (-26), 3) := by decide +kernel
theorem d_Automaton_accepts_31 : decode b_Automaton_accepts 31 = .ok (.iconst 0, 1) := by decide +kernel
theorem d_Automaton_accepts_32 : decode b_Automaton_accepts 32 = .ok (.ireturn, 1) := by decide +kernel
theorem d_EditedText_init_0 : decode b_EditedText_init 0 = .ok (.aload_n 0, 1) := by decide +kernel
theorem d_EditedText_init_1 : decode b_EditedText_init 1 = .ok (.invokespecial 3, 3) := by decide +kernel
theorem d_EditedText_init_4 : decode b_EditedText_init 4 = .ok (.aload_n 0, 1) := by decide +kernel
theorem d_EditedText_init_5 : decode b_EditedText_init 5 = .ok (.bipush 120, 2) := by decide +kernel
theorem d_EditedText_init_7 : decode b_EditedText_init 7 = .ok (.newarray .int, 2) := by decide +kernel
theorem d_EditedText_init_9 : decode b_EditedText_init 9 = .ok (.putfield 9, 3) := by decide +kernel
theorem d_EditedText_init_12 : decode b_EditedText_init 12 = .ok (.aload_n 0, 1) := by decide +kernel
theorem d_EditedText_init_13 : decode b_EditedText_init 13 = .ok (.new 15, 3) := by decide +kernel
theorem d_EditedText_init_16 : decode b_EditedText_init 16 = .ok (.dup, 1) := by decide +kernel
theorem d_EditedText_init_17 : decode b_EditedText_init 17 = .ok (.invokespecial 17, 3) := by decide +kernel
theorem d_EditedText_init_20 : decode b_EditedText_init 20 = .ok (.putfield 18, 3) := by decide +kernel
theorem d_EditedText_init_23 : decode b_EditedText_init 23 = .ok (.aload_n 0, 1) := by decide +kernel
theorem d_EditedText_init_24 : decode b_EditedText_init 24 = .ok (.new 22, 3) := by decide +kernel
theorem d_EditedText_init_27 : decode b_EditedText_init 27 = .ok (.dup, 1) := by decide +kernel
theorem d_EditedText_init_28 : decode b_EditedText_init 28 = .ok (.invokespecial 24, 3) := by decide +kernel
theorem d_EditedText_init_31 : decode b_EditedText_init 31 = .ok (.putfield 25, 3) := by decide +kernel
theorem d_EditedText_init_34 : decode b_EditedText_init 34 = .ok (.return_, 1) := by decide +kernel
theorem d_EditedText_open_0 : decode b_EditedText_open 0 = .ok (.aload_n 0, 1) := by decide +kernel
theorem d_EditedText_open_1 : decode b_EditedText_open 1 = .ok (.getfield 18, 3) := by decide +kernel
theorem d_EditedText_open_4 : decode b_EditedText_open 4 = .ok (.aload_n 0, 1) := by decide +kernel
theorem d_EditedText_open_5 : decode b_EditedText_open 5 = .ok (.getfield 9, 3) := by decide +kernel
theorem d_EditedText_open_8 : decode b_EditedText_open 8 = .ok (.aload_n 0, 1) := by decide +kernel
theorem d_EditedText_open_9 : decode b_EditedText_open 9 = .ok (.getfield 29, 3) := by decide +kernel
theorem d_EditedText_open_12 : decode b_EditedText_open 12 = .ok (.invokevirtual 33, 3) := by decide +kernel
theorem d_EditedText_open_15 : decode b_EditedText_open 15 = .ok (.aload_n 0, 1) := by decide +kernel
theorem d_EditedText_open_16 : decode b_EditedText_open 16 = .ok (.getfield 9, 3) := by decide +kernel
theorem d_EditedText_open_19 : decode b_EditedText_open 19 = .ok (.iload_n 1, 1) := by decide +kernel
theorem d_EditedText_open_20 : decode b_EditedText_open 20 = .ok (.aload_n 0, 1) := by decide +kernel
theorem d_EditedText_open_21 : decode b_EditedText_open 21 = .ok (.getfield 9, 3) := by decide +kernel
theorem d_EditedText_open_24 : decode b_EditedText_open 24 = .ok (.iload_n 1, 1) := by decide +kernel
theorem d_EditedText_open_25 : decode b_EditedText_open 25 = .ok (.aload_n 2, 1) := by decide +kernel
theorem d_EditedText_open_26 : decode b_EditedText_open 26 = .ok (.getfield 37, 3) := by decide +kernel
theorem d_EditedText_open_29 : decode b_EditedText_open 29 = .ok (.iadd, 1) := by decide +kernel
theorem d_EditedText_open_30 : decode b_EditedText_open 30 = .ok (.aload_n 0, 1) := by decide +kernel
theorem d_EditedText_open_31 : decode b_EditedText_open 31 = .ok (.getfield 29, 3) := by decide +kernel
theorem d_EditedText_open_34 : decode b_EditedText_open 34 = .ok (.iload_n 1, 1) := by decide +kernel
theorem d_EditedText_open_35 : decode b_EditedText_open 35 = .ok (.isub, 1) := by decide +kernel
theorem d_EditedText_open_36 : decode b_EditedText_open 36 = .ok (.invokestatic 40, 3) := by decide +kernel
theorem d_EditedText_open_39 : decode b_EditedText_open 39 = .ok (.aload_n 2, 1) := by decide +kernel
theorem d_EditedText_open_40 : decode b_EditedText_open 40 = .ok (.getfield 46, 3) := by decide +kernel
theorem d_EditedText_open_43 : decode b_EditedText_open 43 = .ok (.iconst 0, 1) := by decide +kernel
theorem d_EditedText_open_44 : decode b_EditedText_open 44 = .ok (.aload_n 0, 1) := by decide +kernel
theorem d_EditedText_open_45 : decode b_EditedText_open 45 = .ok (.getfield 9, 3) := by decide +kernel
theorem d_EditedText_open_48 : decode b_EditedText_open 48 = .ok (.iload_n 1, 1) := by decide +kernel
theorem d_EditedText_open_49 : decode b_EditedText_open 49 = .ok (.aload_n 2, 1) := by decide +kernel
theorem d_EditedText_open_50 : decode b_EditedText_open 50 = .ok (.getfield 37, 3) := by decide +kernel
theorem d_EditedText_open_53 : decode b_EditedText_open 53 = .ok (.invokestatic 40, 3) := by decide +kernel
theorem d_EditedText_open_56 : decode b_EditedText_open 56 = .ok (.aload_n 0, 1) := by decide +kernel
theorem d_EditedText_open_57 : decode b_EditedText_open 57 = .ok (.dup, 1) := by decide +kernel
theorem d_EditedText_open_58 : decode b_EditedText_open 58 = .ok (.getfield 29, 3) := by decide +kernel
theorem d_EditedText_open_61 : decode b_EditedText_open 61 = .ok (.aload_n 2, 1) := by decide +kernel
theorem d_EditedText_open_62 : decode b_EditedText_open 62 = .ok (.getfield 37, 3) := by decide +kernel
theorem d_EditedText_open_65 : decode b_EditedText_open 65 = .ok (.iadd, 1) := by decide +kernel
theorem d_EditedText_open_66 : decode b_EditedText_open 66 = .ok (.putfield 29, 3) := by decide +kernel
theorem d_EditedText_open_69 : decode b_EditedText_open 69 = .ok (.aload_n 0, 1) := by decide +kernel
theorem d_EditedText_open_70 : decode b_EditedText_open 70 = .ok (.iconst 0, 1) := by decide +kernel
theorem d_EditedText_open_71 : decode b_EditedText_open 71 = .ok (.putfield 47, 3) := by decide +kernel
theorem d_EditedText_open_74 : decode b_EditedText_open 74 = .ok (.return_, 1) := by decide +kernel
theorem d_EditedText_close_0 : decode b_EditedText_close 0 = .ok (.aload_n 0, 1) := by decide +kernel
theorem d_EditedText_close_1 : decode b_EditedText_close 1 = .ok (.getfield 18, 3) := by decide +kernel
theorem d_EditedText_close_4 : decode b_EditedText_close 4 = .ok (.aload_n 0, 1) := by decide +kernel
theorem d_EditedText_close_5 : decode b_EditedText_close 5 = .ok (.getfield 9, 3) := by decide +kernel
theorem d_EditedText_close_8 : decode b_EditedText_close 8 = .ok (.aload_n 0, 1) := by decide +kernel
theorem d_EditedText_close_9 : decode b_EditedText_close 9 = .ok (.getfield 29, 3) := by decide +kernel
theorem d_EditedText_close_12 : decode b_EditedText_close 12 = .ok (.invokevirtual 33, 3) := by decide +kernel
theorem d_EditedText_close_15 : decode b_EditedText_close 15 = .ok (.aload_n 0, 1) := by decide +kernel
theorem d_EditedText_close_16 : decode b_EditedText_close 16 = .ok (.getfield 9, 3) := by decide +kernel
theorem d_EditedText_close_19 : decode b_EditedText_close 19 = .ok (.iload_n 2, 1) := by decide +kernel
theorem d_EditedText_close_20 : decode b_EditedText_close 20 = .ok (.aload_n 0, 1) := by decide +kernel
theorem d_EditedText_close_21 : decode b_EditedText_close 21 = .ok (.getfield 9, 3) := by decide +kernel
theorem d_EditedText_close_24 : decode b_EditedText_close 24 = .ok (.iload_n 1, 1) := by decide +kernel
theorem d_EditedText_close_25 : decode b_EditedText_close 25 = .ok (.aload_n 0, 1) := by decide +kernel
theorem d_EditedText_close_26 : decode b_EditedText_close 26 = .ok (.getfield 29, 3) := by decide +kernel
theorem d_EditedText_close_29 : decode b_EditedText_close 29 = .ok (.iload_n 2, 1) := by decide +kernel
theorem d_EditedText_close_30 : decode b_EditedText_close 30 = .ok (.isub, 1) := by decide +kernel
theorem d_EditedText_close_31 : decode b_EditedText_close 31 = .ok (.invokestatic 40, 3) := by decide +kernel
theorem d_EditedText_close_34 : decode b_EditedText_close 34 = .ok (.aload_n 0, 1) := by decide +kernel
theorem d_EditedText_close_35 : decode b_EditedText_close 35 = .ok (.dup, 1) := by decide +kernel
theorem d_EditedText_close_36 : decode b_EditedText_close 36 = .ok (.getfield 29, 3) := by decide +kernel
theorem d_EditedText_close_39 : decode b_EditedText_close 39 = .ok (.iload_n 2, 1) := by decide +kernel
theorem d_EditedText_close_40 : decode b_EditedText_close 40 = .ok (.iload_n 1, 1) := by decide +kernel
theorem d_EditedText_close_41 : decode b_EditedText_close 41 = .ok (.isub, 1) := by decide +kernel
theorem d_EditedText_close_42 : decode b_EditedText_close 42 = .ok (.isub, 1) := by decide +kernel
theorem d_EditedText_close_43 : decode b_EditedText_close 43 = .ok (.putfield 29, 3) := by decide +kernel
theorem d_EditedText_close_46 : decode b_EditedText_close 46 = .ok (.aload_n 0, 1) := by decide +kernel
theorem d_EditedText_close_47 : decode b_EditedText_close 47 = .ok (.iconst 0, 1) := by decide +kernel
theorem d_EditedText_close_48 : decode b_EditedText_close 48 = .ok (.putfield 47, 3) := by decide +kernel
theorem d_EditedText_close_51 : decode b_EditedText_close 51 = .ok (.return_, 1) := by decide +kernel
theorem d_EditedText_takeBack_0 : decode b_EditedText_takeBack 0 = .ok (.aload_n 0, 1) := by decide +kernel
theorem d_EditedText_takeBack_1 : decode b_EditedText_takeBack 1 = .ok (.getfield 18, 3) := by decide +kernel
theorem d_EditedText_takeBack_4 : decode b_EditedText_takeBack 4 = .ok (.getfield 51, 3) := by decide +kernel
theorem d_EditedText_takeBack_7 : decode b_EditedText_takeBack 7 = .ok (.ifCond .ne 5, 3) := by decide +kernel
theorem d_EditedText_takeBack_10 : decode b_EditedText_takeBack 10 = .ok (.iconst 0, 1) := by decide +kernel
theorem d_EditedText_takeBack_11 : decode b_EditedText_takeBack 11 = .ok (.ireturn, 1) := by decide +kernel
theorem d_EditedText_takeBack_12 : decode b_EditedText_takeBack 12 = .ok (.aload_n 0, 1) := by decide +kernel
theorem d_EditedText_takeBack_13 : decode b_EditedText_takeBack 13 = .ok (.aload_n 0, 1) := by decide +kernel
theorem d_EditedText_takeBack_14 : decode b_EditedText_takeBack 14 = .ok (.getfield 18, 3) := by decide +kernel
theorem d_EditedText_takeBack_17 : decode b_EditedText_takeBack 17 = .ok (.aload_n 0, 1) := by decide +kernel
theorem d_EditedText_takeBack_18 : decode b_EditedText_takeBack 18 = .ok (.getfield 9, 3) := by decide +kernel
theorem d_EditedText_takeBack_21 : decode b_EditedText_takeBack 21 = .ok (.invokevirtual 54, 3) := by decide +kernel
theorem d_EditedText_takeBack_24 : decode b_EditedText_takeBack 24 = .ok (.putfield 29, 3) := by decide +kernel
theorem d_EditedText_takeBack_27 : decode b_EditedText_takeBack 27 = .ok (.aload_n 0, 1) := by decide +kernel
theorem d_EditedText_takeBack_28 : decode b_EditedText_takeBack 28 = .ok (.iconst 0, 1) := by decide +kernel
theorem d_EditedText_takeBack_29 : decode b_EditedText_takeBack 29 = .ok (.putfield 47, 3) := by decide +kernel
theorem d_EditedText_takeBack_32 : decode b_EditedText_takeBack 32 = .ok (.iconst 1, 1) := by decide +kernel
theorem d_EditedText_takeBack_33 : decode b_EditedText_takeBack 33 = .ok (.ireturn, 1) := by decide +kernel
theorem d_EditedText_hash_0 : decode b_EditedText_hash 0 = .ok (.iconst 0, 1) := by decide +kernel
theorem d_EditedText_hash_1 : decode b_EditedText_hash 1 = .ok (.istore_n 1, 1) := by decide +kernel
theorem d_EditedText_hash_2 : decode b_EditedText_hash 2 = .ok (.iconst 0, 1) := by decide +kernel
theorem d_EditedText_hash_3 : decode b_EditedText_hash 3 = .ok (.istore_n 2, 1) := by decide +kernel
theorem d_EditedText_hash_4 : decode b_EditedText_hash 4 = .ok (.iload_n 2, 1) := by decide +kernel
theorem d_EditedText_hash_5 : decode b_EditedText_hash 5 = .ok (.aload_n 0, 1) := by decide +kernel
theorem d_EditedText_hash_6 : decode b_EditedText_hash 6 = .ok (.getfield 29, 3) := by decide +kernel
theorem d_EditedText_hash_9 : decode b_EditedText_hash 9 = .ok (.if_icmp .ge 21, 3) := by decide +kernel
theorem d_EditedText_hash_12 : decode b_EditedText_hash 12 = .ok (.bipush 31, 2) := by decide +kernel
theorem d_EditedText_hash_14 : decode b_EditedText_hash 14 = .ok (.iload_n 1, 1) := by decide +kernel
theorem d_EditedText_hash_15 : decode b_EditedText_hash 15 = .ok (.imul, 1) := by decide +kernel
theorem d_EditedText_hash_16 : decode b_EditedText_hash 16 = .ok (.aload_n 0, 1) := by decide +kernel
theorem d_EditedText_hash_17 : decode b_EditedText_hash 17 = .ok (.getfield 9, 3) := by decide +kernel
theorem d_EditedText_hash_20 : decode b_EditedText_hash 20 = .ok (.iload_n 2, 1) := by decide +kernel
theorem d_EditedText_hash_21 : decode b_EditedText_hash 21 = .ok (.iaload, 1) := by decide +kernel
theorem d_EditedText_hash_22 : decode b_EditedText_hash 22 = .ok (.iadd, 1) := by decide +kernel
theorem d_EditedText_hash_23 : decode b_EditedText_hash 23 = .ok (.istore_n 1, 1) := by decide +kernel
theorem d_EditedText_hash_24 : decode b_EditedText_hash 24 = .ok (.iinc 2 1, 3) := by decide +kernel
theorem d_EditedText_hash_27 : decode b_EditedText_hash 27 = .ok (.goto (-23), 3) := by decide +kernel
theorem d_EditedText_hash_30 : decode b_EditedText_hash 30 = .ok (.iload_n 1, 1) := by decide +kernel
theorem d_EditedText_hash_31 : decode b_EditedText_hash 31 = .ok (.ireturn, 1) := by decide +kernel
theorem d_EditedText_sortedSuffixes_0 : decode b_EditedText_sortedSuffixes 0 = .ok (.aload_n 0, 1) := by decide +kernel
theorem d_EditedText_sortedSuffixes_1 : decode b_EditedText_sortedSuffixes 1 = .ok (.getfield 47, 3) := by decide +kernel
theorem d_EditedText_sortedSuffixes_4 : decode b_EditedText_sortedSuffixes 4 = .ok (.ifCond .ne 23, 3) := by decide +kernel
theorem d_EditedText_sortedSuffixes_7 : decode b_EditedText_sortedSuffixes 7 = .ok (.aload_n 0, 1) := by decide +kernel
theorem d_EditedText_sortedSuffixes_8 : decode b_EditedText_sortedSuffixes 8 = .ok (.getfield 25, 3) := by decide +kernel
theorem d_EditedText_sortedSuffixes_11 : decode b_EditedText_sortedSuffixes 11 = .ok (.aload_n 0, 1) := by decide +kernel
theorem d_EditedText_sortedSuffixes_12 : decode b_EditedText_sortedSuffixes 12 = .ok (.getfield 9, 3) := by decide +kernel
theorem d_EditedText_sortedSuffixes_15 : decode b_EditedText_sortedSuffixes 15 = .ok (.aload_n 0, 1) := by decide +kernel
theorem d_EditedText_sortedSuffixes_16 : decode b_EditedText_sortedSuffixes 16 = .ok (.getfield 29, 3) := by decide +kernel
theorem d_EditedText_sortedSuffixes_19 : decode b_EditedText_sortedSuffixes 19 = .ok (.invokevirtual 58, 3) := by decide +kernel
theorem d_EditedText_sortedSuffixes_22 : decode b_EditedText_sortedSuffixes 22 = .ok (.aload_n 0, 1) := by decide +kernel
theorem d_EditedText_sortedSuffixes_23 : decode b_EditedText_sortedSuffixes 23 = .ok (.iconst 1, 1) := by decide +kernel
theorem d_EditedText_sortedSuffixes_24 : decode b_EditedText_sortedSuffixes 24 = .ok (.putfield 47, 3) := by decide +kernel
theorem d_EditedText_sortedSuffixes_27 : decode b_EditedText_sortedSuffixes 27 = .ok (.aload_n 0, 1) := by decide +kernel
theorem d_EditedText_sortedSuffixes_28 : decode b_EditedText_sortedSuffixes 28 = .ok (.getfield 25, 3) := by decide +kernel
theorem d_EditedText_sortedSuffixes_31 : decode b_EditedText_sortedSuffixes 31 = .ok (.areturn, 1) := by decide +kernel
theorem d_EditedText_sharedWithSuffixBefore_0 : decode b_EditedText_sharedWithSuffixBefore 0 = .ok (.iload_n 1, 1) := by decide +kernel
theorem d_EditedText_sharedWithSuffixBefore_1 : decode b_EditedText_sharedWithSuffixBefore 1 = .ok (.ifCond .ne 5, 3) := by decide +kernel
theorem d_EditedText_sharedWithSuffixBefore_4 : decode b_EditedText_sharedWithSuffixBefore 4 = .ok (.iconst 0, 1) := by decide +kernel
theorem d_EditedText_sharedWithSuffixBefore_5 : decode b_EditedText_sharedWithSuffixBefore 5 = .ok (.ireturn, 1) := by decide +kernel
theorem d_EditedText_sharedWithSuffixBefore_6 : decode b_EditedText_sharedWithSuffixBefore 6 = .ok (.aload_n 0, 1) := by decide +kernel
theorem d_EditedText_sharedWithSuffixBefore_7 : decode b_EditedText_sharedWithSuffixBefore 7 = .ok (.invokevirtual 61, 3) := by decide +kernel
theorem d_EditedText_sharedWithSuffixBefore_10 : decode b_EditedText_sharedWithSuffixBefore 10 = .ok (.getfield 65, 3) := by decide +kernel
theorem d_EditedText_sharedWithSuffixBefore_13 : decode b_EditedText_sharedWithSuffixBefore 13 = .ok (.astore_n 2, 1) := by decide +kernel
theorem d_EditedText_sharedWithSuffixBefore_14 : decode b_EditedText_sharedWithSuffixBefore 14 = .ok (.aload_n 2, 1) := by decide +kernel
theorem d_EditedText_sharedWithSuffixBefore_15 : decode b_EditedText_sharedWithSuffixBefore 15 = .ok (.iload_n 1, 1) := by decide +kernel
theorem d_EditedText_sharedWithSuffixBefore_16 : decode b_EditedText_sharedWithSuffixBefore 16 = .ok (.iaload, 1) := by decide +kernel
theorem d_EditedText_sharedWithSuffixBefore_17 : decode b_EditedText_sharedWithSuffixBefore 17 = .ok (.istore_n 3, 1) := by decide +kernel
theorem d_EditedText_sharedWithSuffixBefore_18 : decode b_EditedText_sharedWithSuffixBefore 18 = .ok (.aload_n 2, 1) := by decide +kernel
theorem d_EditedText_sharedWithSuffixBefore_19 : decode b_EditedText_sharedWithSuffixBefore 19 = .ok (.iload_n 1, 1) := by decide +kernel
theorem d_EditedText_sharedWithSuffixBefore_20 : decode b_EditedText_sharedWithSuffixBefore 20 = .ok (.iconst 1, 1) := by decide +kernel
theorem d_EditedText_sharedWithSuffixBefore_21 : decode b_EditedText_sharedWithSuffixBefore 21 = .ok (.isub, 1) := by decide +kernel
theorem d_EditedText_sharedWithSuffixBefore_22 : decode b_EditedText_sharedWithSuffixBefore 22 = .ok (.iaload, 1) := by decide +kernel
theorem d_EditedText_sharedWithSuffixBefore_23 : decode b_EditedText_sharedWithSuffixBefore 23 = .ok (.istore 4, 2) := by decide +kernel
theorem d_EditedText_sharedWithSuffixBefore_25 : decode b_EditedText_sharedWithSuffixBefore 25 = .ok (.iconst 0, 1) := by decide +kernel
theorem d_EditedText_sharedWithSuffixBefore_26 : decode b_EditedText_sharedWithSuffixBefore 26 = .ok (.istore 5, 2) := by decide +kernel
theorem d_EditedText_sharedWithSuffixBefore_28 : decode b_EditedText_sharedWithSuffixBefore 28 = .ok (.iload_n 3, 1) := by decide +kernel
theorem d_EditedText_sharedWithSuffixBefore_29 : decode b_EditedText_sharedWithSuffixBefore 29 = .ok (.iload 5, 2) := by decide +kernel
theorem d_EditedText_sharedWithSuffixBefore_31 : decode b_EditedText_sharedWithSuffixBefore 31 = .ok (.iadd, 1) := by decide +kernel
theorem d_EditedText_sharedWithSuffixBefore_32 : decode b_EditedText_sharedWithSuffixBefore 32 = .ok (.aload_n 0, 1) := by decide +kernel
theorem d_EditedText_sharedWithSuffixBefore_33 : decode b_EditedText_sharedWithSuffixBefore 33 = .ok (.getfield 29, 3) := by decide +kernel
theorem d_EditedText_sharedWithSuffixBefore_36 : decode b_EditedText_sharedWithSuffixBefore 36 = .ok (.if_icmp .ge 43, 3) := by decide +kernel
theorem d_EditedText_sharedWithSuffixBefore_39 : decode b_EditedText_sharedWithSuffixBefore 39 = .ok (.iload 4, 2) := by decide +kernel
theorem d_EditedText_sharedWithSuffixBefore_41 : decode b_EditedText_sharedWithSuffixBefore 41 = .ok (.iload 5, 2) := by decide +kernel
theorem d_EditedText_sharedWithSuffixBefore_43 : decode b_EditedText_sharedWithSuffixBefore 43 = .ok (.iadd, 1) := by decide +kernel
theorem d_EditedText_sharedWithSuffixBefore_44 : decode b_EditedText_sharedWithSuffixBefore 44 = .ok (.aload_n 0, 1) := by decide +kernel
theorem d_EditedText_sharedWithSuffixBefore_45 : decode b_EditedText_sharedWithSuffixBefore 45 = .ok (.getfield 29, 3) := by decide +kernel
theorem d_EditedText_sharedWithSuffixBefore_48 : decode b_EditedText_sharedWithSuffixBefore 48 = .ok (.if_icmp .ge 31, 3) := by decide +kernel
theorem d_EditedText_sharedWithSuffixBefore_51 : decode b_EditedText_sharedWithSuffixBefore 51 = .ok (.aload_n 0, 1) := by decide +kernel
theorem d_EditedText_sharedWithSuffixBefore_52 : decode b_EditedText_sharedWithSuffixBefore 52 = .ok (.getfield 9, 3) := by decide +kernel
theorem d_EditedText_sharedWithSuffixBefore_55 : decode b_EditedText_sharedWithSuffixBefore 55 = .ok (.iload_n 3, 1) := by decide +kernel
theorem d_EditedText_sharedWithSuffixBefore_56 : decode b_EditedText_sharedWithSuffixBefore 56 = .ok (.iload 5, 2) := by decide +kernel
theorem d_EditedText_sharedWithSuffixBefore_58 : decode b_EditedText_sharedWithSuffixBefore 58 = .ok (.iadd, 1) := by decide +kernel
theorem d_EditedText_sharedWithSuffixBefore_59 : decode b_EditedText_sharedWithSuffixBefore 59 = .ok (.iaload, 1) := by decide +kernel
theorem d_EditedText_sharedWithSuffixBefore_60 : decode b_EditedText_sharedWithSuffixBefore 60 = .ok (.aload_n 0, 1) := by decide +kernel
theorem d_EditedText_sharedWithSuffixBefore_61 : decode b_EditedText_sharedWithSuffixBefore 61 = .ok (.getfield 9, 3) := by decide +kernel
theorem d_EditedText_sharedWithSuffixBefore_64 : decode b_EditedText_sharedWithSuffixBefore 64 = .ok (.iload 4, 2) := by decide +kernel
theorem d_EditedText_sharedWithSuffixBefore_66 : decode b_EditedText_sharedWithSuffixBefore 66 = .ok (.iload 5, 2) := by decide +kernel
theorem d_EditedText_sharedWithSuffixBefore_68 : decode b_EditedText_sharedWithSuffixBefore 68 = .ok (.iadd, 1) := by decide +kernel
theorem d_EditedText_sharedWithSuffixBefore_69 : decode b_EditedText_sharedWithSuffixBefore 69 = .ok (.iaload, 1) := by decide +kernel
theorem d_EditedText_sharedWithSuffixBefore_70 : decode b_EditedText_sharedWithSuffixBefore 70 = .ok (.if_icmp .ne 9, 3) := by decide +kernel
theorem d_EditedText_sharedWithSuffixBefore_73 : decode b_EditedText_sharedWithSuffixBefore 73 = .ok (.iinc 5 1, 3) := by decide +kernel
theorem d_EditedText_sharedWithSuffixBefore_76 : decode b_EditedText_sharedWithSuffixBefore 76 = .ok (.goto (-48), 3) := by decide +kernel
theorem d_EditedText_sharedWithSuffixBefore_79 : decode b_EditedText_sharedWithSuffixBefore 79 = .ok (.iload 5, 2) := by decide +kernel
theorem d_EditedText_sharedWithSuffixBefore_81 : decode b_EditedText_sharedWithSuffixBefore 81 = .ok (.ireturn, 1) := by decide +kernel
theorem d_EditedText_standsAt_0 : decode b_EditedText_standsAt 0 = .ok (.aload_n 2, 1) := by decide +kernel
theorem d_EditedText_standsAt_1 : decode b_EditedText_standsAt 1 = .ok (.getfield 37, 3) := by decide +kernel
theorem d_EditedText_standsAt_4 : decode b_EditedText_standsAt 4 = .ok (.aload_n 0, 1) := by decide +kernel
theorem d_EditedText_standsAt_5 : decode b_EditedText_standsAt 5 = .ok (.getfield 29, 3) := by decide +kernel
theorem d_EditedText_standsAt_8 : decode b_EditedText_standsAt 8 = .ok (.iload_n 1, 1) := by decide +kernel
theorem d_EditedText_standsAt_9 : decode b_EditedText_standsAt 9 = .ok (.isub, 1) := by decide +kernel
theorem d_EditedText_standsAt_10 : decode b_EditedText_standsAt 10 = .ok (.if_icmp .le 5, 3) := by decide +kernel
theorem d_EditedText_standsAt_13 : decode b_EditedText_standsAt 13 = .ok (.iconst 0, 1) := by decide +kernel
theorem d_EditedText_standsAt_14 : decode b_EditedText_standsAt 14 = .ok (.ireturn, 1) := by decide +kernel
theorem d_EditedText_standsAt_15 : decode b_EditedText_standsAt 15 = .ok (.iconst 0, 1) := by decide +kernel
theorem d_EditedText_standsAt_16 : decode b_EditedText_standsAt 16 = .ok (.istore_n 3, 1) := by decide +kernel
theorem d_EditedText_standsAt_17 : decode b_EditedText_standsAt 17 = .ok (.iload_n 3, 1) := by decide +kernel
theorem d_EditedText_standsAt_18 : decode b_EditedText_standsAt 18 = .ok (.aload_n 2, 1) := by decide +kernel
theorem d_EditedText_standsAt_19 : decode b_EditedText_standsAt 19 = .ok (.getfield 37, 3) := by decide +kernel
theorem d_EditedText_standsAt_22 : decode b_EditedText_standsAt 22 = .ok (.if_icmp .ge 28, 3) := by decide +kernel
theorem d_EditedText_standsAt_25 : decode b_EditedText_standsAt 25 = .ok (.aload_n 0, 1) := by decide +kernel
theorem d_EditedText_standsAt_26 : decode b_EditedText_standsAt 26 = .ok (.getfield 9, 3) := by decide +kernel
theorem d_EditedText_standsAt_29 : decode b_EditedText_standsAt 29 = .ok (.iload_n 1, 1) := by decide +kernel
theorem d_EditedText_standsAt_30 : decode b_EditedText_standsAt 30 = .ok (.iload_n 3, 1) := by decide +kernel
theorem d_EditedText_standsAt_31 : decode b_EditedText_standsAt 31 = .ok (.iadd, 1) := by decide +kernel
theorem d_EditedText_standsAt_32 : decode b_EditedText_standsAt 32 = .ok (.iaload, 1) := by decide +kernel
theorem d_EditedText_standsAt_33 : decode b_EditedText_standsAt 33 = .ok (.aload_n 2, 1) := by decide +kernel
theorem d_EditedText_standsAt_34 : decode b_EditedText_standsAt 34 = .ok (.getfield 46, 3) := by decide +kernel
theorem d_EditedText_standsAt_37 : decode b_EditedText_standsAt 37 = .ok (.iload_n 3, 1) := by decide +kernel
theorem d_EditedText_standsAt_38 : decode b_EditedText_standsAt 38 = .ok (.iaload, 1) := by decide +kernel
theorem d_EditedText_standsAt_39 : decode b_EditedText_standsAt 39 = .ok (.if_icmp .eq 5, 3) := by decide +kernel
theorem d_EditedText_standsAt_42 : decode b_EditedText_standsAt 42 = .ok (.iconst 0, 1) := by decide +kernel
theorem d_EditedText_standsAt_43 : decode b_EditedText_standsAt 43 = .ok (.ireturn, 1) := by decide +kernel
theorem d_EditedText_standsAt_44 : decode b_EditedText_standsAt 44 = .ok (.iinc 3 1, 3) := by decide +kernel
theorem d_EditedText_standsAt_47 : decode b_EditedText_standsAt 47 = .ok (.goto (-30), 3) := by decide +kernel
theorem d_EditedText_standsAt_50 : decode b_EditedText_standsAt 50 = .ok (.iconst 1, 1) := by decide +kernel
theorem d_EditedText_standsAt_51 : decode b_EditedText_standsAt 51 = .ok (.ireturn, 1) := by decide +kernel
theorem d_EditedText_countPlaces_0 : decode b_EditedText_countPlaces 0 = .ok (.iconst 0, 1) := by decide +kernel
theorem d_EditedText_countPlaces_1 : decode b_EditedText_countPlaces 1 = .ok (.istore_n 2, 1) := by decide +kernel
theorem d_EditedText_countPlaces_2 : decode b_EditedText_countPlaces 2 = .ok (.iconst 0, 1) := by decide +kernel
theorem d_EditedText_countPlaces_3 : decode b_EditedText_countPlaces 3 = .ok (.istore_n 3, 1) := by decide +kernel
theorem d_EditedText_countPlaces_4 : decode b_EditedText_countPlaces 4 = .ok (.iload_n 3, 1) := by decide +kernel
theorem d_EditedText_countPlaces_5 : decode b_EditedText_countPlaces 5 = .ok (.aload_n 0, 1) := by decide +kernel
theorem d_EditedText_countPlaces_6 : decode b_EditedText_countPlaces 6 = .ok (.getfield 29, 3) := by decide +kernel
theorem d_EditedText_countPlaces_9 : decode b_EditedText_countPlaces 9 = .ok (.if_icmp .ge 21, 3) := by decide +kernel
theorem d_EditedText_countPlaces_12 : decode b_EditedText_countPlaces 12 = .ok (.aload_n 0, 1) := by decide +kernel
theorem d_EditedText_countPlaces_13 : decode b_EditedText_countPlaces 13 = .ok (.iload_n 3, 1) := by decide +kernel
theorem d_EditedText_countPlaces_14 : decode b_EditedText_countPlaces 14 = .ok (.aload_n 1, 1) := by decide +kernel
theorem d_EditedText_countPlaces_15 : decode b_EditedText_countPlaces 15 = .ok (.invokevirtual 68, 3) := by decide +kernel
theorem d_EditedText_countPlaces_18 : decode b_EditedText_countPlaces 18 = .ok (.ifCond .eq 6, 3) := by decide +kernel
theorem d_EditedText_countPlaces_21 : decode b_EditedText_countPlaces 21 = .ok (.iinc 2 1, 3) := by decide +kernel
theorem d_EditedText_countPlaces_24 : decode b_EditedText_countPlaces 24 = .ok (.iinc 3 1, 3) := by decide +kernel
theorem d_EditedText_countPlaces_27 : decode b_EditedText_countPlaces 27 = .ok (.goto (-23), 3) := by decide +kernel
theorem d_EditedText_countPlaces_30 : decode b_EditedText_countPlaces 30 = .ok (.iload_n 2, 1) := by decide +kernel
theorem d_EditedText_countPlaces_31 : decode b_EditedText_countPlaces 31 = .ok (.ireturn, 1) := by decide +kernel
theorem d_EditedText_leastSuffixBeginning_0 : decode b_EditedText_leastSuffixBeginning 0 = .ok (.aload_n 0, 1) := by decide +kernel
theorem d_EditedText_leastSuffixBeginning_1 : decode b_EditedText_leastSuffixBeginning 1 = .ok (.invokevirtual 61, 3) := by decide +kernel
theorem d_EditedText_leastSuffixBeginning_4 : decode b_EditedText_leastSuffixBeginning 4 = .ok (.getfield 65, 3) := by decide +kernel
theorem d_EditedText_leastSuffixBeginning_7 : decode b_EditedText_leastSuffixBeginning 7 = .ok (.astore_n 2, 1) := by decide +kernel
theorem d_EditedText_leastSuffixBeginning_8 : decode b_EditedText_leastSuffixBeginning 8 = .ok (.iconst 0, 1) := by decide +kernel
theorem d_EditedText_leastSuffixBeginning_9 : decode b_EditedText_leastSuffixBeginning 9 = .ok (.istore_n 3, 1) := by decide +kernel
theorem d_EditedText_leastSuffixBeginning_10 : decode b_EditedText_leastSuffixBeginning 10 = .ok (.iload_n 3, 1) := by decide +kernel
theorem d_EditedText_leastSuffixBeginning_11 : decode b_EditedText_leastSuffixBeginning 11 = .ok (.aload_n 0, 1) := by decide +kernel
theorem d_EditedText_leastSuffixBeginning_12 : decode b_EditedText_leastSuffixBeginning 12 = .ok (.getfield 29, 3) := by decide +kernel
theorem d_EditedText_leastSuffixBeginning_15 : decode b_EditedText_leastSuffixBeginning 15 = .ok (.if_icmp .ge 22, 3) := by decide +kernel
theorem d_EditedText_leastSuffixBeginning_18 : decode b_EditedText_leastSuffixBeginning 18 = .ok (.aload_n 0, 1) := by decide +kernel
theorem d_EditedText_leastSuffixBeginning_19 : decode b_EditedText_leastSuffixBeginning 19 = .ok (.aload_n 2, 1) := by decide +kernel
theorem d_EditedText_leastSuffixBeginning_20 : decode b_EditedText_leastSuffixBeginning 20 = .ok (.iload_n 3, 1) := by decide +kernel
theorem d_EditedText_leastSuffixBeginning_21 : decode b_EditedText_leastSuffixBeginning 21 = .ok (.iaload, 1) := by decide +kernel
theorem d_EditedText_leastSuffixBeginning_22 : decode b_EditedText_leastSuffixBeginning 22 = .ok (.aload_n 1, 1) := by decide +kernel
theorem d_EditedText_leastSuffixBeginning_23 : decode b_EditedText_leastSuffixBeginning 23 = .ok (.invokevirtual 68, 3) := by decide +kernel
theorem d_EditedText_leastSuffixBeginning_26 : decode b_EditedText_leastSuffixBeginning 26 = .ok (.ifCond .eq 5, 3) := by decide +kernel
theorem d_EditedText_leastSuffixBeginning_29 : decode b_EditedText_leastSuffixBeginning 29 = .ok (.iload_n 3, 1) := by decide +kernel
theorem d_EditedText_leastSuffixBeginning_30 : decode b_EditedText_leastSuffixBeginning 30 = .ok (.ireturn, 1) := by decide +kernel
theorem d_EditedText_leastSuffixBeginning_31 : decode b_EditedText_leastSuffixBeginning 31 = .ok (.iinc 3 1, 3) := by decide +kernel
theorem d_EditedText_leastSuffixBeginning_34 : decode b_EditedText_leastSuffixBeginning 34 = .ok (.goto (-24), 3) := by decide +kernel
theorem d_EditedText_leastSuffixBeginning_37 : decode b_EditedText_leastSuffixBeginning 37 = .ok (.iconst (-1), 1) := by decide +kernel
theorem d_EditedText_leastSuffixBeginning_38 : decode b_EditedText_leastSuffixBeginning 38 = .ok (.ireturn, 1) := by decide +kernel
theorem d_History_init_0 : decode b_History_init 0 = .ok (.aload_n 0, 1) := by decide +kernel
theorem d_History_init_1 : decode b_History_init 1 = .ok (.invokespecial 3, 3) := by decide +kernel
theorem d_History_init_4 : decode b_History_init 4 = .ok (.aload_n 0, 1) := by decide +kernel
theorem d_History_init_5 : decode b_History_init 5 = .ok (.sipush 2400, 3) := by decide +kernel
theorem d_History_init_8 : decode b_History_init 8 = .ok (.newarray .int, 2) := by decide +kernel
theorem d_History_init_10 : decode b_History_init 10 = .ok (.putfield 9, 3) := by decide +kernel
theorem d_History_init_13 : decode b_History_init 13 = .ok (.aload_n 0, 1) := by decide +kernel
theorem d_History_init_14 : decode b_History_init 14 = .ok (.bipush 20, 2) := by decide +kernel
theorem d_History_init_16 : decode b_History_init 16 = .ok (.newarray .int, 2) := by decide +kernel
theorem d_History_init_18 : decode b_History_init 18 = .ok (.putfield 15, 3) := by decide +kernel
theorem d_History_init_21 : decode b_History_init 21 = .ok (.return_, 1) := by decide +kernel
theorem d_History_keep_0 : decode b_History_keep 0 = .ok (.aload_n 0, 1) := by decide +kernel
theorem d_History_keep_1 : decode b_History_keep 1 = .ok (.aload_n 0, 1) := by decide +kernel
theorem d_History_keep_2 : decode b_History_keep 2 = .ok (.getfield 18, 3) := by decide +kernel
theorem d_History_keep_5 : decode b_History_keep 5 = .ok (.iconst 1, 1) := by decide +kernel
theorem d_History_keep_6 : decode b_History_keep 6 = .ok (.iadd, 1) := by decide +kernel
theorem d_History_keep_7 : decode b_History_keep 7 = .ok (.bipush 20, 2) := by decide +kernel
theorem d_History_keep_9 : decode b_History_keep 9 = .ok (.if_icmp .ge 12, 3) := by decide +kernel
theorem d_History_keep_12 : decode b_History_keep 12 = .ok (.aload_n 0, 1) := by decide +kernel
theorem d_History_keep_13 : decode b_History_keep 13 = .ok (.getfield 18, 3) := by decide +kernel
theorem d_History_keep_16 : decode b_History_keep 16 = .ok (.iconst 1, 1) := by decide +kernel
theorem d_History_keep_17 : decode b_History_keep 17 = .ok (.iadd, 1) := by decide +kernel
theorem d_History_keep_18 : decode b_History_keep 18 = .ok (.goto 4, 3) := by decide +kernel
theorem d_History_keep_21 : decode b_History_keep 21 = .ok (.iconst 0, 1) := by decide +kernel
theorem d_History_keep_22 : decode b_History_keep 22 = .ok (.putfield 18, 3) := by decide +kernel
theorem d_History_keep_25 : decode b_History_keep 25 = .ok (.aload_n 1, 1) := by decide +kernel
theorem d_History_keep_26 : decode b_History_keep 26 = .ok (.iconst 0, 1) := by decide +kernel
theorem d_History_keep_27 : decode b_History_keep 27 = .ok (.aload_n 0, 1) := by decide +kernel
theorem d_History_keep_28 : decode b_History_keep 28 = .ok (.getfield 9, 3) := by decide +kernel
theorem d_History_keep_31 : decode b_History_keep 31 = .ok (.aload_n 0, 1) := by decide +kernel
theorem d_History_keep_32 : decode b_History_keep 32 = .ok (.getfield 18, 3) := by decide +kernel
theorem d_History_keep_35 : decode b_History_keep 35 = .ok (.bipush 120, 2) := by decide +kernel
theorem d_History_keep_37 : decode b_History_keep 37 = .ok (.imul, 1) := by decide +kernel
theorem d_History_keep_38 : decode b_History_keep 38 = .ok (.iload_n 2, 1) := by decide +kernel
theorem d_History_keep_39 : decode b_History_keep 39 = .ok (.invokestatic 22, 3) := by decide +kernel
theorem d_History_keep_42 : decode b_History_keep 42 = .ok (.aload_n 0, 1) := by decide +kernel
theorem d_History_keep_43 : decode b_History_keep 43 = .ok (.getfield 15, 3) := by decide +kernel
theorem d_History_keep_46 : decode b_History_keep 46 = .ok (.aload_n 0, 1) := by decide +kernel
theorem d_History_keep_47 : decode b_History_keep 47 = .ok (.getfield 18, 3) := by decide +kernel
theorem d_History_keep_50 : decode b_History_keep 50 = .ok (.iload_n 2, 1) := by decide +kernel
theorem d_History_keep_51 : decode b_History_keep 51 = .ok (.iastore, 1) := by decide +kernel
theorem d_History_keep_52 : decode b_History_keep 52 = .ok (.aload_n 0, 1) := by decide +kernel
theorem d_History_keep_53 : decode b_History_keep 53 = .ok (.aload_n 0, 1) := by decide +kernel
theorem d_History_keep_54 : decode b_History_keep 54 = .ok (.getfield 28, 3) := by decide +kernel
theorem d_History_keep_57 : decode b_History_keep 57 = .ok (.iconst 1, 1) := by decide +kernel
theorem d_History_keep_58 : decode b_History_keep 58 = .ok (.iadd, 1) := by decide +kernel
theorem d_History_keep_59 : decode b_History_keep 59 = .ok (.bipush 20, 2) := by decide +kernel
theorem d_History_keep_61 : decode b_History_keep 61 = .ok (.invokestatic 31, 3) := by decide +kernel
theorem d_History_keep_64 : decode b_History_keep 64 = .ok (.putfield 28, 3) := by decide +kernel
theorem d_History_keep_67 : decode b_History_keep 67 = .ok (.return_, 1) := by decide +kernel
theorem d_History_giveBack_0 : decode b_History_giveBack 0 = .ok (.aload_n 0, 1) := by decide +kernel
theorem d_History_giveBack_1 : decode b_History_giveBack 1 = .ok (.getfield 15, 3) := by decide +kernel
theorem d_History_giveBack_4 : decode b_History_giveBack 4 = .ok (.aload_n 0, 1) := by decide +kernel
theorem d_History_giveBack_5 : decode b_History_giveBack 5 = .ok (.getfield 18, 3) := by decide +kernel
theorem d_History_giveBack_8 : decode b_History_giveBack 8 = .ok (.iaload, 1) := by decide +kernel
theorem d_History_giveBack_9 : decode b_History_giveBack 9 = .ok (.istore_n 2, 1) := by decide +kernel
theorem d_History_giveBack_10 : decode b_History_giveBack 10 = .ok (.aload_n 0, 1) := by decide +kernel
theorem d_History_giveBack_11 : decode b_History_giveBack 11 = .ok (.getfield 9, 3) := by decide +kernel
theorem d_History_giveBack_14 : decode b_History_giveBack 14 = .ok (.aload_n 0, 1) := by decide +kernel
theorem d_History_giveBack_15 : decode b_History_giveBack 15 = .ok (.getfield 18, 3) := by decide +kernel
theorem d_History_giveBack_18 : decode b_History_giveBack 18 = .ok (.bipush 120, 2) := by decide +kernel
theorem d_History_giveBack_20 : decode b_History_giveBack 20 = .ok (.imul, 1) := by decide +kernel
theorem d_History_giveBack_21 : decode b_History_giveBack 21 = .ok (.aload_n 1, 1) := by decide +kernel
theorem d_History_giveBack_22 : decode b_History_giveBack 22 = .ok (.iconst 0, 1) := by decide +kernel
theorem d_History_giveBack_23 : decode b_History_giveBack 23 = .ok (.iload_n 2, 1) := by decide +kernel
theorem d_History_giveBack_24 : decode b_History_giveBack 24 = .ok (.invokestatic 22, 3) := by decide +kernel
theorem d_History_giveBack_27 : decode b_History_giveBack 27 = .ok (.aload_n 0, 1) := by decide +kernel
theorem d_History_giveBack_28 : decode b_History_giveBack 28 = .ok (.aload_n 0, 1) := by decide +kernel
theorem d_History_giveBack_29 : decode b_History_giveBack 29 = .ok (.getfield 18, 3) := by decide +kernel
theorem d_History_giveBack_32 : decode b_History_giveBack 32 = .ok (.ifCond .le 12, 3) := by decide +kernel
theorem d_History_giveBack_35 : decode b_History_giveBack 35 = .ok (.aload_n 0, 1) := by decide +kernel
theorem d_History_giveBack_36 : decode b_History_giveBack 36 = .ok (.getfield 18, 3) := by decide +kernel
theorem d_History_giveBack_39 : decode b_History_giveBack 39 = .ok (.iconst 1, 1) := by decide +kernel
theorem d_History_giveBack_40 : decode b_History_giveBack 40 = .ok (.isub, 1) := by decide +kernel
theorem d_History_giveBack_41 : decode b_History_giveBack 41 = .ok (.goto 5, 3) := by decide +kernel
theorem d_History_giveBack_44 : decode b_History_giveBack 44 = .ok (.bipush 19, 2) := by decide +kernel
theorem d_History_giveBack_46 : decode b_History_giveBack 46 = .ok (.putfield 18, 3) := by decide +kernel
theorem d_History_giveBack_49 : decode b_History_giveBack 49 = .ok (.aload_n 0, 1) := by decide +kernel
theorem d_History_giveBack_50 : decode b_History_giveBack 50 = .ok (.dup, 1) := by decide +kernel
theorem d_History_giveBack_51 : decode b_History_giveBack 51 = .ok (.getfield 28, 3) := by decide +kernel
theorem d_History_giveBack_54 : decode b_History_giveBack 54 = .ok (.iconst 1, 1) := by decide +kernel
theorem d_History_giveBack_55 : decode b_History_giveBack 55 = .ok (.isub, 1) := by decide +kernel
theorem d_History_giveBack_56 : decode b_History_giveBack 56 = .ok (.putfield 28, 3) := by decide +kernel
theorem d_History_giveBack_59 : decode b_History_giveBack 59 = .ok (.iload_n 2, 1) := by decide +kernel
theorem d_History_giveBack_60 : decode b_History_giveBack 60 = .ok (.ireturn, 1) := by decide +kernel
theorem d_SuffixOrder_init_0 : decode b_SuffixOrder_init 0 = .ok (.aload_n 0, 1) := by decide +kernel
theorem d_SuffixOrder_init_1 : decode b_SuffixOrder_init 1 = .ok (.invokespecial 3, 3) := by decide +kernel
theorem d_SuffixOrder_init_4 : decode b_SuffixOrder_init 4 = .ok (.aload_n 0, 1) := by decide +kernel
theorem d_SuffixOrder_init_5 : decode b_SuffixOrder_init 5 = .ok (.bipush 120, 2) := by decide +kernel
theorem d_SuffixOrder_init_7 : decode b_SuffixOrder_init 7 = .ok (.newarray .int, 2) := by decide +kernel
theorem d_SuffixOrder_init_9 : decode b_SuffixOrder_init 9 = .ok (.putfield 9, 3) := by decide +kernel
theorem d_SuffixOrder_init_12 : decode b_SuffixOrder_init 12 = .ok (.aload_n 0, 1) := by decide +kernel
theorem d_SuffixOrder_init_13 : decode b_SuffixOrder_init 13 = .ok (.bipush 121, 2) := by decide +kernel
theorem d_SuffixOrder_init_15 : decode b_SuffixOrder_init 15 = .ok (.newarray .int, 2) := by decide +kernel
theorem d_SuffixOrder_init_17 : decode b_SuffixOrder_init 17 = .ok (.putfield 15, 3) := by decide +kernel
theorem d_SuffixOrder_init_20 : decode b_SuffixOrder_init 20 = .ok (.return_, 1) := by decide +kernel
theorem d_SuffixOrder_sort_0 : decode b_SuffixOrder_sort 0 = .ok (.aload_n 0, 1) := by decide +kernel
theorem d_SuffixOrder_sort_1 : decode b_SuffixOrder_sort 1 = .ok (.getfield 15, 3) := by decide +kernel
theorem d_SuffixOrder_sort_4 : decode b_SuffixOrder_sort 4 = .ok (.iload_n 2, 1) := by decide +kernel
theorem d_SuffixOrder_sort_5 : decode b_SuffixOrder_sort 5 = .ok (.iconst (-1), 1) := by decide +kernel
theorem d_SuffixOrder_sort_6 : decode b_SuffixOrder_sort 6 = .ok (.iastore, 1) := by decide +kernel
theorem d_SuffixOrder_sort_7 : decode b_SuffixOrder_sort 7 = .ok (.iload_n 2, 1) := by decide +kernel
theorem d_SuffixOrder_sort_8 : decode b_SuffixOrder_sort 8 = .ok (.iconst 1, 1) := by decide +kernel
theorem d_SuffixOrder_sort_9 : decode b_SuffixOrder_sort 9 = .ok (.isub, 1) := by decide +kernel
theorem d_SuffixOrder_sort_10 : decode b_SuffixOrder_sort 10 = .ok (.istore_n 3, 1) := by decide +kernel
theorem d_SuffixOrder_sort_11 : decode b_SuffixOrder_sort 11 = .ok (.iload_n 3, 1) := by decide +kernel
theorem d_SuffixOrder_sort_12 : decode b_SuffixOrder_sort 12 = .ok (.ifCond .lt 91, 3) := by decide +kernel
theorem d_SuffixOrder_sort_15 : decode b_SuffixOrder_sort 15 = .ok (.iload_n 2, 1) := by decide +kernel
theorem d_SuffixOrder_sort_16 : decode b_SuffixOrder_sort 16 = .ok (.iconst 1, 1) := by decide +kernel
theorem d_SuffixOrder_sort_17 : decode b_SuffixOrder_sort 17 = .ok (.isub, 1) := by decide +kernel
theorem d_SuffixOrder_sort_18 : decode b_SuffixOrder_sort 18 = .ok (.iload_n 3, 1) := by decide +kernel
theorem d_SuffixOrder_sort_19 : decode b_SuffixOrder_sort 19 = .ok (.isub, 1) := by decide +kernel
theorem d_SuffixOrder_sort_20 : decode b_SuffixOrder_sort 20 = .ok (.istore 4, 2) := by decide +kernel
theorem d_SuffixOrder_sort_22 : decode b_SuffixOrder_sort 22 = .ok (.iload 4, 2) := by decide +kernel
theorem d_SuffixOrder_sort_24 : decode b_SuffixOrder_sort 24 = .ok (.ifCond .le 57, 3) := by decide +kernel
theorem d_SuffixOrder_sort_27 : decode b_SuffixOrder_sort 27 = .ok (.aload_n 0, 1) := by decide +kernel
theorem d_SuffixOrder_sort_28 : decode b_SuffixOrder_sort 28 = .ok (.aload_n 1, 1) := by decide +kernel
theorem d_SuffixOrder_sort_29 : decode b_SuffixOrder_sort 29 = .ok (.iload_n 3, 1) := by decide +kernel
theorem d_SuffixOrder_sort_30 : decode b_SuffixOrder_sort 30 = .ok (.aload_n 0, 1) := by decide +kernel
theorem d_SuffixOrder_sort_31 : decode b_SuffixOrder_sort 31 = .ok (.getfield 9, 3) := by decide +kernel
theorem d_SuffixOrder_sort_34 : decode b_SuffixOrder_sort 34 = .ok (.iload 4, 2) := by decide +kernel
theorem d_SuffixOrder_sort_36 : decode b_SuffixOrder_sort 36 = .ok (.iconst 1, 1) := by decide +kernel
theorem d_SuffixOrder_sort_37 : decode b_SuffixOrder_sort 37 = .ok (.isub, 1) := by decide +kernel
theorem d_SuffixOrder_sort_38 : decode b_SuffixOrder_sort 38 = .ok (.iaload, 1) := by decide +kernel
theorem d_SuffixOrder_sort_39 : decode b_SuffixOrder_sort 39 = .ok (.invokevirtual 18, 3) := by decide +kernel
theorem d_SuffixOrder_sort_42 : decode b_SuffixOrder_sort 42 = .ok (.ifCond .eq 39, 3) := by decide +kernel
theorem d_SuffixOrder_sort_45 : decode b_SuffixOrder_sort 45 = .ok (.aload_n 0, 1) := by decide +kernel
theorem d_SuffixOrder_sort_46 : decode b_SuffixOrder_sort 46 = .ok (.getfield 9, 3) := by decide +kernel
theorem d_SuffixOrder_sort_49 : decode b_SuffixOrder_sort 49 = .ok (.iload 4, 2) := by decide +kernel
theorem d_SuffixOrder_sort_51 : decode b_SuffixOrder_sort 51 = .ok (.aload_n 0, 1) := by decide +kernel
theorem d_SuffixOrder_sort_52 : decode b_SuffixOrder_sort 52 = .ok (.getfield 9, 3) := by decide +kernel
theorem d_SuffixOrder_sort_55 : decode b_SuffixOrder_sort 55 = .ok (.iload 4, 2) := by decide +kernel
theorem d_SuffixOrder_sort_57 : decode b_SuffixOrder_sort 57 = .ok (.iconst 1, 1) := by decide +kernel
theorem d_SuffixOrder_sort_58 : decode b_SuffixOrder_sort 58 = .ok (.isub, 1) := by decide +kernel
theorem d_SuffixOrder_sort_59 : decode b_SuffixOrder_sort 59 = .ok (.iaload, 1) := by decide +kernel
theorem d_SuffixOrder_sort_60 : decode b_SuffixOrder_sort 60 = .ok (.iastore, 1) := by decide +kernel
theorem d_SuffixOrder_sort_61 : decode b_SuffixOrder_sort 61 = .ok (.aload_n 0, 1) := by decide +kernel
theorem d_SuffixOrder_sort_62 : decode b_SuffixOrder_sort 62 = .ok (.getfield 15, 3) := by decide +kernel
theorem d_SuffixOrder_sort_65 : decode b_SuffixOrder_sort 65 = .ok (.aload_n 0, 1) := by decide +kernel
theorem d_SuffixOrder_sort_66 : decode b_SuffixOrder_sort 66 = .ok (.getfield 9, 3) := by decide +kernel
theorem d_SuffixOrder_sort_69 : decode b_SuffixOrder_sort 69 = .ok (.iload 4, 2) := by decide +kernel
theorem d_SuffixOrder_sort_71 : decode b_SuffixOrder_sort 71 = .ok (.iaload, 1) := by decide +kernel
theorem d_SuffixOrder_sort_72 : decode b_SuffixOrder_sort 72 = .ok (.iload 4, 2) := by decide +kernel
theorem d_SuffixOrder_sort_74 : decode b_SuffixOrder_sort 74 = .ok (.iastore, 1) := by decide +kernel
theorem d_SuffixOrder_sort_75 : decode b_SuffixOrder_sort 75 = .ok (.iinc 4 (-1), 3) := by decide +kernel
theorem d_SuffixOrder_sort_78 : decode b_SuffixOrder_sort 78 = .ok (.goto (-56), 3) := by decide +kernel
theorem d_SuffixOrder_sort_81 : decode b_SuffixOrder_sort 81 = .ok (.aload_n 0, 1) := by decide +kernel
theorem d_SuffixOrder_sort_82 : decode b_SuffixOrder_sort 82 = .ok (.getfield 9, 3) := by decide +kernel
theorem d_SuffixOrder_sort_85 : decode b_SuffixOrder_sort 85 = .ok (.iload 4, 2) := by decide +kernel
theorem d_SuffixOrder_sort_87 : decode b_SuffixOrder_sort 87 = .ok (.iload_n 3, 1) := by decide +kernel
theorem d_SuffixOrder_sort_88 : decode b_SuffixOrder_sort 88 = .ok (.iastore, 1) := by decide +kernel
theorem d_SuffixOrder_sort_89 : decode b_SuffixOrder_sort 89 = .ok (.aload_n 0, 1) := by decide +kernel
theorem d_SuffixOrder_sort_90 : decode b_SuffixOrder_sort 90 = .ok (.getfield 15, 3) := by decide +kernel
theorem d_SuffixOrder_sort_93 : decode b_SuffixOrder_sort 93 = .ok (.iload_n 3, 1) := by decide +kernel
theorem d_SuffixOrder_sort_94 : decode b_SuffixOrder_sort 94 = .ok (.iload 4, 2) := by decide +kernel
theorem d_SuffixOrder_sort_96 : decode b_SuffixOrder_sort 96 = .ok (.iastore, 1) := by decide +kernel
theorem d_SuffixOrder_sort_97 : decode b_SuffixOrder_sort 97 = .ok (.iinc 3 (-1), 3) := by decide +kernel
theorem d_SuffixOrder_sort_100 : decode b_SuffixOrder_sort 100 = .ok (.goto (-89), 3) := by decide +kernel
theorem d_SuffixOrder_sort_103 : decode b_SuffixOrder_sort 103 = .ok (.return_, 1) := by decide +kernel
theorem d_SuffixOrder_isLess_0 : decode b_SuffixOrder_isLess 0 = .ok (.aload_n 1, 1) := by decide +kernel
theorem d_SuffixOrder_isLess_1 : decode b_SuffixOrder_isLess 1 = .ok (.iload_n 2, 1) := by decide +kernel
theorem d_SuffixOrder_isLess_2 : decode b_SuffixOrder_isLess 2 = .ok (.iaload, 1) := by decide +kernel
theorem d_SuffixOrder_isLess_3 : decode b_SuffixOrder_isLess 3 = .ok (.aload_n 1, 1) := by decide +kernel
theorem d_SuffixOrder_isLess_4 : decode b_SuffixOrder_isLess 4 = .ok (.iload_n 3, 1) := by decide +kernel
theorem d_SuffixOrder_isLess_5 : decode b_SuffixOrder_isLess 5 = .ok (.iaload, 1) := by decide +kernel
theorem d_SuffixOrder_isLess_6 : decode b_SuffixOrder_isLess 6 = .ok (.if_icmp .eq 18, 3) := by decide +kernel
theorem d_SuffixOrder_isLess_9 : decode b_SuffixOrder_isLess 9 = .ok (.aload_n 1, 1) := by decide +kernel
theorem d_SuffixOrder_isLess_10 : decode b_SuffixOrder_isLess 10 = .ok (.iload_n 2, 1) := by decide +kernel
theorem d_SuffixOrder_isLess_11 : decode b_SuffixOrder_isLess 11 = .ok (.iaload, 1) := by decide +kernel
theorem d_SuffixOrder_isLess_12 : decode b_SuffixOrder_isLess 12 = .ok (.aload_n 1, 1) := by decide +kernel
theorem d_SuffixOrder_isLess_13 : decode b_SuffixOrder_isLess 13 = .ok (.iload_n 3, 1) := by decide +kernel
theorem d_SuffixOrder_isLess_14 : decode b_SuffixOrder_isLess 14 = .ok (.iaload, 1) := by decide +kernel
theorem d_SuffixOrder_isLess_15 : decode b_SuffixOrder_isLess 15 = .ok (.if_icmp .ge 7, 3) := by decide +kernel
theorem d_SuffixOrder_isLess_18 : decode b_SuffixOrder_isLess 18 = .ok (.iconst 1, 1) := by decide +kernel
theorem d_SuffixOrder_isLess_19 : decode b_SuffixOrder_isLess 19 = .ok (.goto 4, 3) := by decide +kernel
theorem d_SuffixOrder_isLess_22 : decode b_SuffixOrder_isLess 22 = .ok (.iconst 0, 1) := by decide +kernel
theorem d_SuffixOrder_isLess_23 : decode b_SuffixOrder_isLess 23 = .ok (.ireturn, 1) := by decide +kernel
theorem d_SuffixOrder_isLess_24 : decode b_SuffixOrder_isLess 24 = .ok (.aload_n 0, 1) := by decide +kernel
theorem d_SuffixOrder_isLess_25 : decode b_SuffixOrder_isLess 25 = .ok (.getfield 15, 3) := by decide +kernel
theorem d_SuffixOrder_isLess_28 : decode b_SuffixOrder_isLess 28 = .ok (.iload_n 2, 1) := by decide +kernel
theorem d_SuffixOrder_isLess_29 : decode b_SuffixOrder_isLess 29 = .ok (.iconst 1, 1) := by decide +kernel
theorem d_SuffixOrder_isLess_30 : decode b_SuffixOrder_isLess 30 = .ok (.iadd, 1) := by decide +kernel
theorem d_SuffixOrder_isLess_31 : decode b_SuffixOrder_isLess 31 = .ok (.iaload, 1) := by decide +kernel
theorem d_SuffixOrder_isLess_32 : decode b_SuffixOrder_isLess 32 = .ok (.aload_n 0, 1) := by decide +kernel
theorem d_SuffixOrder_isLess_33 : decode b_SuffixOrder_isLess 33 = .ok (.getfield 15, 3) := by decide +kernel
theorem d_SuffixOrder_isLess_36 : decode b_SuffixOrder_isLess 36 = .ok (.iload_n 3, 1) := by decide +kernel
theorem d_SuffixOrder_isLess_37 : decode b_SuffixOrder_isLess 37 = .ok (.iconst 1, 1) := by decide +kernel
theorem d_SuffixOrder_isLess_38 : decode b_SuffixOrder_isLess 38 = .ok (.iadd, 1) := by decide +kernel
theorem d_SuffixOrder_isLess_39 : decode b_SuffixOrder_isLess 39 = .ok (.iaload, 1) := by decide +kernel
theorem d_SuffixOrder_isLess_40 : decode b_SuffixOrder_isLess 40 = .ok (.if_icmp .ge 7, 3) := by decide +kernel
theorem d_SuffixOrder_isLess_43 : decode b_SuffixOrder_isLess 43 = .ok (.iconst 1, 1) := by decide +kernel
theorem d_SuffixOrder_isLess_44 : decode b_SuffixOrder_isLess 44 = .ok (.goto 4, 3) := by decide +kernel
theorem d_SuffixOrder_isLess_47 : decode b_SuffixOrder_isLess 47 = .ok (.iconst 0, 1) := by decide +kernel
theorem d_SuffixOrder_isLess_48 : decode b_SuffixOrder_isLess 48 = .ok (.ireturn, 1) := by decide +kernel
