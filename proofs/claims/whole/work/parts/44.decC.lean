/-! printed by wip/tools/names.py: decode rows -/
theorem d_Hall_init_0 : decode b_Hall_init 0 = .ok (.aload_n 0, 1) := by decide +kernel
theorem d_Hall_init_1 : decode b_Hall_init 1 = .ok (.invokespecial 1, 3) := by decide +kernel
theorem d_Hall_init_4 : decode b_Hall_init 4 = .ok (.aload_n 0, 1) := by decide +kernel
theorem d_Hall_init_5 : decode b_Hall_init 5 = .ok (.new 7, 3) := by decide +kernel
theorem d_Hall_init_8 : decode b_Hall_init 8 = .ok (.dup, 1) := by decide +kernel
theorem d_Hall_init_9 : decode b_Hall_init 9 = .ok (.invokespecial 9, 3) := by decide +kernel
theorem d_Hall_init_12 : decode b_Hall_init 12 = .ok (.putfield 10, 3) := by decide +kernel
theorem d_Hall_init_15 : decode b_Hall_init 15 = .ok (.aload_n 0, 1) := by decide +kernel
theorem d_Hall_init_16 : decode b_Hall_init 16 = .ok (.new 7, 3) := by decide +kernel
theorem d_Hall_init_19 : decode b_Hall_init 19 = .ok (.dup, 1) := by decide +kernel
theorem d_Hall_init_20 : decode b_Hall_init 20 = .ok (.invokespecial 9, 3) := by decide +kernel
theorem d_Hall_init_23 : decode b_Hall_init 23 = .ok (.putfield 16, 3) := by decide +kernel
theorem d_Hall_init_26 : decode b_Hall_init 26 = .ok (.aload_n 0, 1) := by decide +kernel
theorem d_Hall_init_27 : decode b_Hall_init 27 = .ok (.new 7, 3) := by decide +kernel
theorem d_Hall_init_30 : decode b_Hall_init 30 = .ok (.dup, 1) := by decide +kernel
theorem d_Hall_init_31 : decode b_Hall_init 31 = .ok (.invokespecial 9, 3) := by decide +kernel
theorem d_Hall_init_34 : decode b_Hall_init 34 = .ok (.putfield 19, 3) := by decide +kernel
theorem d_Hall_init_37 : decode b_Hall_init 37 = .ok (.aload_n 0, 1) := by decide +kernel
theorem d_Hall_init_38 : decode b_Hall_init 38 = .ok (.bipush 12, 2) := by decide +kernel
theorem d_Hall_init_40 : decode b_Hall_init 40 = .ok (.anewarray 22, 3) := by decide +kernel
theorem d_Hall_init_43 : decode b_Hall_init 43 = .ok (.putfield 24, 3) := by decide +kernel
theorem d_Hall_init_46 : decode b_Hall_init 46 = .ok (.iconst 0, 1) := by decide +kernel
theorem d_Hall_init_47 : decode b_Hall_init 47 = .ok (.istore_n 1, 1) := by decide +kernel
theorem d_Hall_init_48 : decode b_Hall_init 48 = .ok (.iload_n 1, 1) := by decide +kernel
theorem d_Hall_init_49 : decode b_Hall_init 49 = .ok (.iconst 3, 1) := by decide +kernel
theorem d_Hall_init_50 : decode b_Hall_init 50 = .ok (.if_icmp .ge 29, 3) := by decide +kernel
theorem d_Hall_init_53 : decode b_Hall_init 53 = .ok (.aload_n 0, 1) := by decide +kernel
theorem d_Hall_init_54 : decode b_Hall_init 54 = .ok (.getfield 24, 3) := by decide +kernel
theorem d_Hall_init_57 : decode b_Hall_init 57 = .ok (.iload_n 1, 1) := by decide +kernel
theorem d_Hall_init_58 : decode b_Hall_init 58 = .ok (.new 22, 3) := by decide +kernel
theorem d_Hall_init_61 : decode b_Hall_init 61 = .ok (.dup, 1) := by decide +kernel
theorem d_Hall_init_62 : decode b_Hall_init 62 = .ok (.new 28, 3) := by decide +kernel
theorem d_Hall_init_65 : decode b_Hall_init 65 = .ok (.dup, 1) := by decide +kernel
theorem d_Hall_init_66 : decode b_Hall_init 66 = .ok (.invokespecial 30, 3) := by decide +kernel
theorem d_Hall_init_69 : decode b_Hall_init 69 = .ok (.invokespecial 31, 3) := by decide +kernel
theorem d_Hall_init_72 : decode b_Hall_init 72 = .ok (.aastore, 1) := by decide +kernel
theorem d_Hall_init_73 : decode b_Hall_init 73 = .ok (.iinc 1 1, 3) := by decide +kernel
theorem d_Hall_init_76 : decode b_Hall_init 76 = .ok (.goto (-28), 3) := by decide +kernel
theorem d_Hall_init_79 : decode b_Hall_init 79 = .ok (.aload_n 0, 1) := by decide +kernel
theorem d_Hall_init_80 : decode b_Hall_init 80 = .ok (.iconst 3, 1) := by decide +kernel
theorem d_Hall_init_81 : decode b_Hall_init 81 = .ok (.putfield 34, 3) := by decide +kernel
theorem d_Hall_init_84 : decode b_Hall_init 84 = .ok (.aload_n 0, 1) := by decide +kernel
theorem d_Hall_init_85 : decode b_Hall_init 85 = .ok (.new 38, 3) := by decide +kernel
theorem d_Hall_init_88 : decode b_Hall_init 88 = .ok (.dup, 1) := by decide +kernel
theorem d_Hall_init_89 : decode b_Hall_init 89 = .ok (.invokespecial 40, 3) := by decide +kernel
theorem d_Hall_init_92 : decode b_Hall_init 92 = .ok (.putfield 41, 3) := by decide +kernel
theorem d_Hall_init_95 : decode b_Hall_init 95 = .ok (.aload_n 0, 1) := by decide +kernel
theorem d_Hall_init_96 : decode b_Hall_init 96 = .ok (.new 45, 3) := by decide +kernel
theorem d_Hall_init_99 : decode b_Hall_init 99 = .ok (.dup, 1) := by decide +kernel
theorem d_Hall_init_100 : decode b_Hall_init 100 = .ok (.invokespecial 47, 3) := by decide +kernel
theorem d_Hall_init_103 : decode b_Hall_init 103 = .ok (.putfield 48, 3) := by decide +kernel
theorem d_Hall_init_106 : decode b_Hall_init 106 = .ok (.aload_n 0, 1) := by decide +kernel
theorem d_Hall_init_107 : decode b_Hall_init 107 = .ok (.new 52, 3) := by decide +kernel
theorem d_Hall_init_110 : decode b_Hall_init 110 = .ok (.dup, 1) := by decide +kernel
theorem d_Hall_init_111 : decode b_Hall_init 111 = .ok (.invokespecial 54, 3) := by decide +kernel
theorem d_Hall_init_114 : decode b_Hall_init 114 = .ok (.putfield 55, 3) := by decide +kernel
theorem d_Hall_init_117 : decode b_Hall_init 117 = .ok (.return_, 1) := by decide +kernel
theorem d_Hall_type_0 : decode b_Hall_type 0 = .ok (.iload_n 3, 1) := by decide +kernel
theorem d_Hall_type_1 : decode b_Hall_type 1 = .ok (.iconst 1, 1) := by decide +kernel
theorem d_Hall_type_2 : decode b_Hall_type 2 = .ok (.if_icmp .lt 22, 3) := by decide +kernel
theorem d_Hall_type_5 : decode b_Hall_type 5 = .ok (.iload_n 3, 1) := by decide +kernel
theorem d_Hall_type_6 : decode b_Hall_type 6 = .ok (.iconst 4, 1) := by decide +kernel
theorem d_Hall_type_7 : decode b_Hall_type 7 = .ok (.if_icmp .gt 17, 3) := by decide +kernel
theorem d_Hall_type_10 : decode b_Hall_type 10 = .ok (.aload_n 0, 1) := by decide +kernel
theorem d_Hall_type_11 : decode b_Hall_type 11 = .ok (.getfield 10, 3) := by decide +kernel
theorem d_Hall_type_14 : decode b_Hall_type 14 = .ok (.getfield 59, 3) := by decide +kernel
theorem d_Hall_type_17 : decode b_Hall_type 17 = .ok (.iload_n 3, 1) := by decide +kernel
theorem d_Hall_type_18 : decode b_Hall_type 18 = .ok (.iadd, 1) := by decide +kernel
theorem d_Hall_type_19 : decode b_Hall_type 19 = .ok (.bipush 8, 2) := by decide +kernel
theorem d_Hall_type_21 : decode b_Hall_type 21 = .ok (.if_icmp .le 5, 3) := by decide +kernel
theorem d_Hall_type_24 : decode b_Hall_type 24 = .ok (.iconst 0, 1) := by decide +kernel
theorem d_Hall_type_25 : decode b_Hall_type 25 = .ok (.ireturn, 1) := by decide +kernel
theorem d_Hall_type_26 : decode b_Hall_type 26 = .ok (.iload_n 3, 1) := by decide +kernel
theorem d_Hall_type_27 : decode b_Hall_type 27 = .ok (.iconst 1, 1) := by decide +kernel
theorem d_Hall_type_28 : decode b_Hall_type 28 = .ok (.isub, 1) := by decide +kernel
theorem d_Hall_type_29 : decode b_Hall_type 29 = .ok (.istore 4, 2) := by decide +kernel
theorem d_Hall_type_31 : decode b_Hall_type 31 = .ok (.iload 4, 2) := by decide +kernel
theorem d_Hall_type_33 : decode b_Hall_type 33 = .ok (.ifCond .lt 27, 3) := by decide +kernel
theorem d_Hall_type_36 : decode b_Hall_type 36 = .ok (.aload_n 0, 1) := by decide +kernel
theorem d_Hall_type_37 : decode b_Hall_type 37 = .ok (.getfield 10, 3) := by decide +kernel
theorem d_Hall_type_40 : decode b_Hall_type 40 = .ok (.lload_n 1, 1) := by decide +kernel
theorem d_Hall_type_41 : decode b_Hall_type 41 = .ok (.bipush 16, 2) := by decide +kernel
theorem d_Hall_type_43 : decode b_Hall_type 43 = .ok (.iload 4, 2) := by decide +kernel
theorem d_Hall_type_45 : decode b_Hall_type 45 = .ok (.imul, 1) := by decide +kernel
theorem d_Hall_type_46 : decode b_Hall_type 46 = .ok (.lushr, 1) := by decide +kernel
theorem d_Hall_type_47 : decode b_Hall_type 47 = .ok (.l2i, 1) := by decide +kernel
theorem d_Hall_type_48 : decode b_Hall_type 48 = .ok (.ldc 62, 2) := by decide +kernel
theorem d_Hall_type_50 : decode b_Hall_type 50 = .ok (.iand, 1) := by decide +kernel
theorem d_Hall_type_51 : decode b_Hall_type 51 = .ok (.invokevirtual 63, 3) := by decide +kernel
theorem d_Hall_type_54 : decode b_Hall_type 54 = .ok (.iinc 4 (-1), 3) := by decide +kernel
theorem d_Hall_type_57 : decode b_Hall_type 57 = .ok (.goto (-26), 3) := by decide +kernel
theorem d_Hall_type_60 : decode b_Hall_type 60 = .ok (.iconst 1, 1) := by decide +kernel
theorem d_Hall_type_61 : decode b_Hall_type 61 = .ok (.ireturn, 1) := by decide +kernel
theorem d_Hall_view_0 : decode b_Hall_view 0 = .ok (.aload_n 0, 1) := by decide +kernel
theorem d_Hall_view_1 : decode b_Hall_view 1 = .ok (.iload_n 1, 1) := by decide +kernel
theorem d_Hall_view_2 : decode b_Hall_view 2 = .ok (.invokevirtual 67, 3) := by decide +kernel
theorem d_Hall_view_5 : decode b_Hall_view 5 = .ok (.astore_n 3, 1) := by decide +kernel
theorem d_Hall_view_6 : decode b_Hall_view 6 = .ok (.iload_n 2, 1) := by decide +kernel
theorem d_Hall_view_7 : decode b_Hall_view 7 = .ok (.ifCond .lt 8, 3) := by decide +kernel
theorem d_Hall_view_10 : decode b_Hall_view 10 = .ok (.iload_n 2, 1) := by decide +kernel
theorem d_Hall_view_11 : decode b_Hall_view 11 = .ok (.iconst 3, 1) := by decide +kernel
theorem d_Hall_view_12 : decode b_Hall_view 12 = .ok (.if_icmp .le 11, 3) := by decide +kernel
theorem d_Hall_view_15 : decode b_Hall_view 15 = .ok (.new 71, 3) := by decide +kernel
theorem d_Hall_view_18 : decode b_Hall_view 18 = .ok (.dup, 1) := by decide +kernel
theorem d_Hall_view_19 : decode b_Hall_view 19 = .ok (.invokespecial 73, 3) := by decide +kernel
theorem d_Hall_view_22 : decode b_Hall_view 22 = .ok (.athrow, 1) := by decide +kernel
theorem d_Hall_view_23 : decode b_Hall_view 23 = .ok (.aload_n 0, 1) := by decide +kernel
theorem d_Hall_view_24 : decode b_Hall_view 24 = .ok (.invokevirtual 74, 3) := by decide +kernel
theorem d_Hall_view_27 : decode b_Hall_view 27 = .ok (.aload_n 0, 1) := by decide +kernel
theorem d_Hall_view_28 : decode b_Hall_view 28 = .ok (.getfield 34, 3) := by decide +kernel
theorem d_Hall_view_31 : decode b_Hall_view 31 = .ok (.bipush 12, 2) := by decide +kernel
theorem d_Hall_view_33 : decode b_Hall_view 33 = .ok (.if_icmp .lt 5, 3) := by decide +kernel
theorem d_Hall_view_36 : decode b_Hall_view 36 = .ok (.iconst (-1), 1) := by decide +kernel
theorem d_Hall_view_37 : decode b_Hall_view 37 = .ok (.ireturn, 1) := by decide +kernel
theorem d_Hall_view_38 : decode b_Hall_view 38 = .ok (.aload_n 0, 1) := by decide +kernel
theorem d_Hall_view_39 : decode b_Hall_view 39 = .ok (.getfield 24, 3) := by decide +kernel
theorem d_Hall_view_42 : decode b_Hall_view 42 = .ok (.aload_n 0, 1) := by decide +kernel
theorem d_Hall_view_43 : decode b_Hall_view 43 = .ok (.getfield 34, 3) := by decide +kernel
theorem d_Hall_view_46 : decode b_Hall_view 46 = .ok (.new 22, 3) := by decide +kernel
theorem d_Hall_view_49 : decode b_Hall_view 49 = .ok (.dup, 1) := by decide +kernel
theorem d_Hall_view_50 : decode b_Hall_view 50 = .ok (.aload_n 3, 1) := by decide +kernel
theorem d_Hall_view_51 : decode b_Hall_view 51 = .ok (.iload_n 2, 1) := by decide +kernel
theorem d_Hall_view_52 : decode b_Hall_view 52 = .ok (.aload_n 0, 1) := by decide +kernel
theorem d_Hall_view_53 : decode b_Hall_view 53 = .ok (.getfield 16, 3) := by decide +kernel
theorem d_Hall_view_56 : decode b_Hall_view 56 = .ok (.invokespecial 77, 3) := by decide +kernel
theorem d_Hall_view_59 : decode b_Hall_view 59 = .ok (.aastore, 1) := by decide +kernel
theorem d_Hall_view_60 : decode b_Hall_view 60 = .ok (.aload_n 0, 1) := by decide +kernel
theorem d_Hall_view_61 : decode b_Hall_view 61 = .ok (.dup, 1) := by decide +kernel
theorem d_Hall_view_62 : decode b_Hall_view 62 = .ok (.getfield 34, 3) := by decide +kernel
theorem d_Hall_view_65 : decode b_Hall_view 65 = .ok (.iconst 1, 1) := by decide +kernel
theorem d_Hall_view_66 : decode b_Hall_view 66 = .ok (.iadd, 1) := by decide +kernel
theorem d_Hall_view_67 : decode b_Hall_view 67 = .ok (.putfield 34, 3) := by decide +kernel
theorem d_Hall_view_70 : decode b_Hall_view 70 = .ok (.aload_n 0, 1) := by decide +kernel
theorem d_Hall_view_71 : decode b_Hall_view 71 = .ok (.getfield 34, 3) := by decide +kernel
theorem d_Hall_view_74 : decode b_Hall_view 74 = .ok (.iconst 1, 1) := by decide +kernel
theorem d_Hall_view_75 : decode b_Hall_view 75 = .ok (.isub, 1) := by decide +kernel
theorem d_Hall_view_76 : decode b_Hall_view 76 = .ok (.ireturn, 1) := by decide +kernel
theorem d_Hall_put_0 : decode b_Hall_put 0 = .ok (.aload_n 0, 1) := by decide +kernel
theorem d_Hall_put_1 : decode b_Hall_put 1 = .ok (.iload_n 1, 1) := by decide +kernel
theorem d_Hall_put_2 : decode b_Hall_put 2 = .ok (.invokevirtual 67, 3) := by decide +kernel
theorem d_Hall_put_5 : decode b_Hall_put 5 = .ok (.astore_n 3, 1) := by decide +kernel
theorem d_Hall_put_6 : decode b_Hall_put 6 = .ok (.aload_n 0, 1) := by decide +kernel
theorem d_Hall_put_7 : decode b_Hall_put 7 = .ok (.invokevirtual 74, 3) := by decide +kernel
theorem d_Hall_put_10 : decode b_Hall_put 10 = .ok (.iload_n 2, 1) := by decide +kernel
theorem d_Hall_put_11 : decode b_Hall_put 11 = .ok (.ifCond .lt 14, 3) := by decide +kernel
theorem d_Hall_put_14 : decode b_Hall_put 14 = .ok (.aload_n 3, 1) := by decide +kernel
theorem d_Hall_put_15 : decode b_Hall_put 15 = .ok (.aload_n 0, 1) := by decide +kernel
theorem d_Hall_put_16 : decode b_Hall_put 16 = .ok (.getfield 16, 3) := by decide +kernel
theorem d_Hall_put_19 : decode b_Hall_put 19 = .ok (.invokevirtual 80, 3) := by decide +kernel
theorem d_Hall_put_22 : decode b_Hall_put 22 = .ok (.ifCond .ne 11, 3) := by decide +kernel
theorem d_Hall_put_25 : decode b_Hall_put 25 = .ok (.new 84, 3) := by decide +kernel
theorem d_Hall_put_28 : decode b_Hall_put 28 = .ok (.dup, 1) := by decide +kernel
theorem d_Hall_put_29 : decode b_Hall_put 29 = .ok (.invokespecial 86, 3) := by decide +kernel
theorem d_Hall_put_32 : decode b_Hall_put 32 = .ok (.athrow, 1) := by decide +kernel
theorem d_Hall_put_33 : decode b_Hall_put 33 = .ok (.aload_n 3, 1) := by decide +kernel
theorem d_Hall_put_34 : decode b_Hall_put 34 = .ok (.getfield 87, 3) := by decide +kernel
theorem d_Hall_put_37 : decode b_Hall_put 37 = .ok (.astore 4, 2) := by decide +kernel
theorem d_Hall_put_39 : decode b_Hall_put 39 = .ok (.aload 4, 2) := by decide +kernel
theorem d_Hall_put_41 : decode b_Hall_put 41 = .ok (.aload_n 0, 1) := by decide +kernel
theorem d_Hall_put_42 : decode b_Hall_put 42 = .ok (.getfield 16, 3) := by decide +kernel
theorem d_Hall_put_45 : decode b_Hall_put 45 = .ok (.invokevirtual 91, 3) := by decide +kernel
theorem d_Hall_put_48 : decode b_Hall_put 48 = .ok (.istore 5, 2) := by decide +kernel
theorem d_Hall_put_50 : decode b_Hall_put 50 = .ok (.iload 5, 2) := by decide +kernel
theorem d_Hall_put_52 : decode b_Hall_put 52 = .ok (.iconst (-1), 1) := by decide +kernel
theorem d_Hall_put_53 : decode b_Hall_put 53 = .ok (.if_icmp .eq 25, 3) := by decide +kernel
theorem d_Hall_put_56 : decode b_Hall_put 56 = .ok (.aload 4, 2) := by decide +kernel
theorem d_Hall_put_58 : decode b_Hall_put 58 = .ok (.getfield 95, 3) := by decide +kernel
theorem d_Hall_put_61 : decode b_Hall_put 61 = .ok (.iload 5, 2) := by decide +kernel
theorem d_Hall_put_63 : decode b_Hall_put 63 = .ok (.iaload, 1) := by decide +kernel
theorem d_Hall_put_64 : decode b_Hall_put 64 = .ok (.istore 6, 2) := by decide +kernel
theorem d_Hall_put_66 : decode b_Hall_put 66 = .ok (.aload 4, 2) := by decide +kernel
theorem d_Hall_put_68 : decode b_Hall_put 68 = .ok (.getfield 95, 3) := by decide +kernel
theorem d_Hall_put_71 : decode b_Hall_put 71 = .ok (.iload 5, 2) := by decide +kernel
theorem d_Hall_put_73 : decode b_Hall_put 73 = .ok (.iload_n 2, 1) := by decide +kernel
theorem d_Hall_put_74 : decode b_Hall_put 74 = .ok (.iastore, 1) := by decide +kernel
theorem d_Hall_put_75 : decode b_Hall_put 75 = .ok (.iload 6, 2) := by decide +kernel
theorem d_Hall_put_77 : decode b_Hall_put 77 = .ok (.ireturn, 1) := by decide +kernel
theorem d_Hall_put_78 : decode b_Hall_put 78 = .ok (.aload 4, 2) := by decide +kernel
theorem d_Hall_put_80 : decode b_Hall_put 80 = .ok (.getfield 99, 3) := by decide +kernel
theorem d_Hall_put_83 : decode b_Hall_put 83 = .ok (.bipush 64, 2) := by decide +kernel
theorem d_Hall_put_85 : decode b_Hall_put 85 = .ok (.if_icmp .lt 11, 3) := by decide +kernel
theorem d_Hall_put_88 : decode b_Hall_put 88 = .ok (.new 102, 3) := by decide +kernel
theorem d_Hall_put_91 : decode b_Hall_put 91 = .ok (.dup, 1) := by decide +kernel
theorem d_Hall_put_92 : decode b_Hall_put 92 = .ok (.invokespecial 104, 3) := by decide +kernel
theorem d_Hall_put_95 : decode b_Hall_put 95 = .ok (.athrow, 1) := by decide +kernel
theorem d_Hall_put_96 : decode b_Hall_put 96 = .ok (.aload 4, 2) := by decide +kernel
theorem d_Hall_put_98 : decode b_Hall_put 98 = .ok (.aload_n 0, 1) := by decide +kernel
theorem d_Hall_put_99 : decode b_Hall_put 99 = .ok (.getfield 16, 3) := by decide +kernel
theorem d_Hall_put_102 : decode b_Hall_put 102 = .ok (.iload_n 2, 1) := by decide +kernel
theorem d_Hall_put_103 : decode b_Hall_put 103 = .ok (.invokevirtual 105, 3) := by decide +kernel
theorem d_Hall_put_106 : decode b_Hall_put 106 = .ok (.iconst (-1), 1) := by decide +kernel
theorem d_Hall_put_107 : decode b_Hall_put 107 = .ok (.ireturn, 1) := by decide +kernel
theorem d_Hall_get_0 : decode b_Hall_get 0 = .ok (.aload_n 0, 1) := by decide +kernel
theorem d_Hall_get_1 : decode b_Hall_get 1 = .ok (.iload_n 1, 1) := by decide +kernel
theorem d_Hall_get_2 : decode b_Hall_get 2 = .ok (.invokevirtual 67, 3) := by decide +kernel
theorem d_Hall_get_5 : decode b_Hall_get 5 = .ok (.astore_n 2, 1) := by decide +kernel
theorem d_Hall_get_6 : decode b_Hall_get 6 = .ok (.aload_n 0, 1) := by decide +kernel
theorem d_Hall_get_7 : decode b_Hall_get 7 = .ok (.invokevirtual 74, 3) := by decide +kernel
theorem d_Hall_get_10 : decode b_Hall_get 10 = .ok (.aload_n 2, 1) := by decide +kernel
theorem d_Hall_get_11 : decode b_Hall_get 11 = .ok (.aload_n 0, 1) := by decide +kernel
theorem d_Hall_get_12 : decode b_Hall_get 12 = .ok (.getfield 16, 3) := by decide +kernel
theorem d_Hall_get_15 : decode b_Hall_get 15 = .ok (.invokevirtual 109, 3) := by decide +kernel
theorem d_Hall_get_18 : decode b_Hall_get 18 = .ok (.istore_n 3, 1) := by decide +kernel
theorem d_Hall_get_19 : decode b_Hall_get 19 = .ok (.iload_n 3, 1) := by decide +kernel
theorem d_Hall_get_20 : decode b_Hall_get 20 = .ok (.iconst (-1), 1) := by decide +kernel
theorem d_Hall_get_21 : decode b_Hall_get 21 = .ok (.if_icmp .ne 7, 3) := by decide +kernel
theorem d_Hall_get_24 : decode b_Hall_get 24 = .ok (.iconst (-1), 1) := by decide +kernel
theorem d_Hall_get_25 : decode b_Hall_get 25 = .ok (.goto 12, 3) := by decide +kernel
theorem d_Hall_get_28 : decode b_Hall_get 28 = .ok (.aload_n 2, 1) := by decide +kernel
theorem d_Hall_get_29 : decode b_Hall_get 29 = .ok (.getfield 87, 3) := by decide +kernel
theorem d_Hall_get_32 : decode b_Hall_get 32 = .ok (.getfield 95, 3) := by decide +kernel
theorem d_Hall_get_35 : decode b_Hall_get 35 = .ok (.iload_n 3, 1) := by decide +kernel
theorem d_Hall_get_36 : decode b_Hall_get 36 = .ok (.iaload, 1) := by decide +kernel
theorem d_Hall_get_37 : decode b_Hall_get 37 = .ok (.ireturn, 1) := by decide +kernel
theorem d_Hall_remove_0 : decode b_Hall_remove 0 = .ok (.aload_n 0, 1) := by decide +kernel
theorem d_Hall_remove_1 : decode b_Hall_remove 1 = .ok (.iload_n 1, 1) := by decide +kernel
theorem d_Hall_remove_2 : decode b_Hall_remove 2 = .ok (.invokevirtual 67, 3) := by decide +kernel
theorem d_Hall_remove_5 : decode b_Hall_remove 5 = .ok (.astore_n 2, 1) := by decide +kernel
theorem d_Hall_remove_6 : decode b_Hall_remove 6 = .ok (.aload_n 0, 1) := by decide +kernel
theorem d_Hall_remove_7 : decode b_Hall_remove 7 = .ok (.invokevirtual 74, 3) := by decide +kernel
theorem d_Hall_remove_10 : decode b_Hall_remove 10 = .ok (.aload_n 2, 1) := by decide +kernel
theorem d_Hall_remove_11 : decode b_Hall_remove 11 = .ok (.aload_n 0, 1) := by decide +kernel
theorem d_Hall_remove_12 : decode b_Hall_remove 12 = .ok (.getfield 16, 3) := by decide +kernel
theorem d_Hall_remove_15 : decode b_Hall_remove 15 = .ok (.invokevirtual 109, 3) := by decide +kernel
theorem d_Hall_remove_18 : decode b_Hall_remove 18 = .ok (.istore_n 3, 1) := by decide +kernel
theorem d_Hall_remove_19 : decode b_Hall_remove 19 = .ok (.iload_n 3, 1) := by decide +kernel
theorem d_Hall_remove_20 : decode b_Hall_remove 20 = .ok (.iconst (-1), 1) := by decide +kernel
theorem d_Hall_remove_21 : decode b_Hall_remove 21 = .ok (.if_icmp .ne 7, 3) := by decide +kernel
theorem d_Hall_remove_24 : decode b_Hall_remove 24 = .ok (.iconst (-1), 1) := by decide +kernel
theorem d_Hall_remove_25 : decode b_Hall_remove 25 = .ok (.goto 11, 3) := by decide +kernel
theorem d_Hall_remove_28 : decode b_Hall_remove 28 = .ok (.aload_n 2, 1) := by decide +kernel
theorem d_Hall_remove_29 : decode b_Hall_remove 29 = .ok (.getfield 87, 3) := by decide +kernel
theorem d_Hall_remove_32 : decode b_Hall_remove 32 = .ok (.iload_n 3, 1) := by decide +kernel
theorem d_Hall_remove_33 : decode b_Hall_remove 33 = .ok (.invokevirtual 110, 3) := by decide +kernel
theorem d_Hall_remove_36 : decode b_Hall_remove 36 = .ok (.ireturn, 1) := by decide +kernel
theorem d_Hall_size_0 : decode b_Hall_size 0 = .ok (.aload_n 0, 1) := by decide +kernel
theorem d_Hall_size_1 : decode b_Hall_size 1 = .ok (.iload_n 1, 1) := by decide +kernel
theorem d_Hall_size_2 : decode b_Hall_size 2 = .ok (.invokevirtual 114, 3) := by decide +kernel
theorem d_Hall_size_5 : decode b_Hall_size 5 = .ok (.ifCond .eq 14, 3) := by decide +kernel
theorem d_Hall_size_8 : decode b_Hall_size 8 = .ok (.aload_n 0, 1) := by decide +kernel
theorem d_Hall_size_9 : decode b_Hall_size 9 = .ok (.iload_n 1, 1) := by decide +kernel
theorem d_Hall_size_10 : decode b_Hall_size 10 = .ok (.invokevirtual 118, 3) := by decide +kernel
theorem d_Hall_size_13 : decode b_Hall_size 13 = .ok (.invokevirtual 121, 3) := by decide +kernel
theorem d_Hall_size_16 : decode b_Hall_size 16 = .ok (.goto 4, 3) := by decide +kernel
theorem d_Hall_size_19 : decode b_Hall_size 19 = .ok (.iconst (-1), 1) := by decide +kernel
theorem d_Hall_size_20 : decode b_Hall_size 20 = .ok (.ireturn, 1) := by decide +kernel
theorem d_Hall_find_0 : decode b_Hall_find 0 = .ok (.aload_n 0, 1) := by decide +kernel
theorem d_Hall_find_1 : decode b_Hall_find 1 = .ok (.iload_n 1, 1) := by decide +kernel
theorem d_Hall_find_2 : decode b_Hall_find 2 = .ok (.invokevirtual 118, 3) := by decide +kernel
theorem d_Hall_find_5 : decode b_Hall_find 5 = .ok (.astore_n 3, 1) := by decide +kernel
theorem d_Hall_find_6 : decode b_Hall_find 6 = .ok (.iload_n 2, 1) := by decide +kernel
theorem d_Hall_find_7 : decode b_Hall_find 7 = .ok (.ifCond .lt 9, 3) := by decide +kernel
theorem d_Hall_find_10 : decode b_Hall_find 10 = .ok (.iload_n 2, 1) := by decide +kernel
theorem d_Hall_find_11 : decode b_Hall_find 11 = .ok (.bipush 6, 2) := by decide +kernel
theorem d_Hall_find_13 : decode b_Hall_find 13 = .ok (.if_icmp .le 11, 3) := by decide +kernel
theorem d_Hall_find_16 : decode b_Hall_find 16 = .ok (.new 71, 3) := by decide +kernel
theorem d_Hall_find_19 : decode b_Hall_find 19 = .ok (.dup, 1) := by decide +kernel
theorem d_Hall_find_20 : decode b_Hall_find 20 = .ok (.invokespecial 73, 3) := by decide +kernel
theorem d_Hall_find_23 : decode b_Hall_find 23 = .ok (.athrow, 1) := by decide +kernel
theorem d_Hall_find_24 : decode b_Hall_find 24 = .ok (.aload_n 0, 1) := by decide +kernel
theorem d_Hall_find_25 : decode b_Hall_find 25 = .ok (.invokevirtual 74, 3) := by decide +kernel
theorem d_Hall_find_28 : decode b_Hall_find 28 = .ok (.aload_n 0, 1) := by decide +kernel
theorem d_Hall_find_29 : decode b_Hall_find 29 = .ok (.aload_n 3, 1) := by decide +kernel
theorem d_Hall_find_30 : decode b_Hall_find 30 = .ok (.aload_n 3, 1) := by decide +kernel
theorem d_Hall_find_31 : decode b_Hall_find 31 = .ok (.iload_n 2, 1) := by decide +kernel
theorem d_Hall_find_32 : decode b_Hall_find 32 = .ok (.aload_n 0, 1) := by decide +kernel
theorem d_Hall_find_33 : decode b_Hall_find 33 = .ok (.getfield 16, 3) := by decide +kernel
theorem d_Hall_find_36 : decode b_Hall_find 36 = .ok (.invokevirtual 124, 3) := by decide +kernel
theorem d_Hall_find_39 : decode b_Hall_find 39 = .ok (.invokevirtual 128, 3) := by decide +kernel
theorem d_Hall_find_42 : decode b_Hall_find 42 = .ok (.ireturn, 1) := by decide +kernel
theorem d_Hall_at_0 : decode b_Hall_at 0 = .ok (.aload_n 0, 1) := by decide +kernel
theorem d_Hall_at_1 : decode b_Hall_at 1 = .ok (.aload_n 0, 1) := by decide +kernel
theorem d_Hall_at_2 : decode b_Hall_at 2 = .ok (.iload_n 1, 1) := by decide +kernel
theorem d_Hall_at_3 : decode b_Hall_at 3 = .ok (.invokevirtual 118, 3) := by decide +kernel
theorem d_Hall_at_6 : decode b_Hall_at 6 = .ok (.iload_n 2, 1) := by decide +kernel
theorem d_Hall_at_7 : decode b_Hall_at 7 = .ok (.invokevirtual 128, 3) := by decide +kernel
theorem d_Hall_at_10 : decode b_Hall_at 10 = .ok (.ireturn, 1) := by decide +kernel
theorem d_Hall_poll_0 : decode b_Hall_poll 0 = .ok (.aload_n 0, 1) := by decide +kernel
theorem d_Hall_poll_1 : decode b_Hall_poll 1 = .ok (.iload_n 1, 1) := by decide +kernel
theorem d_Hall_poll_2 : decode b_Hall_poll 2 = .ok (.invokevirtual 118, 3) := by decide +kernel
theorem d_Hall_poll_5 : decode b_Hall_poll 5 = .ok (.astore_n 3, 1) := by decide +kernel
theorem d_Hall_poll_6 : decode b_Hall_poll 6 = .ok (.iload_n 2, 1) := by decide +kernel
theorem d_Hall_poll_7 : decode b_Hall_poll 7 = .ok (.ifCond .eq 12, 3) := by decide +kernel
theorem d_Hall_poll_10 : decode b_Hall_poll 10 = .ok (.aload_n 3, 1) := by decide +kernel
theorem d_Hall_poll_11 : decode b_Hall_poll 11 = .ok (.invokevirtual 121, 3) := by decide +kernel
theorem d_Hall_poll_14 : decode b_Hall_poll 14 = .ok (.iconst 1, 1) := by decide +kernel
theorem d_Hall_poll_15 : decode b_Hall_poll 15 = .ok (.isub, 1) := by decide +kernel
theorem d_Hall_poll_16 : decode b_Hall_poll 16 = .ok (.goto 4, 3) := by decide +kernel
theorem d_Hall_poll_19 : decode b_Hall_poll 19 = .ok (.iconst 0, 1) := by decide +kernel
theorem d_Hall_poll_20 : decode b_Hall_poll 20 = .ok (.istore 4, 2) := by decide +kernel
theorem d_Hall_poll_22 : decode b_Hall_poll 22 = .ok (.aload_n 0, 1) := by decide +kernel
theorem d_Hall_poll_23 : decode b_Hall_poll 23 = .ok (.aload_n 3, 1) := by decide +kernel
theorem d_Hall_poll_24 : decode b_Hall_poll 24 = .ok (.iload 4, 2) := by decide +kernel
theorem d_Hall_poll_26 : decode b_Hall_poll 26 = .ok (.invokevirtual 128, 3) := by decide +kernel
theorem d_Hall_poll_29 : decode b_Hall_poll 29 = .ok (.pop, 1) := by decide +kernel
theorem d_Hall_poll_30 : decode b_Hall_poll 30 = .ok (.aload_n 3, 1) := by decide +kernel
theorem d_Hall_poll_31 : decode b_Hall_poll 31 = .ok (.getfield 87, 3) := by decide +kernel
theorem d_Hall_poll_34 : decode b_Hall_poll 34 = .ok (.aload_n 3, 1) := by decide +kernel
theorem d_Hall_poll_35 : decode b_Hall_poll 35 = .ok (.iload 4, 2) := by decide +kernel
theorem d_Hall_poll_37 : decode b_Hall_poll 37 = .ok (.invokevirtual 132, 3) := by decide +kernel
theorem d_Hall_poll_40 : decode b_Hall_poll 40 = .ok (.invokevirtual 110, 3) := by decide +kernel
theorem d_Hall_poll_43 : decode b_Hall_poll 43 = .ok (.ireturn, 1) := by decide +kernel
theorem d_Hall_found_0 : decode b_Hall_found 0 = .ok (.iload_n 1, 1) := by decide +kernel
theorem d_Hall_found_1 : decode b_Hall_found 1 = .ok (.iconst (-1), 1) := by decide +kernel
theorem d_Hall_found_2 : decode b_Hall_found 2 = .ok (.if_icmp .ne 11, 3) := by decide +kernel
theorem d_Hall_found_5 : decode b_Hall_found 5 = .ok (.aload_n 0, 1) := by decide +kernel
theorem d_Hall_found_6 : decode b_Hall_found 6 = .ok (.getfield 19, 3) := by decide +kernel
theorem d_Hall_found_9 : decode b_Hall_found 9 = .ok (.getfield 59, 3) := by decide +kernel
theorem d_Hall_found_12 : decode b_Hall_found 12 = .ok (.ireturn, 1) := by decide +kernel
theorem d_Hall_found_13 : decode b_Hall_found 13 = .ok (.iload_n 1, 1) := by decide +kernel
theorem d_Hall_found_14 : decode b_Hall_found 14 = .ok (.ifCond .lt 26, 3) := by decide +kernel
theorem d_Hall_found_17 : decode b_Hall_found 17 = .ok (.iload_n 1, 1) := by decide +kernel
theorem d_Hall_found_18 : decode b_Hall_found 18 = .ok (.aload_n 0, 1) := by decide +kernel
theorem d_Hall_found_19 : decode b_Hall_found 19 = .ok (.getfield 19, 3) := by decide +kernel
theorem d_Hall_found_22 : decode b_Hall_found 22 = .ok (.getfield 59, 3) := by decide +kernel
theorem d_Hall_found_25 : decode b_Hall_found 25 = .ok (.if_icmp .ge 15, 3) := by decide +kernel
theorem d_Hall_found_28 : decode b_Hall_found 28 = .ok (.aload_n 0, 1) := by decide +kernel
theorem d_Hall_found_29 : decode b_Hall_found 29 = .ok (.getfield 19, 3) := by decide +kernel
theorem d_Hall_found_32 : decode b_Hall_found 32 = .ok (.getfield 135, 3) := by decide +kernel
theorem d_Hall_found_35 : decode b_Hall_found 35 = .ok (.iload_n 1, 1) := by decide +kernel
theorem d_Hall_found_36 : decode b_Hall_found 36 = .ok (.iaload, 1) := by decide +kernel
theorem d_Hall_found_37 : decode b_Hall_found 37 = .ok (.goto 4, 3) := by decide +kernel
theorem d_Hall_found_40 : decode b_Hall_found 40 = .ok (.iconst (-1), 1) := by decide +kernel
theorem d_Hall_found_41 : decode b_Hall_found 41 = .ok (.ireturn, 1) := by decide +kernel
theorem d_Hall_iterate_0 : decode b_Hall_iterate 0 = .ok (.aload_n 0, 1) := by decide +kernel
theorem d_Hall_iterate_1 : decode b_Hall_iterate 1 = .ok (.iload_n 1, 1) := by decide +kernel
theorem d_Hall_iterate_2 : decode b_Hall_iterate 2 = .ok (.invokevirtual 114, 3) := by decide +kernel
theorem d_Hall_iterate_5 : decode b_Hall_iterate 5 = .ok (.ifCond .ne 5, 3) := by decide +kernel
theorem d_Hall_iterate_8 : decode b_Hall_iterate 8 = .ok (.iconst 0, 1) := by decide +kernel
theorem d_Hall_iterate_9 : decode b_Hall_iterate 9 = .ok (.ireturn, 1) := by decide +kernel
theorem d_Hall_iterate_10 : decode b_Hall_iterate 10 = .ok (.aload_n 0, 1) := by decide +kernel
theorem d_Hall_iterate_11 : decode b_Hall_iterate 11 = .ok (.getfield 24, 3) := by decide +kernel
theorem d_Hall_iterate_14 : decode b_Hall_iterate 14 = .ok (.iload_n 1, 1) := by decide +kernel
theorem d_Hall_iterate_15 : decode b_Hall_iterate 15 = .ok (.aaload, 1) := by decide +kernel
theorem d_Hall_iterate_16 : decode b_Hall_iterate 16 = .ok (.astore_n 2, 1) := by decide +kernel
theorem d_Hall_iterate_17 : decode b_Hall_iterate 17 = .ok (.aload_n 2, 1) := by decide +kernel
theorem d_Hall_iterate_18 : decode b_Hall_iterate 18 = .ok (.getfield 138, 3) := by decide +kernel
theorem d_Hall_iterate_21 : decode b_Hall_iterate 21 = .ok (.aload_n 2, 1) := by decide +kernel
theorem d_Hall_iterate_22 : decode b_Hall_iterate 22 = .ok (.getfield 87, 3) := by decide +kernel
theorem d_Hall_iterate_25 : decode b_Hall_iterate 25 = .ok (.getfield 142, 3) := by decide +kernel
theorem d_Hall_iterate_28 : decode b_Hall_iterate 28 = .ok (.invokevirtual 145, 3) := by decide +kernel
theorem d_Hall_iterate_31 : decode b_Hall_iterate 31 = .ok (.iconst 1, 1) := by decide +kernel
theorem d_Hall_iterate_32 : decode b_Hall_iterate 32 = .ok (.ireturn, 1) := by decide +kernel
theorem d_Hall_next_0 : decode b_Hall_next 0 = .ok (.aload_n 0, 1) := by decide +kernel
theorem d_Hall_next_1 : decode b_Hall_next 1 = .ok (.iload_n 1, 1) := by decide +kernel
theorem d_Hall_next_2 : decode b_Hall_next 2 = .ok (.invokevirtual 118, 3) := by decide +kernel
theorem d_Hall_next_5 : decode b_Hall_next 5 = .ok (.astore_n 2, 1) := by decide +kernel
theorem d_Hall_next_6 : decode b_Hall_next 6 = .ok (.aload_n 2, 1) := by decide +kernel
theorem d_Hall_next_7 : decode b_Hall_next 7 = .ok (.getfield 138, 3) := by decide +kernel
theorem d_Hall_next_10 : decode b_Hall_next 10 = .ok (.aload_n 2, 1) := by decide +kernel
theorem d_Hall_next_11 : decode b_Hall_next 11 = .ok (.getfield 87, 3) := by decide +kernel
theorem d_Hall_next_14 : decode b_Hall_next 14 = .ok (.getfield 142, 3) := by decide +kernel
theorem d_Hall_next_17 : decode b_Hall_next 17 = .ok (.invokevirtual 150, 3) := by decide +kernel
theorem d_Hall_next_20 : decode b_Hall_next 20 = .ok (.ifCond .ne 11, 3) := by decide +kernel
theorem d_Hall_next_23 : decode b_Hall_next 23 = .ok (.new 102, 3) := by decide +kernel
theorem d_Hall_next_26 : decode b_Hall_next 26 = .ok (.dup, 1) := by decide +kernel
theorem d_Hall_next_27 : decode b_Hall_next 27 = .ok (.invokespecial 104, 3) := by decide +kernel
theorem d_Hall_next_30 : decode b_Hall_next 30 = .ok (.athrow, 1) := by decide +kernel
theorem d_Hall_next_31 : decode b_Hall_next 31 = .ok (.aload_n 0, 1) := by decide +kernel
theorem d_Hall_next_32 : decode b_Hall_next 32 = .ok (.aload_n 2, 1) := by decide +kernel
theorem d_Hall_next_33 : decode b_Hall_next 33 = .ok (.aload_n 2, 1) := by decide +kernel
theorem d_Hall_next_34 : decode b_Hall_next 34 = .ok (.getfield 138, 3) := by decide +kernel
theorem d_Hall_next_37 : decode b_Hall_next 37 = .ok (.getfield 153, 3) := by decide +kernel
theorem d_Hall_next_40 : decode b_Hall_next 40 = .ok (.invokevirtual 128, 3) := by decide +kernel
theorem d_Hall_next_43 : decode b_Hall_next 43 = .ok (.istore_n 3, 1) := by decide +kernel
theorem d_Hall_next_44 : decode b_Hall_next 44 = .ok (.aload_n 2, 1) := by decide +kernel
theorem d_Hall_next_45 : decode b_Hall_next 45 = .ok (.getfield 138, 3) := by decide +kernel
theorem d_Hall_next_48 : decode b_Hall_next 48 = .ok (.invokevirtual 156, 3) := by decide +kernel
theorem d_Hall_next_51 : decode b_Hall_next 51 = .ok (.iload_n 3, 1) := by decide +kernel
theorem d_Hall_next_52 : decode b_Hall_next 52 = .ok (.ireturn, 1) := by decide +kernel
theorem d_Hall_drop_0 : decode b_Hall_drop 0 = .ok (.aload_n 0, 1) := by decide +kernel
theorem d_Hall_drop_1 : decode b_Hall_drop 1 = .ok (.iload_n 1, 1) := by decide +kernel
theorem d_Hall_drop_2 : decode b_Hall_drop 2 = .ok (.invokevirtual 118, 3) := by decide +kernel
theorem d_Hall_drop_5 : decode b_Hall_drop 5 = .ok (.astore_n 2, 1) := by decide +kernel
theorem d_Hall_drop_6 : decode b_Hall_drop 6 = .ok (.aload_n 2, 1) := by decide +kernel
theorem d_Hall_drop_7 : decode b_Hall_drop 7 = .ok (.getfield 138, 3) := by decide +kernel
theorem d_Hall_drop_10 : decode b_Hall_drop 10 = .ok (.astore_n 3, 1) := by decide +kernel
theorem d_Hall_drop_11 : decode b_Hall_drop 11 = .ok (.aload_n 3, 1) := by decide +kernel
theorem d_Hall_drop_12 : decode b_Hall_drop 12 = .ok (.aload_n 2, 1) := by decide +kernel
theorem d_Hall_drop_13 : decode b_Hall_drop 13 = .ok (.getfield 87, 3) := by decide +kernel
theorem d_Hall_drop_16 : decode b_Hall_drop 16 = .ok (.getfield 142, 3) := by decide +kernel
theorem d_Hall_drop_19 : decode b_Hall_drop 19 = .ok (.invokevirtual 150, 3) := by decide +kernel
theorem d_Hall_drop_22 : decode b_Hall_drop 22 = .ok (.ifCond .eq 10, 3) := by decide +kernel
theorem d_Hall_drop_25 : decode b_Hall_drop 25 = .ok (.aload_n 3, 1) := by decide +kernel
theorem d_Hall_drop_26 : decode b_Hall_drop 26 = .ok (.getfield 159, 3) := by decide +kernel
theorem d_Hall_drop_29 : decode b_Hall_drop 29 = .ok (.ifCond .ne 11, 3) := by decide +kernel
theorem d_Hall_drop_32 : decode b_Hall_drop 32 = .ok (.new 102, 3) := by decide +kernel
theorem d_Hall_drop_35 : decode b_Hall_drop 35 = .ok (.dup, 1) := by decide +kernel
theorem d_Hall_drop_36 : decode b_Hall_drop 36 = .ok (.invokespecial 104, 3) := by decide +kernel
theorem d_Hall_drop_39 : decode b_Hall_drop 39 = .ok (.athrow, 1) := by decide +kernel
theorem d_Hall_drop_40 : decode b_Hall_drop 40 = .ok (.aload_n 2, 1) := by decide +kernel
theorem d_Hall_drop_41 : decode b_Hall_drop 41 = .ok (.getfield 87, 3) := by decide +kernel
theorem d_Hall_drop_44 : decode b_Hall_drop 44 = .ok (.aload_n 2, 1) := by decide +kernel
theorem d_Hall_drop_45 : decode b_Hall_drop 45 = .ok (.aload_n 3, 1) := by decide +kernel
theorem d_Hall_drop_46 : decode b_Hall_drop 46 = .ok (.getfield 153, 3) := by decide +kernel
theorem d_Hall_drop_49 : decode b_Hall_drop 49 = .ok (.iconst 1, 1) := by decide +kernel
theorem d_Hall_drop_50 : decode b_Hall_drop 50 = .ok (.isub, 1) := by decide +kernel
theorem d_Hall_drop_51 : decode b_Hall_drop 51 = .ok (.invokevirtual 132, 3) := by decide +kernel
theorem d_Hall_drop_54 : decode b_Hall_drop 54 = .ok (.invokevirtual 110, 3) := by decide +kernel
theorem d_Hall_drop_57 : decode b_Hall_drop 57 = .ok (.istore 4, 2) := by decide +kernel
theorem d_Hall_drop_59 : decode b_Hall_drop 59 = .ok (.aload_n 3, 1) := by decide +kernel
theorem d_Hall_drop_60 : decode b_Hall_drop 60 = .ok (.aload_n 2, 1) := by decide +kernel
theorem d_Hall_drop_61 : decode b_Hall_drop 61 = .ok (.getfield 87, 3) := by decide +kernel
theorem d_Hall_drop_64 : decode b_Hall_drop 64 = .ok (.getfield 142, 3) := by decide +kernel
theorem d_Hall_drop_67 : decode b_Hall_drop 67 = .ok (.invokevirtual 163, 3) := by decide +kernel
theorem d_Hall_drop_70 : decode b_Hall_drop 70 = .ok (.iload 4, 2) := by decide +kernel
theorem d_Hall_drop_72 : decode b_Hall_drop 72 = .ok (.ireturn, 1) := by decide +kernel
theorem d_Hall_match_0 : decode b_Hall_match 0 = .ok (.aload_n 0, 1) := by decide +kernel
theorem d_Hall_match_1 : decode b_Hall_match 1 = .ok (.iload_n 1, 1) := by decide +kernel
theorem d_Hall_match_2 : decode b_Hall_match 2 = .ok (.invokevirtual 118, 3) := by decide +kernel
theorem d_Hall_match_5 : decode b_Hall_match 5 = .ok (.astore_n 3, 1) := by decide +kernel
theorem d_Hall_match_6 : decode b_Hall_match 6 = .ok (.aload_n 0, 1) := by decide +kernel
theorem d_Hall_match_7 : decode b_Hall_match 7 = .ok (.invokevirtual 74, 3) := by decide +kernel
theorem d_Hall_match_10 : decode b_Hall_match 10 = .ok (.iload_n 2, 1) := by decide +kernel
theorem d_Hall_match_11 : decode b_Hall_match 11 = .ok (.ifCond .ge 11, 3) := by decide +kernel
theorem d_Hall_match_14 : decode b_Hall_match 14 = .ok (.new 84, 3) := by decide +kernel
theorem d_Hall_match_17 : decode b_Hall_match 17 = .ok (.dup, 1) := by decide +kernel
theorem d_Hall_match_18 : decode b_Hall_match 18 = .ok (.invokespecial 86, 3) := by decide +kernel
theorem d_Hall_match_21 : decode b_Hall_match 21 = .ok (.athrow, 1) := by decide +kernel
theorem d_Hall_match_22 : decode b_Hall_match 22 = .ok (.iconst 0, 1) := by decide +kernel
theorem d_Hall_match_23 : decode b_Hall_match 23 = .ok (.istore 4, 2) := by decide +kernel
theorem d_Hall_match_25 : decode b_Hall_match 25 = .ok (.aload_n 3, 1) := by decide +kernel
theorem d_Hall_match_26 : decode b_Hall_match 26 = .ok (.getfield 166, 3) := by decide +kernel
theorem d_Hall_match_29 : decode b_Hall_match 29 = .ok (.istore 5, 2) := by decide +kernel
theorem d_Hall_match_31 : decode b_Hall_match 31 = .ok (.iload 5, 2) := by decide +kernel
theorem d_Hall_match_33 : decode b_Hall_match 33 = .ok (.aload_n 3, 1) := by decide +kernel
theorem d_Hall_match_34 : decode b_Hall_match 34 = .ok (.getfield 169, 3) := by decide +kernel
theorem d_Hall_match_37 : decode b_Hall_match 37 = .ok (.if_icmp .ge 33, 3) := by decide +kernel
theorem d_Hall_match_40 : decode b_Hall_match 40 = .ok (.aload_n 0, 1) := by decide +kernel
theorem d_Hall_match_41 : decode b_Hall_match 41 = .ok (.getfield 16, 3) := by decide +kernel
theorem d_Hall_match_44 : decode b_Hall_match 44 = .ok (.aload_n 3, 1) := by decide +kernel
theorem d_Hall_match_45 : decode b_Hall_match 45 = .ok (.getfield 87, 3) := by decide +kernel
theorem d_Hall_match_48 : decode b_Hall_match 48 = .ok (.getfield 172, 3) := by decide +kernel
theorem d_Hall_match_51 : decode b_Hall_match 51 = .ok (.iload 5, 2) := by decide +kernel
theorem d_Hall_match_53 : decode b_Hall_match 53 = .ok (.aaload, 1) := by decide +kernel
theorem d_Hall_match_54 : decode b_Hall_match 54 = .ok (.iload_n 2, 1) := by decide +kernel
theorem d_Hall_match_55 : decode b_Hall_match 55 = .ok (.invokevirtual 176, 3) := by decide +kernel
theorem d_Hall_match_58 : decode b_Hall_match 58 = .ok (.ifCond .eq 6, 3) := by decide +kernel
theorem d_Hall_match_61 : decode b_Hall_match 61 = .ok (.iinc 4 1, 3) := by decide +kernel
theorem d_Hall_match_64 : decode b_Hall_match 64 = .ok (.iinc 5 1, 3) := by decide +kernel
theorem d_Hall_match_67 : decode b_Hall_match 67 = .ok (.goto (-36), 3) := by decide +kernel
theorem d_Hall_match_70 : decode b_Hall_match 70 = .ok (.iload 4, 2) := by decide +kernel
theorem d_Hall_match_72 : decode b_Hall_match 72 = .ok (.ireturn, 1) := by decide +kernel
theorem d_Hall_edges_0 : decode b_Hall_edges 0 = .ok (.iload_n 1, 1) := by decide +kernel
theorem d_Hall_edges_1 : decode b_Hall_edges 1 = .ok (.ifCond .lt 8, 3) := by decide +kernel
theorem d_Hall_edges_4 : decode b_Hall_edges 4 = .ok (.iload_n 1, 1) := by decide +kernel
theorem d_Hall_edges_5 : decode b_Hall_edges 5 = .ok (.iconst 5, 1) := by decide +kernel
theorem d_Hall_edges_6 : decode b_Hall_edges 6 = .ok (.if_icmp .le 11, 3) := by decide +kernel
theorem d_Hall_edges_9 : decode b_Hall_edges 9 = .ok (.new 71, 3) := by decide +kernel
theorem d_Hall_edges_12 : decode b_Hall_edges 12 = .ok (.dup, 1) := by decide +kernel
theorem d_Hall_edges_13 : decode b_Hall_edges 13 = .ok (.invokespecial 73, 3) := by decide +kernel
theorem d_Hall_edges_16 : decode b_Hall_edges 16 = .ok (.athrow, 1) := by decide +kernel
theorem d_Hall_edges_17 : decode b_Hall_edges 17 = .ok (.iload_n 1, 1) := by decide +kernel
theorem d_Hall_edges_18 : decode b_Hall_edges 18 = .ok (.iconst 5, 1) := by decide +kernel
theorem d_Hall_edges_19 : decode b_Hall_edges 19 = .ok (.if_icmp .eq 32, 3) := by decide +kernel
theorem d_Hall_edges_22 : decode b_Hall_edges 22 = .ok (.aload_n 0, 1) := by decide +kernel
theorem d_Hall_edges_23 : decode b_Hall_edges 23 = .ok (.getfield 24, 3) := by decide +kernel
theorem d_Hall_edges_26 : decode b_Hall_edges 26 = .ok (.iconst 1, 1) := by decide +kernel
theorem d_Hall_edges_27 : decode b_Hall_edges 27 = .ok (.aaload, 1) := by decide +kernel
theorem d_Hall_edges_28 : decode b_Hall_edges 28 = .ok (.getfield 87, 3) := by decide +kernel
theorem d_Hall_edges_31 : decode b_Hall_edges 31 = .ok (.astore_n 2, 1) := by decide +kernel
theorem d_Hall_edges_32 : decode b_Hall_edges 32 = .ok (.aload_n 0, 1) := by decide +kernel
theorem d_Hall_edges_33 : decode b_Hall_edges 33 = .ok (.getfield 41, 3) := by decide +kernel
theorem d_Hall_edges_36 : decode b_Hall_edges 36 = .ok (.aload_n 2, 1) := by decide +kernel
theorem d_Hall_edges_37 : decode b_Hall_edges 37 = .ok (.getstatic 180, 3) := by decide +kernel
theorem d_Hall_edges_40 : decode b_Hall_edges 40 = .ok (.iload_n 1, 1) := by decide +kernel
theorem d_Hall_edges_41 : decode b_Hall_edges 41 = .ok (.iaload, 1) := by decide +kernel
theorem d_Hall_edges_42 : decode b_Hall_edges 42 = .ok (.getstatic 183, 3) := by decide +kernel
theorem d_Hall_edges_45 : decode b_Hall_edges 45 = .ok (.iload_n 1, 1) := by decide +kernel
theorem d_Hall_edges_46 : decode b_Hall_edges 46 = .ok (.iaload, 1) := by decide +kernel
theorem d_Hall_edges_47 : decode b_Hall_edges 47 = .ok (.invokevirtual 186, 3) := by decide +kernel
theorem d_Hall_edges_50 : decode b_Hall_edges 50 = .ok (.ireturn, 1) := by decide +kernel
theorem d_Hall_edges_51 : decode b_Hall_edges 51 = .ok (.aload_n 0, 1) := by decide +kernel
theorem d_Hall_edges_52 : decode b_Hall_edges 52 = .ok (.invokevirtual 74, 3) := by decide +kernel
theorem d_Hall_edges_55 : decode b_Hall_edges 55 = .ok (.aload_n 0, 1) := by decide +kernel
theorem d_Hall_edges_56 : decode b_Hall_edges 56 = .ok (.getfield 24, 3) := by decide +kernel
theorem d_Hall_edges_59 : decode b_Hall_edges 59 = .ok (.iconst 0, 1) := by decide +kernel
theorem d_Hall_edges_60 : decode b_Hall_edges 60 = .ok (.aaload, 1) := by decide +kernel
theorem d_Hall_edges_61 : decode b_Hall_edges 61 = .ok (.getfield 87, 3) := by decide +kernel
theorem d_Hall_edges_64 : decode b_Hall_edges 64 = .ok (.astore_n 2, 1) := by decide +kernel
theorem d_Hall_edges_65 : decode b_Hall_edges 65 = .ok (.aload_n 2, 1) := by decide +kernel
theorem d_Hall_edges_66 : decode b_Hall_edges 66 = .ok (.aload_n 0, 1) := by decide +kernel
theorem d_Hall_edges_67 : decode b_Hall_edges 67 = .ok (.getfield 16, 3) := by decide +kernel
theorem d_Hall_edges_70 : decode b_Hall_edges 70 = .ok (.invokevirtual 91, 3) := by decide +kernel
theorem d_Hall_edges_73 : decode b_Hall_edges 73 = .ok (.istore_n 3, 1) := by decide +kernel
theorem d_Hall_edges_74 : decode b_Hall_edges 74 = .ok (.iload_n 3, 1) := by decide +kernel
theorem d_Hall_edges_75 : decode b_Hall_edges 75 = .ok (.iconst (-1), 1) := by decide +kernel
theorem d_Hall_edges_76 : decode b_Hall_edges 76 = .ok (.if_icmp .ne 7, 3) := by decide +kernel
theorem d_Hall_edges_79 : decode b_Hall_edges 79 = .ok (.iconst (-1), 1) := by decide +kernel
theorem d_Hall_edges_80 : decode b_Hall_edges 80 = .ok (.goto 12, 3) := by decide +kernel
theorem d_Hall_edges_83 : decode b_Hall_edges 83 = .ok (.aload_n 0, 1) := by decide +kernel
theorem d_Hall_edges_84 : decode b_Hall_edges 84 = .ok (.getfield 41, 3) := by decide +kernel
theorem d_Hall_edges_87 : decode b_Hall_edges 87 = .ok (.aload_n 2, 1) := by decide +kernel
theorem d_Hall_edges_88 : decode b_Hall_edges 88 = .ok (.iload_n 3, 1) := by decide +kernel
theorem d_Hall_edges_89 : decode b_Hall_edges 89 = .ok (.invokevirtual 190, 3) := by decide +kernel
theorem d_Hall_edges_92 : decode b_Hall_edges 92 = .ok (.ireturn, 1) := by decide +kernel
theorem d_Hall_freeze_0 : decode b_Hall_freeze 0 = .ok (.aload_n 0, 1) := by decide +kernel
theorem d_Hall_freeze_1 : decode b_Hall_freeze 1 = .ok (.getfield 48, 3) := by decide +kernel
theorem d_Hall_freeze_4 : decode b_Hall_freeze 4 = .ok (.aload_n 0, 1) := by decide +kernel
theorem d_Hall_freeze_5 : decode b_Hall_freeze 5 = .ok (.iload_n 1, 1) := by decide +kernel
theorem d_Hall_freeze_6 : decode b_Hall_freeze 6 = .ok (.invokevirtual 118, 3) := by decide +kernel
theorem d_Hall_freeze_9 : decode b_Hall_freeze 9 = .ok (.invokevirtual 194, 3) := by decide +kernel
theorem d_Hall_freeze_12 : decode b_Hall_freeze 12 = .ok (.aload_n 0, 1) := by decide +kernel
theorem d_Hall_freeze_13 : decode b_Hall_freeze 13 = .ok (.getfield 48, 3) := by decide +kernel
theorem d_Hall_freeze_16 : decode b_Hall_freeze 16 = .ok (.getfield 198, 3) := by decide +kernel
theorem d_Hall_freeze_19 : decode b_Hall_freeze 19 = .ok (.ireturn, 1) := by decide +kernel
theorem d_Hall_automaton_0 : decode b_Hall_automaton 0 = .ok (.iload_n 1, 1) := by decide +kernel
theorem d_Hall_automaton_1 : decode b_Hall_automaton 1 = .ok (.tableswitch 99 0 4 #[35, 43, 51, 59, 75], 35) := by decide +kernel
theorem d_Hall_automaton_36 : decode b_Hall_automaton 36 = .ok (.aload_n 0, 1) := by decide +kernel
theorem d_Hall_automaton_37 : decode b_Hall_automaton 37 = .ok (.getfield 48, 3) := by decide +kernel
theorem d_Hall_automaton_40 : decode b_Hall_automaton 40 = .ok (.getfield 198, 3) := by decide +kernel
theorem d_Hall_automaton_43 : decode b_Hall_automaton 43 = .ok (.ireturn, 1) := by decide +kernel
theorem d_Hall_automaton_44 : decode b_Hall_automaton 44 = .ok (.aload_n 0, 1) := by decide +kernel
theorem d_Hall_automaton_45 : decode b_Hall_automaton 45 = .ok (.getfield 48, 3) := by decide +kernel
theorem d_Hall_automaton_48 : decode b_Hall_automaton 48 = .ok (.getfield 201, 3) := by decide +kernel
theorem d_Hall_automaton_51 : decode b_Hall_automaton 51 = .ok (.ireturn, 1) := by decide +kernel
theorem d_Hall_automaton_52 : decode b_Hall_automaton 52 = .ok (.aload_n 0, 1) := by decide +kernel
theorem d_Hall_automaton_53 : decode b_Hall_automaton 53 = .ok (.getfield 48, 3) := by decide +kernel
theorem d_Hall_automaton_56 : decode b_Hall_automaton 56 = .ok (.getfield 204, 3) := by decide +kernel
theorem d_Hall_automaton_59 : decode b_Hall_automaton 59 = .ok (.ireturn, 1) := by decide +kernel
theorem d_Hall_automaton_60 : decode b_Hall_automaton 60 = .ok (.aload_n 0, 1) := by decide +kernel
theorem d_Hall_automaton_61 : decode b_Hall_automaton 61 = .ok (.invokevirtual 74, 3) := by decide +kernel
theorem d_Hall_automaton_64 : decode b_Hall_automaton 64 = .ok (.aload_n 0, 1) := by decide +kernel
theorem d_Hall_automaton_65 : decode b_Hall_automaton 65 = .ok (.getfield 48, 3) := by decide +kernel
theorem d_Hall_automaton_68 : decode b_Hall_automaton 68 = .ok (.aload_n 0, 1) := by decide +kernel
theorem d_Hall_automaton_69 : decode b_Hall_automaton 69 = .ok (.getfield 16, 3) := by decide +kernel
theorem d_Hall_automaton_72 : decode b_Hall_automaton 72 = .ok (.invokevirtual 207, 3) := by decide +kernel
theorem d_Hall_automaton_75 : decode b_Hall_automaton 75 = .ok (.ireturn, 1) := by decide +kernel
theorem d_Hall_automaton_76 : decode b_Hall_automaton 76 = .ok (.aload_n 0, 1) := by decide +kernel
theorem d_Hall_automaton_77 : decode b_Hall_automaton 77 = .ok (.invokevirtual 74, 3) := by decide +kernel
theorem d_Hall_automaton_80 : decode b_Hall_automaton 80 = .ok (.aload_n 0, 1) := by decide +kernel
theorem d_Hall_automaton_81 : decode b_Hall_automaton 81 = .ok (.getfield 48, 3) := by decide +kernel
theorem d_Hall_automaton_84 : decode b_Hall_automaton 84 = .ok (.aload_n 0, 1) := by decide +kernel
theorem d_Hall_automaton_85 : decode b_Hall_automaton 85 = .ok (.getfield 16, 3) := by decide +kernel
theorem d_Hall_automaton_88 : decode b_Hall_automaton 88 = .ok (.invokevirtual 210, 3) := by decide +kernel
theorem d_Hall_automaton_91 : decode b_Hall_automaton 91 = .ok (.ifCond .eq 7, 3) := by decide +kernel
theorem d_Hall_automaton_94 : decode b_Hall_automaton 94 = .ok (.iconst 1, 1) := by decide +kernel
theorem d_Hall_automaton_95 : decode b_Hall_automaton 95 = .ok (.goto 4, 3) := by decide +kernel
theorem d_Hall_automaton_98 : decode b_Hall_automaton 98 = .ok (.iconst 0, 1) := by decide +kernel
theorem d_Hall_automaton_99 : decode b_Hall_automaton 99 = .ok (.ireturn, 1) := by decide +kernel
theorem d_Hall_automaton_100 : decode b_Hall_automaton 100 = .ok (.iconst (-1), 1) := by decide +kernel
theorem d_Hall_automaton_101 : decode b_Hall_automaton 101 = .ok (.ireturn, 1) := by decide +kernel
theorem d_Hall_insert_0 : decode b_Hall_insert 0 = .ok (.iload_n 1, 1) := by decide +kernel
theorem d_Hall_insert_1 : decode b_Hall_insert 1 = .ok (.ifCond .lt 14, 3) := by decide +kernel
theorem d_Hall_insert_4 : decode b_Hall_insert 4 = .ok (.iload_n 1, 1) := by decide +kernel
theorem d_Hall_insert_5 : decode b_Hall_insert 5 = .ok (.aload_n 0, 1) := by decide +kernel
theorem d_Hall_insert_6 : decode b_Hall_insert 6 = .ok (.getfield 55, 3) := by decide +kernel
theorem d_Hall_insert_9 : decode b_Hall_insert 9 = .ok (.getfield 213, 3) := by decide +kernel
theorem d_Hall_insert_12 : decode b_Hall_insert 12 = .ok (.if_icmp .le 11, 3) := by decide +kernel
theorem d_Hall_insert_15 : decode b_Hall_insert 15 = .ok (.new 71, 3) := by decide +kernel
theorem d_Hall_insert_18 : decode b_Hall_insert 18 = .ok (.dup, 1) := by decide +kernel
theorem d_Hall_insert_19 : decode b_Hall_insert 19 = .ok (.invokespecial 73, 3) := by decide +kernel
theorem d_Hall_insert_22 : decode b_Hall_insert 22 = .ok (.athrow, 1) := by decide +kernel
theorem d_Hall_insert_23 : decode b_Hall_insert 23 = .ok (.aload_n 0, 1) := by decide +kernel
theorem d_Hall_insert_24 : decode b_Hall_insert 24 = .ok (.invokevirtual 74, 3) := by decide +kernel
theorem d_Hall_insert_27 : decode b_Hall_insert 27 = .ok (.aload_n 0, 1) := by decide +kernel
theorem d_Hall_insert_28 : decode b_Hall_insert 28 = .ok (.getfield 55, 3) := by decide +kernel
theorem d_Hall_insert_31 : decode b_Hall_insert 31 = .ok (.getfield 213, 3) := by decide +kernel
theorem d_Hall_insert_34 : decode b_Hall_insert 34 = .ok (.aload_n 0, 1) := by decide +kernel
theorem d_Hall_insert_35 : decode b_Hall_insert 35 = .ok (.getfield 16, 3) := by decide +kernel
theorem d_Hall_insert_38 : decode b_Hall_insert 38 = .ok (.getfield 59, 3) := by decide +kernel
theorem d_Hall_insert_41 : decode b_Hall_insert 41 = .ok (.iadd, 1) := by decide +kernel
theorem d_Hall_insert_42 : decode b_Hall_insert 42 = .ok (.bipush 120, 2) := by decide +kernel
theorem d_Hall_insert_44 : decode b_Hall_insert 44 = .ok (.if_icmp .le 11, 3) := by decide +kernel
theorem d_Hall_insert_47 : decode b_Hall_insert 47 = .ok (.new 102, 3) := by decide +kernel
theorem d_Hall_insert_50 : decode b_Hall_insert 50 = .ok (.dup, 1) := by decide +kernel
theorem d_Hall_insert_51 : decode b_Hall_insert 51 = .ok (.invokespecial 104, 3) := by decide +kernel
theorem d_Hall_insert_54 : decode b_Hall_insert 54 = .ok (.athrow, 1) := by decide +kernel
theorem d_Hall_insert_55 : decode b_Hall_insert 55 = .ok (.aload_n 0, 1) := by decide +kernel
theorem d_Hall_insert_56 : decode b_Hall_insert 56 = .ok (.getfield 55, 3) := by decide +kernel
theorem d_Hall_insert_59 : decode b_Hall_insert 59 = .ok (.iload_n 1, 1) := by decide +kernel
theorem d_Hall_insert_60 : decode b_Hall_insert 60 = .ok (.aload_n 0, 1) := by decide +kernel
theorem d_Hall_insert_61 : decode b_Hall_insert 61 = .ok (.getfield 16, 3) := by decide +kernel
theorem d_Hall_insert_64 : decode b_Hall_insert 64 = .ok (.invokevirtual 214, 3) := by decide +kernel
theorem d_Hall_insert_67 : decode b_Hall_insert 67 = .ok (.aload_n 0, 1) := by decide +kernel
theorem d_Hall_insert_68 : decode b_Hall_insert 68 = .ok (.getfield 55, 3) := by decide +kernel
theorem d_Hall_insert_71 : decode b_Hall_insert 71 = .ok (.getfield 213, 3) := by decide +kernel
theorem d_Hall_insert_74 : decode b_Hall_insert 74 = .ok (.ireturn, 1) := by decide +kernel
theorem d_Hall_delete_0 : decode b_Hall_delete 0 = .ok (.iload_n 1, 1) := by decide +kernel
theorem d_Hall_delete_1 : decode b_Hall_delete 1 = .ok (.ifCond .lt 19, 3) := by decide +kernel
theorem d_Hall_delete_4 : decode b_Hall_delete 4 = .ok (.iload_n 1, 1) := by decide +kernel
theorem d_Hall_delete_5 : decode b_Hall_delete 5 = .ok (.iload_n 2, 1) := by decide +kernel
theorem d_Hall_delete_6 : decode b_Hall_delete 6 = .ok (.if_icmp .gt 14, 3) := by decide +kernel
theorem d_Hall_delete_9 : decode b_Hall_delete 9 = .ok (.iload_n 2, 1) := by decide +kernel
theorem d_Hall_delete_10 : decode b_Hall_delete 10 = .ok (.aload_n 0, 1) := by decide +kernel
theorem d_Hall_delete_11 : decode b_Hall_delete 11 = .ok (.getfield 55, 3) := by decide +kernel
theorem d_Hall_delete_14 : decode b_Hall_delete 14 = .ok (.getfield 213, 3) := by decide +kernel
theorem d_Hall_delete_17 : decode b_Hall_delete 17 = .ok (.if_icmp .le 11, 3) := by decide +kernel
theorem d_Hall_delete_20 : decode b_Hall_delete 20 = .ok (.new 71, 3) := by decide +kernel
theorem d_Hall_delete_23 : decode b_Hall_delete 23 = .ok (.dup, 1) := by decide +kernel
theorem d_Hall_delete_24 : decode b_Hall_delete 24 = .ok (.invokespecial 73, 3) := by decide +kernel
theorem d_Hall_delete_27 : decode b_Hall_delete 27 = .ok (.athrow, 1) := by decide +kernel
theorem d_Hall_delete_28 : decode b_Hall_delete 28 = .ok (.aload_n 0, 1) := by decide +kernel
theorem d_Hall_delete_29 : decode b_Hall_delete 29 = .ok (.getfield 55, 3) := by decide +kernel
theorem d_Hall_delete_32 : decode b_Hall_delete 32 = .ok (.iload_n 1, 1) := by decide +kernel
theorem d_Hall_delete_33 : decode b_Hall_delete 33 = .ok (.iload_n 2, 1) := by decide +kernel
theorem d_Hall_delete_34 : decode b_Hall_delete 34 = .ok (.invokevirtual 218, 3) := by decide +kernel
theorem d_Hall_delete_37 : decode b_Hall_delete 37 = .ok (.aload_n 0, 1) := by decide +kernel
theorem d_Hall_delete_38 : decode b_Hall_delete 38 = .ok (.getfield 55, 3) := by decide +kernel
theorem d_Hall_delete_41 : decode b_Hall_delete 41 = .ok (.getfield 213, 3) := by decide +kernel
theorem d_Hall_delete_44 : decode b_Hall_delete 44 = .ok (.ireturn, 1) := by decide +kernel
theorem d_Hall_undo_0 : decode b_Hall_undo 0 = .ok (.aload_n 0, 1) := by decide +kernel
theorem d_Hall_undo_1 : decode b_Hall_undo 1 = .ok (.getfield 55, 3) := by decide +kernel
theorem d_Hall_undo_4 : decode b_Hall_undo 4 = .ok (.invokevirtual 222, 3) := by decide +kernel
theorem d_Hall_undo_7 : decode b_Hall_undo 7 = .ok (.ifCond .eq 13, 3) := by decide +kernel
theorem d_Hall_undo_10 : decode b_Hall_undo 10 = .ok (.aload_n 0, 1) := by decide +kernel
theorem d_Hall_undo_11 : decode b_Hall_undo 11 = .ok (.getfield 55, 3) := by decide +kernel
theorem d_Hall_undo_14 : decode b_Hall_undo 14 = .ok (.getfield 213, 3) := by decide +kernel
theorem d_Hall_undo_17 : decode b_Hall_undo 17 = .ok (.goto 4, 3) := by decide +kernel
theorem d_Hall_undo_20 : decode b_Hall_undo 20 = .ok (.iconst (-1), 1) := by decide +kernel
theorem d_Hall_undo_21 : decode b_Hall_undo 21 = .ok (.ireturn, 1) := by decide +kernel
theorem d_Hall_letter_0 : decode b_Hall_letter 0 = .ok (.iload_n 1, 1) := by decide +kernel
theorem d_Hall_letter_1 : decode b_Hall_letter 1 = .ok (.iconst (-1), 1) := by decide +kernel
theorem d_Hall_letter_2 : decode b_Hall_letter 2 = .ok (.if_icmp .ne 11, 3) := by decide +kernel
theorem d_Hall_letter_5 : decode b_Hall_letter 5 = .ok (.aload_n 0, 1) := by decide +kernel
theorem d_Hall_letter_6 : decode b_Hall_letter 6 = .ok (.getfield 55, 3) := by decide +kernel
theorem d_Hall_letter_9 : decode b_Hall_letter 9 = .ok (.getfield 213, 3) := by decide +kernel
theorem d_Hall_letter_12 : decode b_Hall_letter 12 = .ok (.ireturn, 1) := by decide +kernel
theorem d_Hall_letter_13 : decode b_Hall_letter 13 = .ok (.iload_n 1, 1) := by decide +kernel
theorem d_Hall_letter_14 : decode b_Hall_letter 14 = .ok (.bipush (-2), 2) := by decide +kernel
theorem d_Hall_letter_16 : decode b_Hall_letter 16 = .ok (.if_icmp .ne 11, 3) := by decide +kernel
theorem d_Hall_letter_19 : decode b_Hall_letter 19 = .ok (.aload_n 0, 1) := by decide +kernel
theorem d_Hall_letter_20 : decode b_Hall_letter 20 = .ok (.getfield 55, 3) := by decide +kernel
theorem d_Hall_letter_23 : decode b_Hall_letter 23 = .ok (.invokevirtual 226, 3) := by decide +kernel
theorem d_Hall_letter_26 : decode b_Hall_letter 26 = .ok (.ireturn, 1) := by decide +kernel
theorem d_Hall_letter_27 : decode b_Hall_letter 27 = .ok (.iload_n 1, 1) := by decide +kernel
theorem d_Hall_letter_28 : decode b_Hall_letter 28 = .ok (.ifCond .lt 26, 3) := by decide +kernel
theorem d_Hall_letter_31 : decode b_Hall_letter 31 = .ok (.iload_n 1, 1) := by decide +kernel
theorem d_Hall_letter_32 : decode b_Hall_letter 32 = .ok (.aload_n 0, 1) := by decide +kernel
theorem d_Hall_letter_33 : decode b_Hall_letter 33 = .ok (.getfield 55, 3) := by decide +kernel
theorem d_Hall_letter_36 : decode b_Hall_letter 36 = .ok (.getfield 213, 3) := by decide +kernel
theorem d_Hall_letter_39 : decode b_Hall_letter 39 = .ok (.if_icmp .ge 15, 3) := by decide +kernel
theorem d_Hall_letter_42 : decode b_Hall_letter 42 = .ok (.aload_n 0, 1) := by decide +kernel
theorem d_Hall_letter_43 : decode b_Hall_letter 43 = .ok (.getfield 55, 3) := by decide +kernel
theorem d_Hall_letter_46 : decode b_Hall_letter 46 = .ok (.getfield 229, 3) := by decide +kernel
theorem d_Hall_letter_49 : decode b_Hall_letter 49 = .ok (.iload_n 1, 1) := by decide +kernel
theorem d_Hall_letter_50 : decode b_Hall_letter 50 = .ok (.iaload, 1) := by decide +kernel
theorem d_Hall_letter_51 : decode b_Hall_letter 51 = .ok (.goto 4, 3) := by decide +kernel
theorem d_Hall_letter_54 : decode b_Hall_letter 54 = .ok (.iconst (-1), 1) := by decide +kernel
theorem d_Hall_letter_55 : decode b_Hall_letter 55 = .ok (.ireturn, 1) := by decide +kernel
theorem d_Hall_suffix_0 : decode b_Hall_suffix 0 = .ok (.iload_n 1, 1) := by decide +kernel
theorem d_Hall_suffix_1 : decode b_Hall_suffix 1 = .ok (.ifCond .lt 14, 3) := by decide +kernel
theorem d_Hall_suffix_4 : decode b_Hall_suffix 4 = .ok (.iload_n 1, 1) := by decide +kernel
theorem d_Hall_suffix_5 : decode b_Hall_suffix 5 = .ok (.aload_n 0, 1) := by decide +kernel
theorem d_Hall_suffix_6 : decode b_Hall_suffix 6 = .ok (.getfield 55, 3) := by decide +kernel
theorem d_Hall_suffix_9 : decode b_Hall_suffix 9 = .ok (.getfield 213, 3) := by decide +kernel
theorem d_Hall_suffix_12 : decode b_Hall_suffix 12 = .ok (.if_icmp .lt 5, 3) := by decide +kernel
theorem d_Hall_suffix_15 : decode b_Hall_suffix 15 = .ok (.iconst (-1), 1) := by decide +kernel
theorem d_Hall_suffix_16 : decode b_Hall_suffix 16 = .ok (.ireturn, 1) := by decide +kernel
theorem d_Hall_suffix_17 : decode b_Hall_suffix 17 = .ok (.iload_n 2, 1) := by decide +kernel
theorem d_Hall_suffix_18 : decode b_Hall_suffix 18 = .ok (.lookupswitch 48 #[(0, 26), (1, 39)], 26) := by decide +kernel
theorem d_Hall_suffix_44 : decode b_Hall_suffix 44 = .ok (.aload_n 0, 1) := by decide +kernel
theorem d_Hall_suffix_45 : decode b_Hall_suffix 45 = .ok (.getfield 55, 3) := by decide +kernel
theorem d_Hall_suffix_48 : decode b_Hall_suffix 48 = .ok (.invokevirtual 230, 3) := by decide +kernel
theorem d_Hall_suffix_51 : decode b_Hall_suffix 51 = .ok (.getfield 234, 3) := by decide +kernel
theorem d_Hall_suffix_54 : decode b_Hall_suffix 54 = .ok (.iload_n 1, 1) := by decide +kernel
theorem d_Hall_suffix_55 : decode b_Hall_suffix 55 = .ok (.iaload, 1) := by decide +kernel
theorem d_Hall_suffix_56 : decode b_Hall_suffix 56 = .ok (.ireturn, 1) := by decide +kernel
theorem d_Hall_suffix_57 : decode b_Hall_suffix 57 = .ok (.aload_n 0, 1) := by decide +kernel
theorem d_Hall_suffix_58 : decode b_Hall_suffix 58 = .ok (.getfield 55, 3) := by decide +kernel
theorem d_Hall_suffix_61 : decode b_Hall_suffix 61 = .ok (.iload_n 1, 1) := by decide +kernel
theorem d_Hall_suffix_62 : decode b_Hall_suffix 62 = .ok (.invokevirtual 239, 3) := by decide +kernel
theorem d_Hall_suffix_65 : decode b_Hall_suffix 65 = .ok (.ireturn, 1) := by decide +kernel
theorem d_Hall_suffix_66 : decode b_Hall_suffix 66 = .ok (.iconst (-1), 1) := by decide +kernel
theorem d_Hall_suffix_67 : decode b_Hall_suffix 67 = .ok (.ireturn, 1) := by decide +kernel
theorem d_Hall_locate_0 : decode b_Hall_locate 0 = .ok (.iload_n 1, 1) := by decide +kernel
theorem d_Hall_locate_1 : decode b_Hall_locate 1 = .ok (.lookupswitch 59 #[(0, 27), (1, 43)], 27) := by decide +kernel
theorem d_Hall_locate_28 : decode b_Hall_locate 28 = .ok (.aload_n 0, 1) := by decide +kernel
theorem d_Hall_locate_29 : decode b_Hall_locate 29 = .ok (.invokevirtual 74, 3) := by decide +kernel
theorem d_Hall_locate_32 : decode b_Hall_locate 32 = .ok (.aload_n 0, 1) := by decide +kernel
theorem d_Hall_locate_33 : decode b_Hall_locate 33 = .ok (.getfield 55, 3) := by decide +kernel
theorem d_Hall_locate_36 : decode b_Hall_locate 36 = .ok (.aload_n 0, 1) := by decide +kernel
theorem d_Hall_locate_37 : decode b_Hall_locate 37 = .ok (.getfield 16, 3) := by decide +kernel
theorem d_Hall_locate_40 : decode b_Hall_locate 40 = .ok (.invokevirtual 242, 3) := by decide +kernel
theorem d_Hall_locate_43 : decode b_Hall_locate 43 = .ok (.ireturn, 1) := by decide +kernel
theorem d_Hall_locate_44 : decode b_Hall_locate 44 = .ok (.aload_n 0, 1) := by decide +kernel
theorem d_Hall_locate_45 : decode b_Hall_locate 45 = .ok (.invokevirtual 74, 3) := by decide +kernel
theorem d_Hall_locate_48 : decode b_Hall_locate 48 = .ok (.aload_n 0, 1) := by decide +kernel
theorem d_Hall_locate_49 : decode b_Hall_locate 49 = .ok (.getfield 55, 3) := by decide +kernel
theorem d_Hall_locate_52 : decode b_Hall_locate 52 = .ok (.aload_n 0, 1) := by decide +kernel
theorem d_Hall_locate_53 : decode b_Hall_locate 53 = .ok (.getfield 16, 3) := by decide +kernel
theorem d_Hall_locate_56 : decode b_Hall_locate 56 = .ok (.invokevirtual 245, 3) := by decide +kernel
theorem d_Hall_locate_59 : decode b_Hall_locate 59 = .ok (.ireturn, 1) := by decide +kernel
theorem d_Hall_locate_60 : decode b_Hall_locate 60 = .ok (.iconst (-1), 1) := by decide +kernel
theorem d_Hall_locate_61 : decode b_Hall_locate 61 = .ok (.ireturn, 1) := by decide +kernel
theorem d_Hall_useTape_0 : decode b_Hall_useTape 0 = .ok (.aload_n 0, 1) := by decide +kernel
theorem d_Hall_useTape_1 : decode b_Hall_useTape 1 = .ok (.getfield 16, 3) := by decide +kernel
theorem d_Hall_useTape_4 : decode b_Hall_useTape 4 = .ok (.aload_n 0, 1) := by decide +kernel
theorem d_Hall_useTape_5 : decode b_Hall_useTape 5 = .ok (.getfield 10, 3) := by decide +kernel
theorem d_Hall_useTape_8 : decode b_Hall_useTape 8 = .ok (.invokevirtual 248, 3) := by decide +kernel
theorem d_Hall_useTape_11 : decode b_Hall_useTape 11 = .ok (.aload_n 0, 1) := by decide +kernel
theorem d_Hall_useTape_12 : decode b_Hall_useTape 12 = .ok (.getfield 10, 3) := by decide +kernel
theorem d_Hall_useTape_15 : decode b_Hall_useTape 15 = .ok (.invokevirtual 251, 3) := by decide +kernel
theorem d_Hall_useTape_18 : decode b_Hall_useTape 18 = .ok (.return_, 1) := by decide +kernel
theorem d_Hall_isView_0 : decode b_Hall_isView 0 = .ok (.iload_n 1, 1) := by decide +kernel
theorem d_Hall_isView_1 : decode b_Hall_isView 1 = .ok (.ifCond .lt 15, 3) := by decide +kernel
theorem d_Hall_isView_4 : decode b_Hall_isView 4 = .ok (.iload_n 1, 1) := by decide +kernel
theorem d_Hall_isView_5 : decode b_Hall_isView 5 = .ok (.aload_n 0, 1) := by decide +kernel
theorem d_Hall_isView_6 : decode b_Hall_isView 6 = .ok (.getfield 34, 3) := by decide +kernel
theorem d_Hall_isView_9 : decode b_Hall_isView 9 = .ok (.if_icmp .ge 7, 3) := by decide +kernel
theorem d_Hall_isView_12 : decode b_Hall_isView 12 = .ok (.iconst 1, 1) := by decide +kernel
theorem d_Hall_isView_13 : decode b_Hall_isView 13 = .ok (.goto 4, 3) := by decide +kernel
theorem d_Hall_isView_16 : decode b_Hall_isView 16 = .ok (.iconst 0, 1) := by decide +kernel
theorem d_Hall_isView_17 : decode b_Hall_isView 17 = .ok (.ireturn, 1) := by decide +kernel
theorem d_Hall_viewNumbered_0 : decode b_Hall_viewNumbered 0 = .ok (.aload_n 0, 1) := by decide +kernel
theorem d_Hall_viewNumbered_1 : decode b_Hall_viewNumbered 1 = .ok (.iload_n 1, 1) := by decide +kernel
theorem d_Hall_viewNumbered_2 : decode b_Hall_viewNumbered 2 = .ok (.invokevirtual 114, 3) := by decide +kernel
theorem d_Hall_viewNumbered_5 : decode b_Hall_viewNumbered 5 = .ok (.ifCond .ne 11, 3) := by decide +kernel
theorem d_Hall_viewNumbered_8 : decode b_Hall_viewNumbered 8 = .ok (.new 71, 3) := by decide +kernel
theorem d_Hall_viewNumbered_11 : decode b_Hall_viewNumbered 11 = .ok (.dup, 1) := by decide +kernel
theorem d_Hall_viewNumbered_12 : decode b_Hall_viewNumbered 12 = .ok (.invokespecial 73, 3) := by decide +kernel
theorem d_Hall_viewNumbered_15 : decode b_Hall_viewNumbered 15 = .ok (.athrow, 1) := by decide +kernel
theorem d_Hall_viewNumbered_16 : decode b_Hall_viewNumbered 16 = .ok (.aload_n 0, 1) := by decide +kernel
theorem d_Hall_viewNumbered_17 : decode b_Hall_viewNumbered 17 = .ok (.getfield 24, 3) := by decide +kernel
theorem d_Hall_viewNumbered_20 : decode b_Hall_viewNumbered 20 = .ok (.iload_n 1, 1) := by decide +kernel
theorem d_Hall_viewNumbered_21 : decode b_Hall_viewNumbered 21 = .ok (.aaload, 1) := by decide +kernel
theorem d_Hall_viewNumbered_22 : decode b_Hall_viewNumbered 22 = .ok (.areturn, 1) := by decide +kernel
theorem d_Hall_measured_0 : decode b_Hall_measured 0 = .ok (.aload_n 0, 1) := by decide +kernel
theorem d_Hall_measured_1 : decode b_Hall_measured 1 = .ok (.iload_n 1, 1) := by decide +kernel
theorem d_Hall_measured_2 : decode b_Hall_measured 2 = .ok (.invokevirtual 67, 3) := by decide +kernel
theorem d_Hall_measured_5 : decode b_Hall_measured 5 = .ok (.astore_n 2, 1) := by decide +kernel
theorem d_Hall_measured_6 : decode b_Hall_measured 6 = .ok (.aload_n 2, 1) := by decide +kernel
theorem d_Hall_measured_7 : decode b_Hall_measured 7 = .ok (.invokevirtual 254, 3) := by decide +kernel
theorem d_Hall_measured_10 : decode b_Hall_measured 10 = .ok (.aload_n 2, 1) := by decide +kernel
theorem d_Hall_measured_11 : decode b_Hall_measured 11 = .ok (.areturn, 1) := by decide +kernel
theorem d_Hall_tell_0 : decode b_Hall_tell 0 = .ok (.iload_n 2, 1) := by decide +kernel
theorem d_Hall_tell_1 : decode b_Hall_tell 1 = .ok (.ifCond .lt 11, 3) := by decide +kernel
theorem d_Hall_tell_4 : decode b_Hall_tell 4 = .ok (.iload_n 2, 1) := by decide +kernel
theorem d_Hall_tell_5 : decode b_Hall_tell 5 = .ok (.aload_n 1, 1) := by decide +kernel
theorem d_Hall_tell_6 : decode b_Hall_tell 6 = .ok (.invokevirtual 121, 3) := by decide +kernel
theorem d_Hall_tell_9 : decode b_Hall_tell 9 = .ok (.if_icmp .lt 11, 3) := by decide +kernel
theorem d_Hall_tell_12 : decode b_Hall_tell 12 = .ok (.new 257, 3) := by decide +kernel
theorem d_Hall_tell_15 : decode b_Hall_tell 15 = .ok (.dup, 1) := by decide +kernel
theorem d_Hall_tell_16 : decode b_Hall_tell 16 = .ok (.invokespecial 259, 3) := by decide +kernel
theorem d_Hall_tell_19 : decode b_Hall_tell 19 = .ok (.athrow, 1) := by decide +kernel
theorem d_Hall_tell_20 : decode b_Hall_tell 20 = .ok (.aload_n 1, 1) := by decide +kernel
theorem d_Hall_tell_21 : decode b_Hall_tell 21 = .ok (.iload_n 2, 1) := by decide +kernel
theorem d_Hall_tell_22 : decode b_Hall_tell 22 = .ok (.invokevirtual 132, 3) := by decide +kernel
theorem d_Hall_tell_25 : decode b_Hall_tell 25 = .ok (.istore_n 3, 1) := by decide +kernel
theorem d_Hall_tell_26 : decode b_Hall_tell 26 = .ok (.aload_n 0, 1) := by decide +kernel
theorem d_Hall_tell_27 : decode b_Hall_tell 27 = .ok (.getfield 19, 3) := by decide +kernel
theorem d_Hall_tell_30 : decode b_Hall_tell 30 = .ok (.aload_n 1, 1) := by decide +kernel
theorem d_Hall_tell_31 : decode b_Hall_tell 31 = .ok (.getfield 87, 3) := by decide +kernel
theorem d_Hall_tell_34 : decode b_Hall_tell 34 = .ok (.getfield 172, 3) := by decide +kernel
theorem d_Hall_tell_37 : decode b_Hall_tell 37 = .ok (.iload_n 3, 1) := by decide +kernel
theorem d_Hall_tell_38 : decode b_Hall_tell 38 = .ok (.aaload, 1) := by decide +kernel
theorem d_Hall_tell_39 : decode b_Hall_tell 39 = .ok (.invokevirtual 248, 3) := by decide +kernel
theorem d_Hall_tell_42 : decode b_Hall_tell 42 = .ok (.aload_n 1, 1) := by decide +kernel
theorem d_Hall_tell_43 : decode b_Hall_tell 43 = .ok (.getfield 87, 3) := by decide +kernel
theorem d_Hall_tell_46 : decode b_Hall_tell 46 = .ok (.getfield 95, 3) := by decide +kernel
theorem d_Hall_tell_49 : decode b_Hall_tell 49 = .ok (.iload_n 3, 1) := by decide +kernel
theorem d_Hall_tell_50 : decode b_Hall_tell 50 = .ok (.iaload, 1) := by decide +kernel
theorem d_Hall_tell_51 : decode b_Hall_tell 51 = .ok (.ireturn, 1) := by decide +kernel
