/-! printed by wip/tools/names.py: decode rows -/
theorem d_Key_init_0 : decode b_Key_init 0 = .ok (.aload_n 0, 1) := by decide +kernel
theorem d_Key_init_1 : decode b_Key_init 1 = .ok (.invokespecial 3, 3) := by decide +kernel
theorem d_Key_init_4 : decode b_Key_init 4 = .ok (.aload_n 0, 1) := by decide +kernel
theorem d_Key_init_5 : decode b_Key_init 5 = .ok (.bipush 8, 2) := by decide +kernel
theorem d_Key_init_7 : decode b_Key_init 7 = .ok (.newarray .int, 2) := by decide +kernel
theorem d_Key_init_9 : decode b_Key_init 9 = .ok (.putfield 9, 3) := by decide +kernel
theorem d_Key_init_12 : decode b_Key_init 12 = .ok (.return_, 1) := by decide +kernel
theorem d_Key_clear_0 : decode b_Key_clear 0 = .ok (.aload_n 0, 1) := by decide +kernel
theorem d_Key_clear_1 : decode b_Key_clear 1 = .ok (.iconst 0, 1) := by decide +kernel
theorem d_Key_clear_2 : decode b_Key_clear 2 = .ok (.putfield 15, 3) := by decide +kernel
theorem d_Key_clear_5 : decode b_Key_clear 5 = .ok (.return_, 1) := by decide +kernel
theorem d_Key_append_0 : decode b_Key_append 0 = .ok (.aload_n 0, 1) := by decide +kernel
theorem d_Key_append_1 : decode b_Key_append 1 = .ok (.getfield 15, 3) := by decide +kernel
theorem d_Key_append_4 : decode b_Key_append 4 = .ok (.bipush 8, 2) := by decide +kernel
theorem d_Key_append_6 : decode b_Key_append 6 = .ok (.if_icmp .ge 23, 3) := by decide +kernel
theorem d_Key_append_9 : decode b_Key_append 9 = .ok (.aload_n 0, 1) := by decide +kernel
theorem d_Key_append_10 : decode b_Key_append 10 = .ok (.getfield 9, 3) := by decide +kernel
theorem d_Key_append_13 : decode b_Key_append 13 = .ok (.aload_n 0, 1) := by decide +kernel
theorem d_Key_append_14 : decode b_Key_append 14 = .ok (.getfield 15, 3) := by decide +kernel
theorem d_Key_append_17 : decode b_Key_append 17 = .ok (.iload_n 1, 1) := by decide +kernel
theorem d_Key_append_18 : decode b_Key_append 18 = .ok (.iastore, 1) := by decide +kernel
theorem d_Key_append_19 : decode b_Key_append 19 = .ok (.aload_n 0, 1) := by decide +kernel
theorem d_Key_append_20 : decode b_Key_append 20 = .ok (.dup, 1) := by decide +kernel
theorem d_Key_append_21 : decode b_Key_append 21 = .ok (.getfield 15, 3) := by decide +kernel
theorem d_Key_append_24 : decode b_Key_append 24 = .ok (.iconst 1, 1) := by decide +kernel
theorem d_Key_append_25 : decode b_Key_append 25 = .ok (.iadd, 1) := by decide +kernel
theorem d_Key_append_26 : decode b_Key_append 26 = .ok (.putfield 15, 3) := by decide +kernel
theorem d_Key_append_29 : decode b_Key_append 29 = .ok (.return_, 1) := by decide +kernel
theorem d_Key_become_0 : decode b_Key_become 0 = .ok (.aload_n 1, 1) := by decide +kernel
theorem d_Key_become_1 : decode b_Key_become 1 = .ok (.getfield 9, 3) := by decide +kernel
theorem d_Key_become_4 : decode b_Key_become 4 = .ok (.iconst 0, 1) := by decide +kernel
theorem d_Key_become_5 : decode b_Key_become 5 = .ok (.aload_n 0, 1) := by decide +kernel
theorem d_Key_become_6 : decode b_Key_become 6 = .ok (.getfield 9, 3) := by decide +kernel
theorem d_Key_become_9 : decode b_Key_become 9 = .ok (.iconst 0, 1) := by decide +kernel
theorem d_Key_become_10 : decode b_Key_become 10 = .ok (.aload_n 1, 1) := by decide +kernel
theorem d_Key_become_11 : decode b_Key_become 11 = .ok (.getfield 15, 3) := by decide +kernel
theorem d_Key_become_14 : decode b_Key_become 14 = .ok (.invokestatic 19, 3) := by decide +kernel
theorem d_Key_become_17 : decode b_Key_become 17 = .ok (.aload_n 0, 1) := by decide +kernel
theorem d_Key_become_18 : decode b_Key_become 18 = .ok (.aload_n 1, 1) := by decide +kernel
theorem d_Key_become_19 : decode b_Key_become 19 = .ok (.getfield 15, 3) := by decide +kernel
theorem d_Key_become_22 : decode b_Key_become 22 = .ok (.putfield 15, 3) := by decide +kernel
theorem d_Key_become_25 : decode b_Key_become 25 = .ok (.return_, 1) := by decide +kernel
theorem d_Key_shared_0 : decode b_Key_shared 0 = .ok (.iconst 0, 1) := by decide +kernel
theorem d_Key_shared_1 : decode b_Key_shared 1 = .ok (.istore_n 2, 1) := by decide +kernel
theorem d_Key_shared_2 : decode b_Key_shared 2 = .ok (.iload_n 2, 1) := by decide +kernel
theorem d_Key_shared_3 : decode b_Key_shared 3 = .ok (.aload_n 0, 1) := by decide +kernel
theorem d_Key_shared_4 : decode b_Key_shared 4 = .ok (.getfield 15, 3) := by decide +kernel
theorem d_Key_shared_7 : decode b_Key_shared 7 = .ok (.if_icmp .ge 32, 3) := by decide +kernel
theorem d_Key_shared_10 : decode b_Key_shared 10 = .ok (.iload_n 2, 1) := by decide +kernel
theorem d_Key_shared_11 : decode b_Key_shared 11 = .ok (.aload_n 1, 1) := by decide +kernel
theorem d_Key_shared_12 : decode b_Key_shared 12 = .ok (.getfield 15, 3) := by decide +kernel
theorem d_Key_shared_15 : decode b_Key_shared 15 = .ok (.if_icmp .ge 24, 3) := by decide +kernel
theorem d_Key_shared_18 : decode b_Key_shared 18 = .ok (.aload_n 0, 1) := by decide +kernel
theorem d_Key_shared_19 : decode b_Key_shared 19 = .ok (.getfield 9, 3) := by decide +kernel
theorem d_Key_shared_22 : decode b_Key_shared 22 = .ok (.iload_n 2, 1) := by decide +kernel
theorem d_Key_shared_23 : decode b_Key_shared 23 = .ok (.iaload, 1) := by decide +kernel
theorem d_Key_shared_24 : decode b_Key_shared 24 = .ok (.aload_n 1, 1) := by decide +kernel
theorem d_Key_shared_25 : decode b_Key_shared 25 = .ok (.getfield 9, 3) := by decide +kernel
theorem d_Key_shared_28 : decode b_Key_shared 28 = .ok (.iload_n 2, 1) := by decide +kernel
theorem d_Key_shared_29 : decode b_Key_shared 29 = .ok (.iaload, 1) := by decide +kernel
theorem d_Key_shared_30 : decode b_Key_shared 30 = .ok (.if_icmp .ne 9, 3) := by decide +kernel
theorem d_Key_shared_33 : decode b_Key_shared 33 = .ok (.iinc 2 1, 3) := by decide +kernel
theorem d_Key_shared_36 : decode b_Key_shared 36 = .ok (.goto (-34), 3) := by decide +kernel
theorem d_Key_shared_39 : decode b_Key_shared 39 = .ok (.iload_n 2, 1) := by decide +kernel
theorem d_Key_shared_40 : decode b_Key_shared 40 = .ok (.ireturn, 1) := by decide +kernel
theorem d_Key_order_0 : decode b_Key_order 0 = .ok (.aload_n 0, 1) := by decide +kernel
theorem d_Key_order_1 : decode b_Key_order 1 = .ok (.aload_n 1, 1) := by decide +kernel
theorem d_Key_order_2 : decode b_Key_order 2 = .ok (.invokevirtual 25, 3) := by decide +kernel
theorem d_Key_order_5 : decode b_Key_order 5 = .ok (.istore_n 2, 1) := by decide +kernel
theorem d_Key_order_6 : decode b_Key_order 6 = .ok (.iload_n 2, 1) := by decide +kernel
theorem d_Key_order_7 : decode b_Key_order 7 = .ok (.aload_n 0, 1) := by decide +kernel
theorem d_Key_order_8 : decode b_Key_order 8 = .ok (.getfield 15, 3) := by decide +kernel
theorem d_Key_order_11 : decode b_Key_order 11 = .ok (.if_icmp .eq 11, 3) := by decide +kernel
theorem d_Key_order_14 : decode b_Key_order 14 = .ok (.iload_n 2, 1) := by decide +kernel
theorem d_Key_order_15 : decode b_Key_order 15 = .ok (.aload_n 1, 1) := by decide +kernel
theorem d_Key_order_16 : decode b_Key_order 16 = .ok (.getfield 15, 3) := by decide +kernel
theorem d_Key_order_19 : decode b_Key_order 19 = .ok (.if_icmp .ne 13, 3) := by decide +kernel
theorem d_Key_order_22 : decode b_Key_order 22 = .ok (.aload_n 0, 1) := by decide +kernel
theorem d_Key_order_23 : decode b_Key_order 23 = .ok (.getfield 15, 3) := by decide +kernel
theorem d_Key_order_26 : decode b_Key_order 26 = .ok (.aload_n 1, 1) := by decide +kernel
theorem d_Key_order_27 : decode b_Key_order 27 = .ok (.getfield 15, 3) := by decide +kernel
theorem d_Key_order_30 : decode b_Key_order 30 = .ok (.isub, 1) := by decide +kernel
theorem d_Key_order_31 : decode b_Key_order 31 = .ok (.ireturn, 1) := by decide +kernel
theorem d_Key_order_32 : decode b_Key_order 32 = .ok (.aload_n 0, 1) := by decide +kernel
theorem d_Key_order_33 : decode b_Key_order 33 = .ok (.getfield 9, 3) := by decide +kernel
theorem d_Key_order_36 : decode b_Key_order 36 = .ok (.iload_n 2, 1) := by decide +kernel
theorem d_Key_order_37 : decode b_Key_order 37 = .ok (.iaload, 1) := by decide +kernel
theorem d_Key_order_38 : decode b_Key_order 38 = .ok (.aload_n 1, 1) := by decide +kernel
theorem d_Key_order_39 : decode b_Key_order 39 = .ok (.getfield 9, 3) := by decide +kernel
theorem d_Key_order_42 : decode b_Key_order 42 = .ok (.iload_n 2, 1) := by decide +kernel
theorem d_Key_order_43 : decode b_Key_order 43 = .ok (.iaload, 1) := by decide +kernel
theorem d_Key_order_44 : decode b_Key_order 44 = .ok (.isub, 1) := by decide +kernel
theorem d_Key_order_45 : decode b_Key_order 45 = .ok (.ireturn, 1) := by decide +kernel
theorem d_Key_beginsWith_0 : decode b_Key_beginsWith 0 = .ok (.aload_n 0, 1) := by decide +kernel
theorem d_Key_beginsWith_1 : decode b_Key_beginsWith 1 = .ok (.aload_n 1, 1) := by decide +kernel
theorem d_Key_beginsWith_2 : decode b_Key_beginsWith 2 = .ok (.invokevirtual 25, 3) := by decide +kernel
theorem d_Key_beginsWith_5 : decode b_Key_beginsWith 5 = .ok (.aload_n 1, 1) := by decide +kernel
theorem d_Key_beginsWith_6 : decode b_Key_beginsWith 6 = .ok (.getfield 15, 3) := by decide +kernel
theorem d_Key_beginsWith_9 : decode b_Key_beginsWith 9 = .ok (.if_icmp .ne 7, 3) := by decide +kernel
theorem d_Key_beginsWith_12 : decode b_Key_beginsWith 12 = .ok (.iconst 1, 1) := by decide +kernel
theorem d_Key_beginsWith_13 : decode b_Key_beginsWith 13 = .ok (.goto 4, 3) := by decide +kernel
theorem d_Key_beginsWith_16 : decode b_Key_beginsWith 16 = .ok (.iconst 0, 1) := by decide +kernel
theorem d_Key_beginsWith_17 : decode b_Key_beginsWith 17 = .ok (.ireturn, 1) := by decide +kernel
theorem d_Key_hasTail_0 : decode b_Key_hasTail 0 = .ok (.aload_n 0, 1) := by decide +kernel
theorem d_Key_hasTail_1 : decode b_Key_hasTail 1 = .ok (.getfield 15, 3) := by decide +kernel
theorem d_Key_hasTail_4 : decode b_Key_hasTail 4 = .ok (.iload_n 1, 1) := by decide +kernel
theorem d_Key_hasTail_5 : decode b_Key_hasTail 5 = .ok (.isub, 1) := by decide +kernel
theorem d_Key_hasTail_6 : decode b_Key_hasTail 6 = .ok (.aload_n 2, 1) := by decide +kernel
theorem d_Key_hasTail_7 : decode b_Key_hasTail 7 = .ok (.getfield 15, 3) := by decide +kernel
theorem d_Key_hasTail_10 : decode b_Key_hasTail 10 = .ok (.iload_n 3, 1) := by decide +kernel
theorem d_Key_hasTail_11 : decode b_Key_hasTail 11 = .ok (.isub, 1) := by decide +kernel
theorem d_Key_hasTail_12 : decode b_Key_hasTail 12 = .ok (.if_icmp .eq 5, 3) := by decide +kernel
theorem d_Key_hasTail_15 : decode b_Key_hasTail 15 = .ok (.iconst 0, 1) := by decide +kernel
theorem d_Key_hasTail_16 : decode b_Key_hasTail 16 = .ok (.ireturn, 1) := by decide +kernel
theorem d_Key_hasTail_17 : decode b_Key_hasTail 17 = .ok (.iload_n 1, 1) := by decide +kernel
theorem d_Key_hasTail_18 : decode b_Key_hasTail 18 = .ok (.istore 4, 2) := by decide +kernel
theorem d_Key_hasTail_20 : decode b_Key_hasTail 20 = .ok (.iload 4, 2) := by decide +kernel
theorem d_Key_hasTail_22 : decode b_Key_hasTail 22 = .ok (.aload_n 0, 1) := by decide +kernel
theorem d_Key_hasTail_23 : decode b_Key_hasTail 23 = .ok (.getfield 15, 3) := by decide +kernel
theorem d_Key_hasTail_26 : decode b_Key_hasTail 26 = .ok (.if_icmp .ge 32, 3) := by decide +kernel
theorem d_Key_hasTail_29 : decode b_Key_hasTail 29 = .ok (.aload_n 0, 1) := by decide +kernel
theorem d_Key_hasTail_30 : decode b_Key_hasTail 30 = .ok (.getfield 9, 3) := by decide +kernel
theorem d_Key_hasTail_33 : decode b_Key_hasTail 33 = .ok (.iload 4, 2) := by decide +kernel
theorem d_Key_hasTail_35 : decode b_Key_hasTail 35 = .ok (.iaload, 1) := by decide +kernel
theorem d_Key_hasTail_36 : decode b_Key_hasTail 36 = .ok (.aload_n 2, 1) := by decide +kernel
theorem d_Key_hasTail_37 : decode b_Key_hasTail 37 = .ok (.getfield 9, 3) := by decide +kernel
theorem d_Key_hasTail_40 : decode b_Key_hasTail 40 = .ok (.iload 4, 2) := by decide +kernel
theorem d_Key_hasTail_42 : decode b_Key_hasTail 42 = .ok (.iload_n 1, 1) := by decide +kernel
theorem d_Key_hasTail_43 : decode b_Key_hasTail 43 = .ok (.isub, 1) := by decide +kernel
theorem d_Key_hasTail_44 : decode b_Key_hasTail 44 = .ok (.iload_n 3, 1) := by decide +kernel
theorem d_Key_hasTail_45 : decode b_Key_hasTail 45 = .ok (.iadd, 1) := by decide +kernel
theorem d_Key_hasTail_46 : decode b_Key_hasTail 46 = .ok (.iaload, 1) := by decide +kernel
theorem d_Key_hasTail_47 : decode b_Key_hasTail 47 = .ok (.if_icmp .eq 5, 3) := by decide +kernel
theorem d_Key_hasTail_50 : decode b_Key_hasTail 50 = .ok (.iconst 0, 1) := by decide +kernel
theorem d_Key_hasTail_51 : decode b_Key_hasTail 51 = .ok (.ireturn, 1) := by decide +kernel
theorem d_Key_hasTail_52 : decode b_Key_hasTail 52 = .ok (.iinc 4 1, 3) := by decide +kernel
theorem d_Key_hasTail_55 : decode b_Key_hasTail 55 = .ok (.goto (-35), 3) := by decide +kernel
theorem d_Key_hasTail_58 : decode b_Key_hasTail 58 = .ok (.iconst 1, 1) := by decide +kernel
theorem d_Key_hasTail_59 : decode b_Key_hasTail 59 = .ok (.ireturn, 1) := by decide +kernel
theorem d_Key_matches_0 : decode b_Key_matches 0 = .ok (.aload_n 1, 1) := by decide +kernel
theorem d_Key_matches_1 : decode b_Key_matches 1 = .ok (.getfield 15, 3) := by decide +kernel
theorem d_Key_matches_4 : decode b_Key_matches 4 = .ok (.aload_n 0, 1) := by decide +kernel
theorem d_Key_matches_5 : decode b_Key_matches 5 = .ok (.getfield 15, 3) := by decide +kernel
theorem d_Key_matches_8 : decode b_Key_matches 8 = .ok (.if_icmp .eq 5, 3) := by decide +kernel
theorem d_Key_matches_11 : decode b_Key_matches 11 = .ok (.iconst 0, 1) := by decide +kernel
theorem d_Key_matches_12 : decode b_Key_matches 12 = .ok (.ireturn, 1) := by decide +kernel
theorem d_Key_matches_13 : decode b_Key_matches 13 = .ok (.iconst 0, 1) := by decide +kernel
theorem d_Key_matches_14 : decode b_Key_matches 14 = .ok (.istore_n 3, 1) := by decide +kernel
theorem d_Key_matches_15 : decode b_Key_matches 15 = .ok (.iconst 0, 1) := by decide +kernel
theorem d_Key_matches_16 : decode b_Key_matches 16 = .ok (.istore 4, 2) := by decide +kernel
theorem d_Key_matches_18 : decode b_Key_matches 18 = .ok (.iload 4, 2) := by decide +kernel
theorem d_Key_matches_20 : decode b_Key_matches 20 = .ok (.aload_n 0, 1) := by decide +kernel
theorem d_Key_matches_21 : decode b_Key_matches 21 = .ok (.getfield 15, 3) := by decide +kernel
theorem d_Key_matches_24 : decode b_Key_matches 24 = .ok (.if_icmp .ge 41, 3) := by decide +kernel
theorem d_Key_matches_27 : decode b_Key_matches 27 = .ok (.aload_n 0, 1) := by decide +kernel
theorem d_Key_matches_28 : decode b_Key_matches 28 = .ok (.getfield 9, 3) := by decide +kernel
theorem d_Key_matches_31 : decode b_Key_matches 31 = .ok (.iload 4, 2) := by decide +kernel
theorem d_Key_matches_33 : decode b_Key_matches 33 = .ok (.iaload, 1) := by decide +kernel
theorem d_Key_matches_34 : decode b_Key_matches 34 = .ok (.bipush 63, 2) := by decide +kernel
theorem d_Key_matches_36 : decode b_Key_matches 36 = .ok (.if_icmp .eq 23, 3) := by decide +kernel
theorem d_Key_matches_39 : decode b_Key_matches 39 = .ok (.aload_n 0, 1) := by decide +kernel
theorem d_Key_matches_40 : decode b_Key_matches 40 = .ok (.getfield 9, 3) := by decide +kernel
theorem d_Key_matches_43 : decode b_Key_matches 43 = .ok (.iload 4, 2) := by decide +kernel
theorem d_Key_matches_45 : decode b_Key_matches 45 = .ok (.iaload, 1) := by decide +kernel
theorem d_Key_matches_46 : decode b_Key_matches 46 = .ok (.aload_n 1, 1) := by decide +kernel
theorem d_Key_matches_47 : decode b_Key_matches 47 = .ok (.getfield 9, 3) := by decide +kernel
theorem d_Key_matches_50 : decode b_Key_matches 50 = .ok (.iload 4, 2) := by decide +kernel
theorem d_Key_matches_52 : decode b_Key_matches 52 = .ok (.iaload, 1) := by decide +kernel
theorem d_Key_matches_53 : decode b_Key_matches 53 = .ok (.if_icmp .eq 6, 3) := by decide +kernel
theorem d_Key_matches_56 : decode b_Key_matches 56 = .ok (.iinc 3 1, 3) := by decide +kernel
theorem d_Key_matches_59 : decode b_Key_matches 59 = .ok (.iinc 4 1, 3) := by decide +kernel
theorem d_Key_matches_62 : decode b_Key_matches 62 = .ok (.goto (-44), 3) := by decide +kernel
theorem d_Key_matches_65 : decode b_Key_matches 65 = .ok (.iload_n 3, 1) := by decide +kernel
theorem d_Key_matches_66 : decode b_Key_matches 66 = .ok (.iload_n 2, 1) := by decide +kernel
theorem d_Key_matches_67 : decode b_Key_matches 67 = .ok (.if_icmp .gt 7, 3) := by decide +kernel
theorem d_Key_matches_70 : decode b_Key_matches 70 = .ok (.iconst 1, 1) := by decide +kernel
theorem d_Key_matches_71 : decode b_Key_matches 71 = .ok (.goto 4, 3) := by decide +kernel
theorem d_Key_matches_74 : decode b_Key_matches 74 = .ok (.iconst 0, 1) := by decide +kernel
theorem d_Key_matches_75 : decode b_Key_matches 75 = .ok (.ireturn, 1) := by decide +kernel
theorem d_KeyMap_init_0 : decode b_KeyMap_init 0 = .ok (.aload_n 0, 1) := by decide +kernel
theorem d_KeyMap_init_1 : decode b_KeyMap_init 1 = .ok (.invokespecial 3, 3) := by decide +kernel
theorem d_KeyMap_init_4 : decode b_KeyMap_init 4 = .ok (.aload_n 0, 1) := by decide +kernel
theorem d_KeyMap_init_5 : decode b_KeyMap_init 5 = .ok (.bipush 64, 2) := by decide +kernel
theorem d_KeyMap_init_7 : decode b_KeyMap_init 7 = .ok (.anewarray 9, 3) := by decide +kernel
theorem d_KeyMap_init_10 : decode b_KeyMap_init 10 = .ok (.putfield 11, 3) := by decide +kernel
theorem d_KeyMap_init_13 : decode b_KeyMap_init 13 = .ok (.iconst 0, 1) := by decide +kernel
theorem d_KeyMap_init_14 : decode b_KeyMap_init 14 = .ok (.istore_n 1, 1) := by decide +kernel
theorem d_KeyMap_init_15 : decode b_KeyMap_init 15 = .ok (.iload_n 1, 1) := by decide +kernel
theorem d_KeyMap_init_16 : decode b_KeyMap_init 16 = .ok (.bipush 64, 2) := by decide +kernel
theorem d_KeyMap_init_18 : decode b_KeyMap_init 18 = .ok (.if_icmp .ge 22, 3) := by decide +kernel
theorem d_KeyMap_init_21 : decode b_KeyMap_init 21 = .ok (.aload_n 0, 1) := by decide +kernel
theorem d_KeyMap_init_22 : decode b_KeyMap_init 22 = .ok (.getfield 11, 3) := by decide +kernel
theorem d_KeyMap_init_25 : decode b_KeyMap_init 25 = .ok (.iload_n 1, 1) := by decide +kernel
theorem d_KeyMap_init_26 : decode b_KeyMap_init 26 = .ok (.new 9, 3) := by decide +kernel
theorem d_KeyMap_init_29 : decode b_KeyMap_init 29 = .ok (.dup, 1) := by decide +kernel
theorem d_KeyMap_init_30 : decode b_KeyMap_init 30 = .ok (.invokespecial 17, 3) := by decide +kernel
theorem d_KeyMap_init_33 : decode b_KeyMap_init 33 = .ok (.aastore, 1) := by decide +kernel
theorem d_KeyMap_init_34 : decode b_KeyMap_init 34 = .ok (.iinc 1 1, 3) := by decide +kernel
theorem d_KeyMap_init_37 : decode b_KeyMap_init 37 = .ok (.goto (-22), 3) := by decide +kernel
theorem d_KeyMap_init_40 : decode b_KeyMap_init 40 = .ok (.aload_n 0, 1) := by decide +kernel
theorem d_KeyMap_init_41 : decode b_KeyMap_init 41 = .ok (.bipush 64, 2) := by decide +kernel
theorem d_KeyMap_init_43 : decode b_KeyMap_init 43 = .ok (.newarray .int, 2) := by decide +kernel
theorem d_KeyMap_init_45 : decode b_KeyMap_init 45 = .ok (.putfield 18, 3) := by decide +kernel
theorem d_KeyMap_init_48 : decode b_KeyMap_init 48 = .ok (.return_, 1) := by decide +kernel
theorem d_KeyMap_countLess_0 : decode b_KeyMap_countLess 0 = .ok (.iconst 0, 1) := by decide +kernel
theorem d_KeyMap_countLess_1 : decode b_KeyMap_countLess 1 = .ok (.istore_n 2, 1) := by decide +kernel
theorem d_KeyMap_countLess_2 : decode b_KeyMap_countLess 2 = .ok (.iload_n 2, 1) := by decide +kernel
theorem d_KeyMap_countLess_3 : decode b_KeyMap_countLess 3 = .ok (.aload_n 0, 1) := by decide +kernel
theorem d_KeyMap_countLess_4 : decode b_KeyMap_countLess 4 = .ok (.getfield 22, 3) := by decide +kernel
theorem d_KeyMap_countLess_7 : decode b_KeyMap_countLess 7 = .ok (.if_icmp .ge 22, 3) := by decide +kernel
theorem d_KeyMap_countLess_10 : decode b_KeyMap_countLess 10 = .ok (.aload_n 0, 1) := by decide +kernel
theorem d_KeyMap_countLess_11 : decode b_KeyMap_countLess 11 = .ok (.getfield 11, 3) := by decide +kernel
theorem d_KeyMap_countLess_14 : decode b_KeyMap_countLess 14 = .ok (.iload_n 2, 1) := by decide +kernel
theorem d_KeyMap_countLess_15 : decode b_KeyMap_countLess 15 = .ok (.aaload, 1) := by decide +kernel
theorem d_KeyMap_countLess_16 : decode b_KeyMap_countLess 16 = .ok (.aload_n 1, 1) := by decide +kernel
theorem d_KeyMap_countLess_17 : decode b_KeyMap_countLess 17 = .ok (.invokevirtual 26, 3) := by decide +kernel
theorem d_KeyMap_countLess_20 : decode b_KeyMap_countLess 20 = .ok (.ifCond .ge 9, 3) := by decide +kernel
theorem d_KeyMap_countLess_23 : decode b_KeyMap_countLess 23 = .ok (.iinc 2 1, 3) := by decide +kernel
theorem d_KeyMap_countLess_26 : decode b_KeyMap_countLess 26 = .ok (.goto (-24), 3) := by decide +kernel
theorem d_KeyMap_countLess_29 : decode b_KeyMap_countLess 29 = .ok (.iload_n 2, 1) := by decide +kernel
theorem d_KeyMap_countLess_30 : decode b_KeyMap_countLess 30 = .ok (.ireturn, 1) := by decide +kernel
theorem d_KeyMap_placeOf_0 : decode b_KeyMap_placeOf 0 = .ok (.aload_n 0, 1) := by decide +kernel
theorem d_KeyMap_placeOf_1 : decode b_KeyMap_placeOf 1 = .ok (.aload_n 1, 1) := by decide +kernel
theorem d_KeyMap_placeOf_2 : decode b_KeyMap_placeOf 2 = .ok (.invokevirtual 30, 3) := by decide +kernel
theorem d_KeyMap_placeOf_5 : decode b_KeyMap_placeOf 5 = .ok (.istore_n 2, 1) := by decide +kernel
theorem d_KeyMap_placeOf_6 : decode b_KeyMap_placeOf 6 = .ok (.iload_n 2, 1) := by decide +kernel
theorem d_KeyMap_placeOf_7 : decode b_KeyMap_placeOf 7 = .ok (.aload_n 0, 1) := by decide +kernel
theorem d_KeyMap_placeOf_8 : decode b_KeyMap_placeOf 8 = .ok (.getfield 22, 3) := by decide +kernel
theorem d_KeyMap_placeOf_11 : decode b_KeyMap_placeOf 11 = .ok (.if_icmp .ge 20, 3) := by decide +kernel
theorem d_KeyMap_placeOf_14 : decode b_KeyMap_placeOf 14 = .ok (.aload_n 0, 1) := by decide +kernel
theorem d_KeyMap_placeOf_15 : decode b_KeyMap_placeOf 15 = .ok (.getfield 11, 3) := by decide +kernel
theorem d_KeyMap_placeOf_18 : decode b_KeyMap_placeOf 18 = .ok (.iload_n 2, 1) := by decide +kernel
theorem d_KeyMap_placeOf_19 : decode b_KeyMap_placeOf 19 = .ok (.aaload, 1) := by decide +kernel
theorem d_KeyMap_placeOf_20 : decode b_KeyMap_placeOf 20 = .ok (.aload_n 1, 1) := by decide +kernel
theorem d_KeyMap_placeOf_21 : decode b_KeyMap_placeOf 21 = .ok (.invokevirtual 26, 3) := by decide +kernel
theorem d_KeyMap_placeOf_24 : decode b_KeyMap_placeOf 24 = .ok (.ifCond .ne 7, 3) := by decide +kernel
theorem d_KeyMap_placeOf_27 : decode b_KeyMap_placeOf 27 = .ok (.iload_n 2, 1) := by decide +kernel
theorem d_KeyMap_placeOf_28 : decode b_KeyMap_placeOf 28 = .ok (.goto 4, 3) := by decide +kernel
theorem d_KeyMap_placeOf_31 : decode b_KeyMap_placeOf 31 = .ok (.iconst (-1), 1) := by decide +kernel
theorem d_KeyMap_placeOf_32 : decode b_KeyMap_placeOf 32 = .ok (.ireturn, 1) := by decide +kernel
theorem d_KeyMap_add_0 : decode b_KeyMap_add 0 = .ok (.aload_n 0, 1) := by decide +kernel
theorem d_KeyMap_add_1 : decode b_KeyMap_add 1 = .ok (.aload_n 1, 1) := by decide +kernel
theorem d_KeyMap_add_2 : decode b_KeyMap_add 2 = .ok (.invokevirtual 30, 3) := by decide +kernel
theorem d_KeyMap_add_5 : decode b_KeyMap_add 5 = .ok (.istore_n 3, 1) := by decide +kernel
theorem d_KeyMap_add_6 : decode b_KeyMap_add 6 = .ok (.aload_n 0, 1) := by decide +kernel
theorem d_KeyMap_add_7 : decode b_KeyMap_add 7 = .ok (.getfield 11, 3) := by decide +kernel
theorem d_KeyMap_add_10 : decode b_KeyMap_add 10 = .ok (.aload_n 0, 1) := by decide +kernel
theorem d_KeyMap_add_11 : decode b_KeyMap_add 11 = .ok (.getfield 22, 3) := by decide +kernel
theorem d_KeyMap_add_14 : decode b_KeyMap_add 14 = .ok (.aaload, 1) := by decide +kernel
theorem d_KeyMap_add_15 : decode b_KeyMap_add 15 = .ok (.astore 4, 2) := by decide +kernel
theorem d_KeyMap_add_17 : decode b_KeyMap_add 17 = .ok (.aload_n 0, 1) := by decide +kernel
theorem d_KeyMap_add_18 : decode b_KeyMap_add 18 = .ok (.getfield 22, 3) := by decide +kernel
theorem d_KeyMap_add_21 : decode b_KeyMap_add 21 = .ok (.istore 5, 2) := by decide +kernel
theorem d_KeyMap_add_23 : decode b_KeyMap_add 23 = .ok (.iload 5, 2) := by decide +kernel
theorem d_KeyMap_add_25 : decode b_KeyMap_add 25 = .ok (.iload_n 3, 1) := by decide +kernel
theorem d_KeyMap_add_26 : decode b_KeyMap_add 26 = .ok (.if_icmp .le 41, 3) := by decide +kernel
theorem d_KeyMap_add_29 : decode b_KeyMap_add 29 = .ok (.aload_n 0, 1) := by decide +kernel
theorem d_KeyMap_add_30 : decode b_KeyMap_add 30 = .ok (.getfield 11, 3) := by decide +kernel
theorem d_KeyMap_add_33 : decode b_KeyMap_add 33 = .ok (.iload 5, 2) := by decide +kernel
theorem d_KeyMap_add_35 : decode b_KeyMap_add 35 = .ok (.aload_n 0, 1) := by decide +kernel
theorem d_KeyMap_add_36 : decode b_KeyMap_add 36 = .ok (.getfield 11, 3) := by decide +kernel
theorem d_KeyMap_add_39 : decode b_KeyMap_add 39 = .ok (.iload 5, 2) := by decide +kernel
theorem d_KeyMap_add_41 : decode b_KeyMap_add 41 = .ok (.iconst 1, 1) := by decide +kernel
theorem d_KeyMap_add_42 : decode b_KeyMap_add 42 = .ok (.isub, 1) := by decide +kernel
theorem d_KeyMap_add_43 : decode b_KeyMap_add 43 = .ok (.aaload, 1) := by decide +kernel
theorem d_KeyMap_add_44 : decode b_KeyMap_add 44 = .ok (.aastore, 1) := by decide +kernel
theorem d_KeyMap_add_45 : decode b_KeyMap_add 45 = .ok (.aload_n 0, 1) := by decide +kernel
theorem d_KeyMap_add_46 : decode b_KeyMap_add 46 = .ok (.getfield 18, 3) := by decide +kernel
theorem d_KeyMap_add_49 : decode b_KeyMap_add 49 = .ok (.iload 5, 2) := by decide +kernel
theorem d_KeyMap_add_51 : decode b_KeyMap_add 51 = .ok (.aload_n 0, 1) := by decide +kernel
theorem d_KeyMap_add_52 : decode b_KeyMap_add 52 = .ok (.getfield 18, 3) := by decide +kernel
theorem d_KeyMap_add_55 : decode b_KeyMap_add 55 = .ok (.iload 5, 2) := by decide +kernel
theorem d_KeyMap_add_57 : decode b_KeyMap_add 57 = .ok (.iconst 1, 1) := by decide +kernel
theorem d_KeyMap_add_58 : decode b_KeyMap_add 58 = .ok (.isub, 1) := by decide +kernel
theorem d_KeyMap_add_59 : decode b_KeyMap_add 59 = .ok (.iaload, 1) := by decide +kernel
theorem d_KeyMap_add_60 : decode b_KeyMap_add 60 = .ok (.iastore, 1) := by decide +kernel
theorem d_KeyMap_add_61 : decode b_KeyMap_add 61 = .ok (.iinc 5 (-1), 3) := by decide +kernel
theorem d_KeyMap_add_64 : decode b_KeyMap_add 64 = .ok (.goto (-41), 3) := by decide +kernel
theorem d_KeyMap_add_67 : decode b_KeyMap_add 67 = .ok (.aload 4, 2) := by decide +kernel
theorem d_KeyMap_add_69 : decode b_KeyMap_add 69 = .ok (.aload_n 1, 1) := by decide +kernel
theorem d_KeyMap_add_70 : decode b_KeyMap_add 70 = .ok (.invokevirtual 33, 3) := by decide +kernel
theorem d_KeyMap_add_73 : decode b_KeyMap_add 73 = .ok (.aload_n 0, 1) := by decide +kernel
theorem d_KeyMap_add_74 : decode b_KeyMap_add 74 = .ok (.getfield 11, 3) := by decide +kernel
theorem d_KeyMap_add_77 : decode b_KeyMap_add 77 = .ok (.iload_n 3, 1) := by decide +kernel
theorem d_KeyMap_add_78 : decode b_KeyMap_add 78 = .ok (.aload 4, 2) := by decide +kernel
theorem d_KeyMap_add_80 : decode b_KeyMap_add 80 = .ok (.aastore, 1) := by decide +kernel
theorem d_KeyMap_add_81 : decode b_KeyMap_add 81 = .ok (.aload_n 0, 1) := by decide +kernel
theorem d_KeyMap_add_82 : decode b_KeyMap_add 82 = .ok (.getfield 18, 3) := by decide +kernel
theorem d_KeyMap_add_85 : decode b_KeyMap_add 85 = .ok (.iload_n 3, 1) := by decide +kernel
theorem d_KeyMap_add_86 : decode b_KeyMap_add 86 = .ok (.iload_n 2, 1) := by decide +kernel
theorem d_KeyMap_add_87 : decode b_KeyMap_add 87 = .ok (.iastore, 1) := by decide +kernel
theorem d_KeyMap_add_88 : decode b_KeyMap_add 88 = .ok (.aload_n 0, 1) := by decide +kernel
theorem d_KeyMap_add_89 : decode b_KeyMap_add 89 = .ok (.dup, 1) := by decide +kernel
theorem d_KeyMap_add_90 : decode b_KeyMap_add 90 = .ok (.getfield 22, 3) := by decide +kernel
theorem d_KeyMap_add_93 : decode b_KeyMap_add 93 = .ok (.iconst 1, 1) := by decide +kernel
theorem d_KeyMap_add_94 : decode b_KeyMap_add 94 = .ok (.iadd, 1) := by decide +kernel
theorem d_KeyMap_add_95 : decode b_KeyMap_add 95 = .ok (.putfield 22, 3) := by decide +kernel
theorem d_KeyMap_add_98 : decode b_KeyMap_add 98 = .ok (.aload_n 0, 1) := by decide +kernel
theorem d_KeyMap_add_99 : decode b_KeyMap_add 99 = .ok (.dup, 1) := by decide +kernel
theorem d_KeyMap_add_100 : decode b_KeyMap_add 100 = .ok (.getfield 37, 3) := by decide +kernel
theorem d_KeyMap_add_103 : decode b_KeyMap_add 103 = .ok (.iconst 1, 1) := by decide +kernel
theorem d_KeyMap_add_104 : decode b_KeyMap_add 104 = .ok (.iadd, 1) := by decide +kernel
theorem d_KeyMap_add_105 : decode b_KeyMap_add 105 = .ok (.putfield 37, 3) := by decide +kernel
theorem d_KeyMap_add_108 : decode b_KeyMap_add 108 = .ok (.return_, 1) := by decide +kernel
theorem d_KeyMap_takeOut_0 : decode b_KeyMap_takeOut 0 = .ok (.aload_n 0, 1) := by decide +kernel
theorem d_KeyMap_takeOut_1 : decode b_KeyMap_takeOut 1 = .ok (.getfield 11, 3) := by decide +kernel
theorem d_KeyMap_takeOut_4 : decode b_KeyMap_takeOut 4 = .ok (.iload_n 1, 1) := by decide +kernel
theorem d_KeyMap_takeOut_5 : decode b_KeyMap_takeOut 5 = .ok (.aaload, 1) := by decide +kernel
theorem d_KeyMap_takeOut_6 : decode b_KeyMap_takeOut 6 = .ok (.astore_n 2, 1) := by decide +kernel
theorem d_KeyMap_takeOut_7 : decode b_KeyMap_takeOut 7 = .ok (.aload_n 0, 1) := by decide +kernel
theorem d_KeyMap_takeOut_8 : decode b_KeyMap_takeOut 8 = .ok (.getfield 18, 3) := by decide +kernel
theorem d_KeyMap_takeOut_11 : decode b_KeyMap_takeOut 11 = .ok (.iload_n 1, 1) := by decide +kernel
theorem d_KeyMap_takeOut_12 : decode b_KeyMap_takeOut 12 = .ok (.iaload, 1) := by decide +kernel
theorem d_KeyMap_takeOut_13 : decode b_KeyMap_takeOut 13 = .ok (.istore_n 3, 1) := by decide +kernel
theorem d_KeyMap_takeOut_14 : decode b_KeyMap_takeOut 14 = .ok (.iload_n 1, 1) := by decide +kernel
theorem d_KeyMap_takeOut_15 : decode b_KeyMap_takeOut 15 = .ok (.istore 4, 2) := by decide +kernel
theorem d_KeyMap_takeOut_17 : decode b_KeyMap_takeOut 17 = .ok (.iload 4, 2) := by decide +kernel
theorem d_KeyMap_takeOut_19 : decode b_KeyMap_takeOut 19 = .ok (.aload_n 0, 1) := by decide +kernel
theorem d_KeyMap_takeOut_20 : decode b_KeyMap_takeOut 20 = .ok (.getfield 22, 3) := by decide +kernel
theorem d_KeyMap_takeOut_23 : decode b_KeyMap_takeOut 23 = .ok (.iconst 1, 1) := by decide +kernel
theorem d_KeyMap_takeOut_24 : decode b_KeyMap_takeOut 24 = .ok (.isub, 1) := by decide +kernel
theorem d_KeyMap_takeOut_25 : decode b_KeyMap_takeOut 25 = .ok (.if_icmp .ge 41, 3) := by decide +kernel
theorem d_KeyMap_takeOut_28 : decode b_KeyMap_takeOut 28 = .ok (.aload_n 0, 1) := by decide +kernel
theorem d_KeyMap_takeOut_29 : decode b_KeyMap_takeOut 29 = .ok (.getfield 11, 3) := by decide +kernel
theorem d_KeyMap_takeOut_32 : decode b_KeyMap_takeOut 32 = .ok (.iload 4, 2) := by decide +kernel
theorem d_KeyMap_takeOut_34 : decode b_KeyMap_takeOut 34 = .ok (.aload_n 0, 1) := by decide +kernel
theorem d_KeyMap_takeOut_35 : decode b_KeyMap_takeOut 35 = .ok (.getfield 11, 3) := by decide +kernel
theorem d_KeyMap_takeOut_38 : decode b_KeyMap_takeOut 38 = .ok (.iload 4, 2) := by decide +kernel
theorem d_KeyMap_takeOut_40 : decode b_KeyMap_takeOut 40 = .ok (.iconst 1, 1) := by decide +kernel
theorem d_KeyMap_takeOut_41 : decode b_KeyMap_takeOut 41 = .ok (.iadd, 1) := by decide +kernel
theorem d_KeyMap_takeOut_42 : decode b_KeyMap_takeOut 42 = .ok (.aaload, 1) := by decide +kernel
theorem d_KeyMap_takeOut_43 : decode b_KeyMap_takeOut 43 = .ok (.aastore, 1) := by decide +kernel
theorem d_KeyMap_takeOut_44 : decode b_KeyMap_takeOut 44 = .ok (.aload_n 0, 1) := by decide +kernel
theorem d_KeyMap_takeOut_45 : decode b_KeyMap_takeOut 45 = .ok (.getfield 18, 3) := by decide +kernel
theorem d_KeyMap_takeOut_48 : decode b_KeyMap_takeOut 48 = .ok (.iload 4, 2) := by decide +kernel
theorem d_KeyMap_takeOut_50 : decode b_KeyMap_takeOut 50 = .ok (.aload_n 0, 1) := by decide +kernel
theorem d_KeyMap_takeOut_51 : decode b_KeyMap_takeOut 51 = .ok (.getfield 18, 3) := by decide +kernel
theorem d_KeyMap_takeOut_54 : decode b_KeyMap_takeOut 54 = .ok (.iload 4, 2) := by decide +kernel
theorem d_KeyMap_takeOut_56 : decode b_KeyMap_takeOut 56 = .ok (.iconst 1, 1) := by decide +kernel
theorem d_KeyMap_takeOut_57 : decode b_KeyMap_takeOut 57 = .ok (.iadd, 1) := by decide +kernel
theorem d_KeyMap_takeOut_58 : decode b_KeyMap_takeOut 58 = .ok (.iaload, 1) := by decide +kernel
theorem d_KeyMap_takeOut_59 : decode b_KeyMap_takeOut 59 = .ok (.iastore, 1) := by decide +kernel
theorem d_KeyMap_takeOut_60 : decode b_KeyMap_takeOut 60 = .ok (.iinc 4 1, 3) := by decide +kernel
theorem d_KeyMap_takeOut_63 : decode b_KeyMap_takeOut 63 = .ok (.goto (-46), 3) := by decide +kernel
theorem d_KeyMap_takeOut_66 : decode b_KeyMap_takeOut 66 = .ok (.aload_n 0, 1) := by decide +kernel
theorem d_KeyMap_takeOut_67 : decode b_KeyMap_takeOut 67 = .ok (.getfield 11, 3) := by decide +kernel
theorem d_KeyMap_takeOut_70 : decode b_KeyMap_takeOut 70 = .ok (.aload_n 0, 1) := by decide +kernel
theorem d_KeyMap_takeOut_71 : decode b_KeyMap_takeOut 71 = .ok (.getfield 22, 3) := by decide +kernel
theorem d_KeyMap_takeOut_74 : decode b_KeyMap_takeOut 74 = .ok (.iconst 1, 1) := by decide +kernel
theorem d_KeyMap_takeOut_75 : decode b_KeyMap_takeOut 75 = .ok (.isub, 1) := by decide +kernel
theorem d_KeyMap_takeOut_76 : decode b_KeyMap_takeOut 76 = .ok (.aload_n 2, 1) := by decide +kernel
theorem d_KeyMap_takeOut_77 : decode b_KeyMap_takeOut 77 = .ok (.aastore, 1) := by decide +kernel
theorem d_KeyMap_takeOut_78 : decode b_KeyMap_takeOut 78 = .ok (.aload_n 0, 1) := by decide +kernel
theorem d_KeyMap_takeOut_79 : decode b_KeyMap_takeOut 79 = .ok (.dup, 1) := by decide +kernel
theorem d_KeyMap_takeOut_80 : decode b_KeyMap_takeOut 80 = .ok (.getfield 22, 3) := by decide +kernel
theorem d_KeyMap_takeOut_83 : decode b_KeyMap_takeOut 83 = .ok (.iconst 1, 1) := by decide +kernel
theorem d_KeyMap_takeOut_84 : decode b_KeyMap_takeOut 84 = .ok (.isub, 1) := by decide +kernel
theorem d_KeyMap_takeOut_85 : decode b_KeyMap_takeOut 85 = .ok (.putfield 22, 3) := by decide +kernel
theorem d_KeyMap_takeOut_88 : decode b_KeyMap_takeOut 88 = .ok (.aload_n 0, 1) := by decide +kernel
theorem d_KeyMap_takeOut_89 : decode b_KeyMap_takeOut 89 = .ok (.dup, 1) := by decide +kernel
theorem d_KeyMap_takeOut_90 : decode b_KeyMap_takeOut 90 = .ok (.getfield 37, 3) := by decide +kernel
theorem d_KeyMap_takeOut_93 : decode b_KeyMap_takeOut 93 = .ok (.iconst 1, 1) := by decide +kernel
theorem d_KeyMap_takeOut_94 : decode b_KeyMap_takeOut 94 = .ok (.iadd, 1) := by decide +kernel
theorem d_KeyMap_takeOut_95 : decode b_KeyMap_takeOut 95 = .ok (.putfield 37, 3) := by decide +kernel
theorem d_KeyMap_takeOut_98 : decode b_KeyMap_takeOut 98 = .ok (.iload_n 3, 1) := by decide +kernel
theorem d_KeyMap_takeOut_99 : decode b_KeyMap_takeOut 99 = .ok (.ireturn, 1) := by decide +kernel
theorem d_View_init_0 : decode b_View_init 0 = .ok (.aload_n 0, 1) := by decide +kernel
theorem d_View_init_1 : decode b_View_init 1 = .ok (.invokespecial 3, 3) := by decide +kernel
theorem d_View_init_4 : decode b_View_init 4 = .ok (.aload_n 0, 1) := by decide +kernel
theorem d_View_init_5 : decode b_View_init 5 = .ok (.aload_n 1, 1) := by decide +kernel
theorem d_View_init_6 : decode b_View_init 6 = .ok (.putfield 9, 3) := by decide +kernel
theorem d_View_init_9 : decode b_View_init 9 = .ok (.aload_n 0, 1) := by decide +kernel
theorem d_View_init_10 : decode b_View_init 10 = .ok (.aconst_null, 1) := by decide +kernel
theorem d_View_init_11 : decode b_View_init 11 = .ok (.putfield 15, 3) := by decide +kernel
theorem d_View_init_14 : decode b_View_init 14 = .ok (.aload_n 0, 1) := by decide +kernel
theorem d_View_init_15 : decode b_View_init 15 = .ok (.iconst 4, 1) := by decide +kernel
theorem d_View_init_16 : decode b_View_init 16 = .ok (.putfield 19, 3) := by decide +kernel
theorem d_View_init_19 : decode b_View_init 19 = .ok (.aload_n 0, 1) := by decide +kernel
theorem d_View_init_20 : decode b_View_init 20 = .ok (.new 23, 3) := by decide +kernel
theorem d_View_init_23 : decode b_View_init 23 = .ok (.dup, 1) := by decide +kernel
theorem d_View_init_24 : decode b_View_init 24 = .ok (.invokespecial 25, 3) := by decide +kernel
theorem d_View_init_27 : decode b_View_init 27 = .ok (.putfield 26, 3) := by decide +kernel
theorem d_View_init_30 : decode b_View_init 30 = .ok (.aload_n 0, 1) := by decide +kernel
theorem d_View_init_31 : decode b_View_init 31 = .ok (.iconst 0, 1) := by decide +kernel
theorem d_View_init_32 : decode b_View_init 32 = .ok (.putfield 30, 3) := by decide +kernel
theorem d_View_init_35 : decode b_View_init 35 = .ok (.aload_n 0, 1) := by decide +kernel
theorem d_View_init_36 : decode b_View_init 36 = .ok (.new 34, 3) := by decide +kernel
theorem d_View_init_39 : decode b_View_init 39 = .ok (.dup, 1) := by decide +kernel
theorem d_View_init_40 : decode b_View_init 40 = .ok (.invokespecial 36, 3) := by decide +kernel
theorem d_View_init_43 : decode b_View_init 43 = .ok (.putfield 37, 3) := by decide +kernel
theorem d_View_init_46 : decode b_View_init 46 = .ok (.return_, 1) := by decide +kernel
theorem d_View_init2_0 : decode b_View_init2 0 = .ok (.aload_n 0, 1) := by decide +kernel
theorem d_View_init2_1 : decode b_View_init2 1 = .ok (.invokespecial 3, 3) := by decide +kernel
theorem d_View_init2_4 : decode b_View_init2 4 = .ok (.aload_n 0, 1) := by decide +kernel
theorem d_View_init2_5 : decode b_View_init2 5 = .ok (.aload_n 1, 1) := by decide +kernel
theorem d_View_init2_6 : decode b_View_init2 6 = .ok (.getfield 9, 3) := by decide +kernel
theorem d_View_init2_9 : decode b_View_init2 9 = .ok (.putfield 9, 3) := by decide +kernel
theorem d_View_init2_12 : decode b_View_init2 12 = .ok (.aload_n 0, 1) := by decide +kernel
theorem d_View_init2_13 : decode b_View_init2 13 = .ok (.aload_n 1, 1) := by decide +kernel
theorem d_View_init2_14 : decode b_View_init2 14 = .ok (.putfield 15, 3) := by decide +kernel
theorem d_View_init2_17 : decode b_View_init2 17 = .ok (.aload_n 0, 1) := by decide +kernel
theorem d_View_init2_18 : decode b_View_init2 18 = .ok (.iload_n 2, 1) := by decide +kernel
theorem d_View_init2_19 : decode b_View_init2 19 = .ok (.putfield 19, 3) := by decide +kernel
theorem d_View_init2_22 : decode b_View_init2 22 = .ok (.aload_n 0, 1) := by decide +kernel
theorem d_View_init2_23 : decode b_View_init2 23 = .ok (.new 23, 3) := by decide +kernel
theorem d_View_init2_26 : decode b_View_init2 26 = .ok (.dup, 1) := by decide +kernel
theorem d_View_init2_27 : decode b_View_init2 27 = .ok (.invokespecial 25, 3) := by decide +kernel
theorem d_View_init2_30 : decode b_View_init2 30 = .ok (.putfield 26, 3) := by decide +kernel
theorem d_View_init2_33 : decode b_View_init2 33 = .ok (.aload_n 0, 1) := by decide +kernel
theorem d_View_init2_34 : decode b_View_init2 34 = .ok (.getfield 26, 3) := by decide +kernel
theorem d_View_init2_37 : decode b_View_init2 37 = .ok (.aload_n 3, 1) := by decide +kernel
theorem d_View_init2_38 : decode b_View_init2 38 = .ok (.invokevirtual 41, 3) := by decide +kernel
theorem d_View_init2_41 : decode b_View_init2 41 = .ok (.aload_n 0, 1) := by decide +kernel
theorem d_View_init2_42 : decode b_View_init2 42 = .ok (.iload_n 2, 1) := by decide +kernel
theorem d_View_init2_43 : decode b_View_init2 43 = .ok (.iconst 3, 1) := by decide +kernel
theorem d_View_init2_44 : decode b_View_init2 44 = .ok (.if_icmp .ne 7, 3) := by decide +kernel
theorem d_View_init2_47 : decode b_View_init2 47 = .ok (.iconst 1, 1) := by decide +kernel
theorem d_View_init2_48 : decode b_View_init2 48 = .ok (.goto 4, 3) := by decide +kernel
theorem d_View_init2_51 : decode b_View_init2 51 = .ok (.iconst 0, 1) := by decide +kernel
theorem d_View_init2_52 : decode b_View_init2 52 = .ok (.aload_n 1, 1) := by decide +kernel
theorem d_View_init2_53 : decode b_View_init2 53 = .ok (.getfield 30, 3) := by decide +kernel
theorem d_View_init2_56 : decode b_View_init2 56 = .ok (.if_icmp .eq 7, 3) := by decide +kernel
theorem d_View_init2_59 : decode b_View_init2 59 = .ok (.iconst 1, 1) := by decide +kernel
theorem d_View_init2_60 : decode b_View_init2 60 = .ok (.goto 4, 3) := by decide +kernel
theorem d_View_init2_63 : decode b_View_init2 63 = .ok (.iconst 0, 1) := by decide +kernel
theorem d_View_init2_64 : decode b_View_init2 64 = .ok (.putfield 30, 3) := by decide +kernel
theorem d_View_init2_67 : decode b_View_init2 67 = .ok (.aload_n 0, 1) := by decide +kernel
theorem d_View_init2_68 : decode b_View_init2 68 = .ok (.new 34, 3) := by decide +kernel
theorem d_View_init2_71 : decode b_View_init2 71 = .ok (.dup, 1) := by decide +kernel
theorem d_View_init2_72 : decode b_View_init2 72 = .ok (.invokespecial 36, 3) := by decide +kernel
theorem d_View_init2_75 : decode b_View_init2 75 = .ok (.putfield 37, 3) := by decide +kernel
theorem d_View_init2_78 : decode b_View_init2 78 = .ok (.return_, 1) := by decide +kernel
theorem d_View_admits_0 : decode b_View_admits 0 = .ok (.aload_n 0, 1) := by decide +kernel
theorem d_View_admits_1 : decode b_View_admits 1 = .ok (.astore_n 2, 1) := by decide +kernel
theorem d_View_admits_2 : decode b_View_admits 2 = .ok (.aload_n 2, 1) := by decide +kernel
theorem d_View_admits_3 : decode b_View_admits 3 = .ok (.ifnull 21, 3) := by decide +kernel
theorem d_View_admits_6 : decode b_View_admits 6 = .ok (.aload_n 2, 1) := by decide +kernel
theorem d_View_admits_7 : decode b_View_admits 7 = .ok (.aload_n 1, 1) := by decide +kernel
theorem d_View_admits_8 : decode b_View_admits 8 = .ok (.invokevirtual 45, 3) := by decide +kernel
theorem d_View_admits_11 : decode b_View_admits 11 = .ok (.ifCond .ne 5, 3) := by decide +kernel
theorem d_View_admits_14 : decode b_View_admits 14 = .ok (.iconst 0, 1) := by decide +kernel
theorem d_View_admits_15 : decode b_View_admits 15 = .ok (.ireturn, 1) := by decide +kernel
theorem d_View_admits_16 : decode b_View_admits 16 = .ok (.aload_n 2, 1) := by decide +kernel
theorem d_View_admits_17 : decode b_View_admits 17 = .ok (.getfield 15, 3) := by decide +kernel
theorem d_View_admits_20 : decode b_View_admits 20 = .ok (.astore_n 2, 1) := by decide +kernel
theorem d_View_admits_21 : decode b_View_admits 21 = .ok (.goto (-19), 3) := by decide +kernel
theorem d_View_admits_24 : decode b_View_admits 24 = .ok (.iconst 1, 1) := by decide +kernel
theorem d_View_admits_25 : decode b_View_admits 25 = .ok (.ireturn, 1) := by decide +kernel
theorem d_View_bounds_0 : decode b_View_bounds 0 = .ok (.aload_n 0, 1) := by decide +kernel
theorem d_View_bounds_1 : decode b_View_bounds 1 = .ok (.getfield 19, 3) := by decide +kernel
theorem d_View_bounds_4 : decode b_View_bounds 4 = .ok (.tableswitch 71 0 2 #[28, 37, 54], 28) := by decide +kernel
theorem d_View_bounds_32 : decode b_View_bounds 32 = .ok (.aload_n 1, 1) := by decide +kernel
theorem d_View_bounds_33 : decode b_View_bounds 33 = .ok (.aload_n 0, 1) := by decide +kernel
theorem d_View_bounds_34 : decode b_View_bounds 34 = .ok (.getfield 26, 3) := by decide +kernel
theorem d_View_bounds_37 : decode b_View_bounds 37 = .ok (.invokevirtual 49, 3) := by decide +kernel
theorem d_View_bounds_40 : decode b_View_bounds 40 = .ok (.ireturn, 1) := by decide +kernel
theorem d_View_bounds_41 : decode b_View_bounds 41 = .ok (.aload_n 1, 1) := by decide +kernel
theorem d_View_bounds_42 : decode b_View_bounds 42 = .ok (.aload_n 0, 1) := by decide +kernel
theorem d_View_bounds_43 : decode b_View_bounds 43 = .ok (.getfield 26, 3) := by decide +kernel
theorem d_View_bounds_46 : decode b_View_bounds 46 = .ok (.invokevirtual 52, 3) := by decide +kernel
theorem d_View_bounds_49 : decode b_View_bounds 49 = .ok (.ifCond .ge 7, 3) := by decide +kernel
theorem d_View_bounds_52 : decode b_View_bounds 52 = .ok (.iconst 1, 1) := by decide +kernel
theorem d_View_bounds_53 : decode b_View_bounds 53 = .ok (.goto 4, 3) := by decide +kernel
theorem d_View_bounds_56 : decode b_View_bounds 56 = .ok (.iconst 0, 1) := by decide +kernel
theorem d_View_bounds_57 : decode b_View_bounds 57 = .ok (.ireturn, 1) := by decide +kernel
theorem d_View_bounds_58 : decode b_View_bounds 58 = .ok (.aload_n 1, 1) := by decide +kernel
theorem d_View_bounds_59 : decode b_View_bounds 59 = .ok (.aload_n 0, 1) := by decide +kernel
theorem d_View_bounds_60 : decode b_View_bounds 60 = .ok (.getfield 26, 3) := by decide +kernel
theorem d_View_bounds_63 : decode b_View_bounds 63 = .ok (.invokevirtual 52, 3) := by decide +kernel
theorem d_View_bounds_66 : decode b_View_bounds 66 = .ok (.ifCond .lt 7, 3) := by decide +kernel
theorem d_View_bounds_69 : decode b_View_bounds 69 = .ok (.iconst 1, 1) := by decide +kernel
theorem d_View_bounds_70 : decode b_View_bounds 70 = .ok (.goto 4, 3) := by decide +kernel
theorem d_View_bounds_73 : decode b_View_bounds 73 = .ok (.iconst 0, 1) := by decide +kernel
theorem d_View_bounds_74 : decode b_View_bounds 74 = .ok (.ireturn, 1) := by decide +kernel
theorem d_View_bounds_75 : decode b_View_bounds 75 = .ok (.iconst 1, 1) := by decide +kernel
theorem d_View_bounds_76 : decode b_View_bounds 76 = .ok (.ireturn, 1) := by decide +kernel
theorem d_View_measure_0 : decode b_View_measure 0 = .ok (.aload_n 0, 1) := by decide +kernel
theorem d_View_measure_1 : decode b_View_measure 1 = .ok (.iconst 0, 1) := by decide +kernel
theorem d_View_measure_2 : decode b_View_measure 2 = .ok (.putfield 56, 3) := by decide +kernel
theorem d_View_measure_5 : decode b_View_measure 5 = .ok (.aload_n 0, 1) := by decide +kernel
theorem d_View_measure_6 : decode b_View_measure 6 = .ok (.getfield 56, 3) := by decide +kernel
theorem d_View_measure_9 : decode b_View_measure 9 = .ok (.aload_n 0, 1) := by decide +kernel
theorem d_View_measure_10 : decode b_View_measure 10 = .ok (.getfield 9, 3) := by decide +kernel
theorem d_View_measure_13 : decode b_View_measure 13 = .ok (.getfield 59, 3) := by decide +kernel
theorem d_View_measure_16 : decode b_View_measure 16 = .ok (.if_icmp .ge 35, 3) := by decide +kernel
theorem d_View_measure_19 : decode b_View_measure 19 = .ok (.aload_n 0, 1) := by decide +kernel
theorem d_View_measure_20 : decode b_View_measure 20 = .ok (.aload_n 0, 1) := by decide +kernel
theorem d_View_measure_21 : decode b_View_measure 21 = .ok (.getfield 9, 3) := by decide +kernel
theorem d_View_measure_24 : decode b_View_measure 24 = .ok (.getfield 64, 3) := by decide +kernel
theorem d_View_measure_27 : decode b_View_measure 27 = .ok (.aload_n 0, 1) := by decide +kernel
theorem d_View_measure_28 : decode b_View_measure 28 = .ok (.getfield 56, 3) := by decide +kernel
theorem d_View_measure_31 : decode b_View_measure 31 = .ok (.aaload, 1) := by decide +kernel
theorem d_View_measure_32 : decode b_View_measure 32 = .ok (.invokevirtual 68, 3) := by decide +kernel
theorem d_View_measure_35 : decode b_View_measure 35 = .ok (.ifCond .ne 16, 3) := by decide +kernel
theorem d_View_measure_38 : decode b_View_measure 38 = .ok (.aload_n 0, 1) := by decide +kernel
theorem d_View_measure_39 : decode b_View_measure 39 = .ok (.dup, 1) := by decide +kernel
theorem d_View_measure_40 : decode b_View_measure 40 = .ok (.getfield 56, 3) := by decide +kernel
theorem d_View_measure_43 : decode b_View_measure 43 = .ok (.iconst 1, 1) := by decide +kernel
theorem d_View_measure_44 : decode b_View_measure 44 = .ok (.iadd, 1) := by decide +kernel
theorem d_View_measure_45 : decode b_View_measure 45 = .ok (.putfield 56, 3) := by decide +kernel
theorem d_View_measure_48 : decode b_View_measure 48 = .ok (.goto (-43), 3) := by decide +kernel
theorem d_View_measure_51 : decode b_View_measure 51 = .ok (.aload_n 0, 1) := by decide +kernel
theorem d_View_measure_52 : decode b_View_measure 52 = .ok (.aload_n 0, 1) := by decide +kernel
theorem d_View_measure_53 : decode b_View_measure 53 = .ok (.getfield 9, 3) := by decide +kernel
theorem d_View_measure_56 : decode b_View_measure 56 = .ok (.getfield 59, 3) := by decide +kernel
theorem d_View_measure_59 : decode b_View_measure 59 = .ok (.putfield 71, 3) := by decide +kernel
theorem d_View_measure_62 : decode b_View_measure 62 = .ok (.aload_n 0, 1) := by decide +kernel
theorem d_View_measure_63 : decode b_View_measure 63 = .ok (.getfield 71, 3) := by decide +kernel
theorem d_View_measure_66 : decode b_View_measure 66 = .ok (.aload_n 0, 1) := by decide +kernel
theorem d_View_measure_67 : decode b_View_measure 67 = .ok (.getfield 56, 3) := by decide +kernel
theorem d_View_measure_70 : decode b_View_measure 70 = .ok (.if_icmp .le 37, 3) := by decide +kernel
theorem d_View_measure_73 : decode b_View_measure 73 = .ok (.aload_n 0, 1) := by decide +kernel
theorem d_View_measure_74 : decode b_View_measure 74 = .ok (.aload_n 0, 1) := by decide +kernel
theorem d_View_measure_75 : decode b_View_measure 75 = .ok (.getfield 9, 3) := by decide +kernel
theorem d_View_measure_78 : decode b_View_measure 78 = .ok (.getfield 64, 3) := by decide +kernel
theorem d_View_measure_81 : decode b_View_measure 81 = .ok (.aload_n 0, 1) := by decide +kernel
theorem d_View_measure_82 : decode b_View_measure 82 = .ok (.getfield 71, 3) := by decide +kernel
theorem d_View_measure_85 : decode b_View_measure 85 = .ok (.iconst 1, 1) := by decide +kernel
theorem d_View_measure_86 : decode b_View_measure 86 = .ok (.isub, 1) := by decide +kernel
theorem d_View_measure_87 : decode b_View_measure 87 = .ok (.aaload, 1) := by decide +kernel
theorem d_View_measure_88 : decode b_View_measure 88 = .ok (.invokevirtual 68, 3) := by decide +kernel
theorem d_View_measure_91 : decode b_View_measure 91 = .ok (.ifCond .ne 16, 3) := by decide +kernel
theorem d_View_measure_94 : decode b_View_measure 94 = .ok (.aload_n 0, 1) := by decide +kernel
theorem d_View_measure_95 : decode b_View_measure 95 = .ok (.dup, 1) := by decide +kernel
theorem d_View_measure_96 : decode b_View_measure 96 = .ok (.getfield 71, 3) := by decide +kernel
theorem d_View_measure_99 : decode b_View_measure 99 = .ok (.iconst 1, 1) := by decide +kernel
theorem d_View_measure_100 : decode b_View_measure 100 = .ok (.isub, 1) := by decide +kernel
theorem d_View_measure_101 : decode b_View_measure 101 = .ok (.putfield 71, 3) := by decide +kernel
theorem d_View_measure_104 : decode b_View_measure 104 = .ok (.goto (-42), 3) := by decide +kernel
theorem d_View_measure_107 : decode b_View_measure 107 = .ok (.return_, 1) := by decide +kernel
theorem d_View_count_0 : decode b_View_count 0 = .ok (.aload_n 0, 1) := by decide +kernel
theorem d_View_count_1 : decode b_View_count 1 = .ok (.getfield 71, 3) := by decide +kernel
theorem d_View_count_4 : decode b_View_count 4 = .ok (.aload_n 0, 1) := by decide +kernel
theorem d_View_count_5 : decode b_View_count 5 = .ok (.getfield 56, 3) := by decide +kernel
theorem d_View_count_8 : decode b_View_count 8 = .ok (.isub, 1) := by decide +kernel
theorem d_View_count_9 : decode b_View_count 9 = .ok (.ireturn, 1) := by decide +kernel
theorem d_View_placeRanked_0 : decode b_View_placeRanked 0 = .ok (.aload_n 0, 1) := by decide +kernel
theorem d_View_placeRanked_1 : decode b_View_placeRanked 1 = .ok (.getfield 30, 3) := by decide +kernel
theorem d_View_placeRanked_4 : decode b_View_placeRanked 4 = .ok (.ifCond .eq 14, 3) := by decide +kernel
theorem d_View_placeRanked_7 : decode b_View_placeRanked 7 = .ok (.aload_n 0, 1) := by decide +kernel
theorem d_View_placeRanked_8 : decode b_View_placeRanked 8 = .ok (.getfield 71, 3) := by decide +kernel
theorem d_View_placeRanked_11 : decode b_View_placeRanked 11 = .ok (.iconst 1, 1) := by decide +kernel
theorem d_View_placeRanked_12 : decode b_View_placeRanked 12 = .ok (.isub, 1) := by decide +kernel
theorem d_View_placeRanked_13 : decode b_View_placeRanked 13 = .ok (.iload_n 1, 1) := by decide +kernel
theorem d_View_placeRanked_14 : decode b_View_placeRanked 14 = .ok (.isub, 1) := by decide +kernel
theorem d_View_placeRanked_15 : decode b_View_placeRanked 15 = .ok (.goto 9, 3) := by decide +kernel
theorem d_View_placeRanked_18 : decode b_View_placeRanked 18 = .ok (.aload_n 0, 1) := by decide +kernel
theorem d_View_placeRanked_19 : decode b_View_placeRanked 19 = .ok (.getfield 56, 3) := by decide +kernel
theorem d_View_placeRanked_22 : decode b_View_placeRanked 22 = .ok (.iload_n 1, 1) := by decide +kernel
theorem d_View_placeRanked_23 : decode b_View_placeRanked 23 = .ok (.iadd, 1) := by decide +kernel
theorem d_View_placeRanked_24 : decode b_View_placeRanked 24 = .ok (.ireturn, 1) := by decide +kernel
theorem d_View_placeOf_0 : decode b_View_placeOf 0 = .ok (.aload_n 0, 1) := by decide +kernel
theorem d_View_placeOf_1 : decode b_View_placeOf 1 = .ok (.aload_n 1, 1) := by decide +kernel
theorem d_View_placeOf_2 : decode b_View_placeOf 2 = .ok (.invokevirtual 68, 3) := by decide +kernel
theorem d_View_placeOf_5 : decode b_View_placeOf 5 = .ok (.ifCond .eq 14, 3) := by decide +kernel
theorem d_View_placeOf_8 : decode b_View_placeOf 8 = .ok (.aload_n 0, 1) := by decide +kernel
theorem d_View_placeOf_9 : decode b_View_placeOf 9 = .ok (.getfield 9, 3) := by decide +kernel
theorem d_View_placeOf_12 : decode b_View_placeOf 12 = .ok (.aload_n 1, 1) := by decide +kernel
theorem d_View_placeOf_13 : decode b_View_placeOf 13 = .ok (.invokevirtual 74, 3) := by decide +kernel
theorem d_View_placeOf_16 : decode b_View_placeOf 16 = .ok (.goto 4, 3) := by decide +kernel
theorem d_View_placeOf_19 : decode b_View_placeOf 19 = .ok (.iconst (-1), 1) := by decide +kernel
theorem d_View_placeOf_20 : decode b_View_placeOf 20 = .ok (.ireturn, 1) := by decide +kernel
theorem d_View_rankBy_0 : decode b_View_rankBy 0 = .ok (.iload_n 1, 1) := by decide +kernel
theorem d_View_rankBy_1 : decode b_View_rankBy 1 = .ok (.tableswitch 80 0 5 #[39, 48, 57, 64, 71, 73], 39) := by decide +kernel
theorem d_View_rankBy_40 : decode b_View_rankBy 40 = .ok (.aload_n 0, 1) := by decide +kernel
theorem d_View_rankBy_41 : decode b_View_rankBy 41 = .ok (.aload_n 2, 1) := by decide +kernel
theorem d_View_rankBy_42 : decode b_View_rankBy 42 = .ok (.iconst 1, 1) := by decide +kernel
theorem d_View_rankBy_43 : decode b_View_rankBy 43 = .ok (.invokevirtual 77, 3) := by decide +kernel
theorem d_View_rankBy_46 : decode b_View_rankBy 46 = .ok (.iconst 1, 1) := by decide +kernel
theorem d_View_rankBy_47 : decode b_View_rankBy 47 = .ok (.isub, 1) := by decide +kernel
theorem d_View_rankBy_48 : decode b_View_rankBy 48 = .ok (.ireturn, 1) := by decide +kernel
theorem d_View_rankBy_49 : decode b_View_rankBy 49 = .ok (.aload_n 0, 1) := by decide +kernel
theorem d_View_rankBy_50 : decode b_View_rankBy 50 = .ok (.aload_n 2, 1) := by decide +kernel
theorem d_View_rankBy_51 : decode b_View_rankBy 51 = .ok (.iconst 0, 1) := by decide +kernel
theorem d_View_rankBy_52 : decode b_View_rankBy 52 = .ok (.invokevirtual 77, 3) := by decide +kernel
theorem d_View_rankBy_55 : decode b_View_rankBy 55 = .ok (.iconst 1, 1) := by decide +kernel
theorem d_View_rankBy_56 : decode b_View_rankBy 56 = .ok (.isub, 1) := by decide +kernel
theorem d_View_rankBy_57 : decode b_View_rankBy 57 = .ok (.ireturn, 1) := by decide +kernel
theorem d_View_rankBy_58 : decode b_View_rankBy 58 = .ok (.aload_n 0, 1) := by decide +kernel
theorem d_View_rankBy_59 : decode b_View_rankBy 59 = .ok (.aload_n 2, 1) := by decide +kernel
theorem d_View_rankBy_60 : decode b_View_rankBy 60 = .ok (.iconst 0, 1) := by decide +kernel
theorem d_View_rankBy_61 : decode b_View_rankBy 61 = .ok (.invokevirtual 77, 3) := by decide +kernel
theorem d_View_rankBy_64 : decode b_View_rankBy 64 = .ok (.ireturn, 1) := by decide +kernel
theorem d_View_rankBy_65 : decode b_View_rankBy 65 = .ok (.aload_n 0, 1) := by decide +kernel
theorem d_View_rankBy_66 : decode b_View_rankBy 66 = .ok (.aload_n 2, 1) := by decide +kernel
theorem d_View_rankBy_67 : decode b_View_rankBy 67 = .ok (.iconst 1, 1) := by decide +kernel
theorem d_View_rankBy_68 : decode b_View_rankBy 68 = .ok (.invokevirtual 77, 3) := by decide +kernel
theorem d_View_rankBy_71 : decode b_View_rankBy 71 = .ok (.ireturn, 1) := by decide +kernel
theorem d_View_rankBy_72 : decode b_View_rankBy 72 = .ok (.iconst 0, 1) := by decide +kernel
theorem d_View_rankBy_73 : decode b_View_rankBy 73 = .ok (.ireturn, 1) := by decide +kernel
theorem d_View_rankBy_74 : decode b_View_rankBy 74 = .ok (.aload_n 0, 1) := by decide +kernel
theorem d_View_rankBy_75 : decode b_View_rankBy 75 = .ok (.invokevirtual 81, 3) := by decide +kernel
theorem d_View_rankBy_78 : decode b_View_rankBy 78 = .ok (.iconst 1, 1) := by decide +kernel
theorem d_View_rankBy_79 : decode b_View_rankBy 79 = .ok (.isub, 1) := by decide +kernel
theorem d_View_rankBy_80 : decode b_View_rankBy 80 = .ok (.ireturn, 1) := by decide +kernel
theorem d_View_rankBy_81 : decode b_View_rankBy 81 = .ok (.aload_n 0, 1) := by decide +kernel
theorem d_View_rankBy_82 : decode b_View_rankBy 82 = .ok (.aload_n 2, 1) := by decide +kernel
theorem d_View_rankBy_83 : decode b_View_rankBy 83 = .ok (.invokevirtual 84, 3) := by decide +kernel
theorem d_View_rankBy_86 : decode b_View_rankBy 86 = .ok (.ireturn, 1) := by decide +kernel
theorem d_View_countBefore_0 : decode b_View_countBefore 0 = .ok (.iconst 0, 1) := by decide +kernel
theorem d_View_countBefore_1 : decode b_View_countBefore 1 = .ok (.istore_n 3, 1) := by decide +kernel
theorem d_View_countBefore_2 : decode b_View_countBefore 2 = .ok (.aload_n 0, 1) := by decide +kernel
theorem d_View_countBefore_3 : decode b_View_countBefore 3 = .ok (.getfield 56, 3) := by decide +kernel
theorem d_View_countBefore_6 : decode b_View_countBefore 6 = .ok (.istore 4, 2) := by decide +kernel
theorem d_View_countBefore_8 : decode b_View_countBefore 8 = .ok (.iload 4, 2) := by decide +kernel
theorem d_View_countBefore_10 : decode b_View_countBefore 10 = .ok (.aload_n 0, 1) := by decide +kernel
theorem d_View_countBefore_11 : decode b_View_countBefore 11 = .ok (.getfield 71, 3) := by decide +kernel
theorem d_View_countBefore_14 : decode b_View_countBefore 14 = .ok (.if_icmp .ge 62, 3) := by decide +kernel
theorem d_View_countBefore_17 : decode b_View_countBefore 17 = .ok (.aload_n 0, 1) := by decide +kernel
theorem d_View_countBefore_18 : decode b_View_countBefore 18 = .ok (.getfield 9, 3) := by decide +kernel
theorem d_View_countBefore_21 : decode b_View_countBefore 21 = .ok (.getfield 64, 3) := by decide +kernel
theorem d_View_countBefore_24 : decode b_View_countBefore 24 = .ok (.iload 4, 2) := by decide +kernel
theorem d_View_countBefore_26 : decode b_View_countBefore 26 = .ok (.aaload, 1) := by decide +kernel
theorem d_View_countBefore_27 : decode b_View_countBefore 27 = .ok (.astore 5, 2) := by decide +kernel
theorem d_View_countBefore_29 : decode b_View_countBefore 29 = .ok (.aload_n 0, 1) := by decide +kernel
theorem d_View_countBefore_30 : decode b_View_countBefore 30 = .ok (.getfield 30, 3) := by decide +kernel
theorem d_View_countBefore_33 : decode b_View_countBefore 33 = .ok (.ifCond .eq 12, 3) := by decide +kernel
theorem d_View_countBefore_36 : decode b_View_countBefore 36 = .ok (.aload_n 1, 1) := by decide +kernel
theorem d_View_countBefore_37 : decode b_View_countBefore 37 = .ok (.aload 5, 2) := by decide +kernel
theorem d_View_countBefore_39 : decode b_View_countBefore 39 = .ok (.invokevirtual 52, 3) := by decide +kernel
theorem d_View_countBefore_42 : decode b_View_countBefore 42 = .ok (.goto 9, 3) := by decide +kernel
theorem d_View_countBefore_45 : decode b_View_countBefore 45 = .ok (.aload 5, 2) := by decide +kernel
theorem d_View_countBefore_47 : decode b_View_countBefore 47 = .ok (.aload_n 1, 1) := by decide +kernel
theorem d_View_countBefore_48 : decode b_View_countBefore 48 = .ok (.invokevirtual 52, 3) := by decide +kernel
theorem d_View_countBefore_51 : decode b_View_countBefore 51 = .ok (.istore 6, 2) := by decide +kernel
theorem d_View_countBefore_53 : decode b_View_countBefore 53 = .ok (.iload 6, 2) := by decide +kernel
theorem d_View_countBefore_55 : decode b_View_countBefore 55 = .ok (.ifCond .lt 12, 3) := by decide +kernel
theorem d_View_countBefore_58 : decode b_View_countBefore 58 = .ok (.iload_n 2, 1) := by decide +kernel
theorem d_View_countBefore_59 : decode b_View_countBefore 59 = .ok (.ifCond .eq 11, 3) := by decide +kernel
theorem d_View_countBefore_62 : decode b_View_countBefore 62 = .ok (.iload 6, 2) := by decide +kernel
theorem d_View_countBefore_64 : decode b_View_countBefore 64 = .ok (.ifCond .ne 6, 3) := by decide +kernel
theorem d_View_countBefore_67 : decode b_View_countBefore 67 = .ok (.iinc 3 1, 3) := by decide +kernel
theorem d_View_countBefore_70 : decode b_View_countBefore 70 = .ok (.iinc 4 1, 3) := by decide +kernel
theorem d_View_countBefore_73 : decode b_View_countBefore 73 = .ok (.goto (-65), 3) := by decide +kernel
theorem d_View_countBefore_76 : decode b_View_countBefore 76 = .ok (.iload_n 3, 1) := by decide +kernel
theorem d_View_countBefore_77 : decode b_View_countBefore 77 = .ok (.ireturn, 1) := by decide +kernel
theorem d_View_rankOfLongestStart_0 : decode b_View_rankOfLongestStart 0 = .ok (.iconst (-1), 1) := by decide +kernel
theorem d_View_rankOfLongestStart_1 : decode b_View_rankOfLongestStart 1 = .ok (.istore_n 2, 1) := by decide +kernel
theorem d_View_rankOfLongestStart_2 : decode b_View_rankOfLongestStart 2 = .ok (.iconst (-1), 1) := by decide +kernel
theorem d_View_rankOfLongestStart_3 : decode b_View_rankOfLongestStart 3 = .ok (.istore_n 3, 1) := by decide +kernel
theorem d_View_rankOfLongestStart_4 : decode b_View_rankOfLongestStart 4 = .ok (.iconst 0, 1) := by decide +kernel
theorem d_View_rankOfLongestStart_5 : decode b_View_rankOfLongestStart 5 = .ok (.istore 4, 2) := by decide +kernel
theorem d_View_rankOfLongestStart_7 : decode b_View_rankOfLongestStart 7 = .ok (.iload 4, 2) := by decide +kernel
theorem d_View_rankOfLongestStart_9 : decode b_View_rankOfLongestStart 9 = .ok (.aload_n 0, 1) := by decide +kernel
theorem d_View_rankOfLongestStart_10 : decode b_View_rankOfLongestStart 10 = .ok (.invokevirtual 81, 3) := by decide +kernel
theorem d_View_rankOfLongestStart_13 : decode b_View_rankOfLongestStart 13 = .ok (.if_icmp .ge 52, 3) := by decide +kernel
theorem d_View_rankOfLongestStart_16 : decode b_View_rankOfLongestStart 16 = .ok (.aload_n 0, 1) := by decide +kernel
theorem d_View_rankOfLongestStart_17 : decode b_View_rankOfLongestStart 17 = .ok (.getfield 9, 3) := by decide +kernel
theorem d_View_rankOfLongestStart_20 : decode b_View_rankOfLongestStart 20 = .ok (.getfield 64, 3) := by decide +kernel
theorem d_View_rankOfLongestStart_23 : decode b_View_rankOfLongestStart 23 = .ok (.aload_n 0, 1) := by decide +kernel
theorem d_View_rankOfLongestStart_24 : decode b_View_rankOfLongestStart 24 = .ok (.iload 4, 2) := by decide +kernel
theorem d_View_rankOfLongestStart_26 : decode b_View_rankOfLongestStart 26 = .ok (.invokevirtual 87, 3) := by decide +kernel
theorem d_View_rankOfLongestStart_29 : decode b_View_rankOfLongestStart 29 = .ok (.aaload, 1) := by decide +kernel
theorem d_View_rankOfLongestStart_30 : decode b_View_rankOfLongestStart 30 = .ok (.astore 5, 2) := by decide +kernel
theorem d_View_rankOfLongestStart_32 : decode b_View_rankOfLongestStart 32 = .ok (.aload 5, 2) := by decide +kernel
theorem d_View_rankOfLongestStart_34 : decode b_View_rankOfLongestStart 34 = .ok (.getfield 91, 3) := by decide +kernel
theorem d_View_rankOfLongestStart_37 : decode b_View_rankOfLongestStart 37 = .ok (.iload_n 3, 1) := by decide +kernel
theorem d_View_rankOfLongestStart_38 : decode b_View_rankOfLongestStart 38 = .ok (.if_icmp .le 21, 3) := by decide +kernel
theorem d_View_rankOfLongestStart_41 : decode b_View_rankOfLongestStart 41 = .ok (.aload_n 1, 1) := by decide +kernel
theorem d_View_rankOfLongestStart_42 : decode b_View_rankOfLongestStart 42 = .ok (.aload 5, 2) := by decide +kernel
theorem d_View_rankOfLongestStart_44 : decode b_View_rankOfLongestStart 44 = .ok (.invokevirtual 49, 3) := by decide +kernel
theorem d_View_rankOfLongestStart_47 : decode b_View_rankOfLongestStart 47 = .ok (.ifCond .eq 12, 3) := by decide +kernel
theorem d_View_rankOfLongestStart_50 : decode b_View_rankOfLongestStart 50 = .ok (.aload 5, 2) := by decide +kernel
theorem d_View_rankOfLongestStart_52 : decode b_View_rankOfLongestStart 52 = .ok (.getfield 91, 3) := by decide +kernel
theorem d_View_rankOfLongestStart_55 : decode b_View_rankOfLongestStart 55 = .ok (.istore_n 3, 1) := by decide +kernel
theorem d_View_rankOfLongestStart_56 : decode b_View_rankOfLongestStart 56 = .ok (.iload 4, 2) := by decide +kernel
theorem d_View_rankOfLongestStart_58 : decode b_View_rankOfLongestStart 58 = .ok (.istore_n 2, 1) := by decide +kernel
theorem d_View_rankOfLongestStart_59 : decode b_View_rankOfLongestStart 59 = .ok (.iinc 4 1, 3) := by decide +kernel
theorem d_View_rankOfLongestStart_62 : decode b_View_rankOfLongestStart 62 = .ok (.goto (-55), 3) := by decide +kernel
theorem d_View_rankOfLongestStart_65 : decode b_View_rankOfLongestStart 65 = .ok (.iload_n 2, 1) := by decide +kernel
theorem d_View_rankOfLongestStart_66 : decode b_View_rankOfLongestStart 66 = .ok (.ireturn, 1) := by decide +kernel
theorem d_Walker_init_0 : decode b_Walker_init 0 = .ok (.aload_n 0, 1) := by decide +kernel
theorem d_Walker_init_1 : decode b_Walker_init 1 = .ok (.invokespecial 1, 3) := by decide +kernel
theorem d_Walker_init_4 : decode b_Walker_init 4 = .ok (.return_, 1) := by decide +kernel
theorem d_Walker_begin_0 : decode b_Walker_begin 0 = .ok (.aload_n 0, 1) := by decide +kernel
theorem d_Walker_begin_1 : decode b_Walker_begin 1 = .ok (.iconst 1, 1) := by decide +kernel
theorem d_Walker_begin_2 : decode b_Walker_begin 2 = .ok (.putfield 7, 3) := by decide +kernel
theorem d_Walker_begin_5 : decode b_Walker_begin 5 = .ok (.aload_n 0, 1) := by decide +kernel
theorem d_Walker_begin_6 : decode b_Walker_begin 6 = .ok (.iconst 0, 1) := by decide +kernel
theorem d_Walker_begin_7 : decode b_Walker_begin 7 = .ok (.putfield 13, 3) := by decide +kernel
theorem d_Walker_begin_10 : decode b_Walker_begin 10 = .ok (.aload_n 0, 1) := by decide +kernel
theorem d_Walker_begin_11 : decode b_Walker_begin 11 = .ok (.iconst 0, 1) := by decide +kernel
theorem d_Walker_begin_12 : decode b_Walker_begin 12 = .ok (.putfield 17, 3) := by decide +kernel
theorem d_Walker_begin_15 : decode b_Walker_begin 15 = .ok (.aload_n 0, 1) := by decide +kernel
theorem d_Walker_begin_16 : decode b_Walker_begin 16 = .ok (.iload_n 1, 1) := by decide +kernel
theorem d_Walker_begin_17 : decode b_Walker_begin 17 = .ok (.putfield 20, 3) := by decide +kernel
theorem d_Walker_begin_20 : decode b_Walker_begin 20 = .ok (.return_, 1) := by decide +kernel
theorem d_Walker_mayGoOn_0 : decode b_Walker_mayGoOn 0 = .ok (.aload_n 0, 1) := by decide +kernel
theorem d_Walker_mayGoOn_1 : decode b_Walker_mayGoOn 1 = .ok (.getfield 7, 3) := by decide +kernel
theorem d_Walker_mayGoOn_4 : decode b_Walker_mayGoOn 4 = .ok (.ifCond .eq 15, 3) := by decide +kernel
theorem d_Walker_mayGoOn_7 : decode b_Walker_mayGoOn 7 = .ok (.iload_n 1, 1) := by decide +kernel
theorem d_Walker_mayGoOn_8 : decode b_Walker_mayGoOn 8 = .ok (.aload_n 0, 1) := by decide +kernel
theorem d_Walker_mayGoOn_9 : decode b_Walker_mayGoOn 9 = .ok (.getfield 20, 3) := by decide +kernel
theorem d_Walker_mayGoOn_12 : decode b_Walker_mayGoOn 12 = .ok (.if_icmp .ne 7, 3) := by decide +kernel
theorem d_Walker_mayGoOn_15 : decode b_Walker_mayGoOn 15 = .ok (.iconst 1, 1) := by decide +kernel
theorem d_Walker_mayGoOn_16 : decode b_Walker_mayGoOn 16 = .ok (.goto 4, 3) := by decide +kernel
theorem d_Walker_mayGoOn_19 : decode b_Walker_mayGoOn 19 = .ok (.iconst 0, 1) := by decide +kernel
theorem d_Walker_mayGoOn_20 : decode b_Walker_mayGoOn 20 = .ok (.ireturn, 1) := by decide +kernel
theorem d_Walker_step_0 : decode b_Walker_step 0 = .ok (.aload_n 0, 1) := by decide +kernel
theorem d_Walker_step_1 : decode b_Walker_step 1 = .ok (.dup, 1) := by decide +kernel
theorem d_Walker_step_2 : decode b_Walker_step 2 = .ok (.getfield 13, 3) := by decide +kernel
theorem d_Walker_step_5 : decode b_Walker_step 5 = .ok (.iconst 1, 1) := by decide +kernel
theorem d_Walker_step_6 : decode b_Walker_step 6 = .ok (.iadd, 1) := by decide +kernel
theorem d_Walker_step_7 : decode b_Walker_step 7 = .ok (.putfield 13, 3) := by decide +kernel
theorem d_Walker_step_10 : decode b_Walker_step 10 = .ok (.aload_n 0, 1) := by decide +kernel
theorem d_Walker_step_11 : decode b_Walker_step 11 = .ok (.iconst 1, 1) := by decide +kernel
theorem d_Walker_step_12 : decode b_Walker_step 12 = .ok (.putfield 17, 3) := by decide +kernel
theorem d_Walker_step_15 : decode b_Walker_step 15 = .ok (.return_, 1) := by decide +kernel
theorem d_Walker_stepBack_0 : decode b_Walker_stepBack 0 = .ok (.aload_n 0, 1) := by decide +kernel
theorem d_Walker_stepBack_1 : decode b_Walker_stepBack 1 = .ok (.dup, 1) := by decide +kernel
theorem d_Walker_stepBack_2 : decode b_Walker_stepBack 2 = .ok (.getfield 13, 3) := by decide +kernel
theorem d_Walker_stepBack_5 : decode b_Walker_stepBack 5 = .ok (.iconst 1, 1) := by decide +kernel
theorem d_Walker_stepBack_6 : decode b_Walker_stepBack 6 = .ok (.isub, 1) := by decide +kernel
theorem d_Walker_stepBack_7 : decode b_Walker_stepBack 7 = .ok (.putfield 13, 3) := by decide +kernel
theorem d_Walker_stepBack_10 : decode b_Walker_stepBack 10 = .ok (.aload_n 0, 1) := by decide +kernel
theorem d_Walker_stepBack_11 : decode b_Walker_stepBack 11 = .ok (.iconst 0, 1) := by decide +kernel
theorem d_Walker_stepBack_12 : decode b_Walker_stepBack 12 = .ok (.putfield 17, 3) := by decide +kernel
theorem d_Walker_stepBack_15 : decode b_Walker_stepBack 15 = .ok (.aload_n 0, 1) := by decide +kernel
theorem d_Walker_stepBack_16 : decode b_Walker_stepBack 16 = .ok (.iload_n 1, 1) := by decide +kernel
theorem d_Walker_stepBack_17 : decode b_Walker_stepBack 17 = .ok (.putfield 20, 3) := by decide +kernel
theorem d_Walker_stepBack_20 : decode b_Walker_stepBack 20 = .ok (.return_, 1) := by decide +kernel
