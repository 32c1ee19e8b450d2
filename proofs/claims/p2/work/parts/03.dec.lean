theorem dJ9_floorDiv_f86c9_0 : decode cJ9_floorDiv_f86c9 0 = .ok (.lload_n 0, 1) := by decide +kernel
theorem dJ9_floorDiv_f86c9_1 : decode cJ9_floorDiv_f86c9 1 = .ok (.lload_n 2, 1) := by decide +kernel
theorem dJ9_floorDiv_f86c9_2 : decode cJ9_floorDiv_f86c9 2 = .ok (.ldiv, 1) := by decide +kernel
theorem dJ9_floorDiv_f86c9_3 : decode cJ9_floorDiv_f86c9 3 = .ok (.lstore 4, 2) := by decide +kernel
theorem dJ9_floorDiv_f86c9_5 : decode cJ9_floorDiv_f86c9 5 = .ok (.lload_n 0, 1) := by decide +kernel
theorem dJ9_floorDiv_f86c9_6 : decode cJ9_floorDiv_f86c9 6 = .ok (.lload_n 2, 1) := by decide +kernel
theorem dJ9_floorDiv_f86c9_7 : decode cJ9_floorDiv_f86c9 7 = .ok (.lxor, 1) := by decide +kernel
theorem dJ9_floorDiv_f86c9_8 : decode cJ9_floorDiv_f86c9 8 = .ok (.lconst 0, 1) := by decide +kernel
theorem dJ9_floorDiv_f86c9_9 : decode cJ9_floorDiv_f86c9 9 = .ok (.lcmp, 1) := by decide +kernel
theorem dJ9_floorDiv_f86c9_10 : decode cJ9_floorDiv_f86c9 10 = .ok (.ifCond .ge 17, 3) := by decide +kernel
theorem dJ9_floorDiv_f86c9_13 : decode cJ9_floorDiv_f86c9 13 = .ok (.lload 4, 2) := by decide +kernel
theorem dJ9_floorDiv_f86c9_15 : decode cJ9_floorDiv_f86c9 15 = .ok (.lload_n 2, 1) := by decide +kernel
theorem dJ9_floorDiv_f86c9_16 : decode cJ9_floorDiv_f86c9 16 = .ok (.lmul, 1) := by decide +kernel
theorem dJ9_floorDiv_f86c9_17 : decode cJ9_floorDiv_f86c9 17 = .ok (.lload_n 0, 1) := by decide +kernel
theorem dJ9_floorDiv_f86c9_18 : decode cJ9_floorDiv_f86c9 18 = .ok (.lcmp, 1) := by decide +kernel
theorem dJ9_floorDiv_f86c9_19 : decode cJ9_floorDiv_f86c9 19 = .ok (.ifCond .eq 8, 3) := by decide +kernel
theorem dJ9_floorDiv_f86c9_22 : decode cJ9_floorDiv_f86c9 22 = .ok (.lload 4, 2) := by decide +kernel
theorem dJ9_floorDiv_f86c9_24 : decode cJ9_floorDiv_f86c9 24 = .ok (.lconst 1, 1) := by decide +kernel
theorem dJ9_floorDiv_f86c9_25 : decode cJ9_floorDiv_f86c9 25 = .ok (.lsub, 1) := by decide +kernel
theorem dJ9_floorDiv_f86c9_26 : decode cJ9_floorDiv_f86c9 26 = .ok (.lreturn, 1) := by decide +kernel
theorem dJ9_floorDiv_f86c9_27 : decode cJ9_floorDiv_f86c9 27 = .ok (.lload 4, 2) := by decide +kernel
theorem dJ9_floorDiv_f86c9_29 : decode cJ9_floorDiv_f86c9 29 = .ok (.lreturn, 1) := by decide +kernel
theorem dJ9_floorMod_f86c9_0 : decode cJ9_floorMod_f86c9 0 = .ok (.lload_n 0, 1) := by decide +kernel
theorem dJ9_floorMod_f86c9_1 : decode cJ9_floorMod_f86c9 1 = .ok (.lload_n 2, 1) := by decide +kernel
theorem dJ9_floorMod_f86c9_2 : decode cJ9_floorMod_f86c9 2 = .ok (.lrem, 1) := by decide +kernel
theorem dJ9_floorMod_f86c9_3 : decode cJ9_floorMod_f86c9 3 = .ok (.lstore 4, 2) := by decide +kernel
theorem dJ9_floorMod_f86c9_5 : decode cJ9_floorMod_f86c9 5 = .ok (.lload_n 0, 1) := by decide +kernel
theorem dJ9_floorMod_f86c9_6 : decode cJ9_floorMod_f86c9 6 = .ok (.lload_n 2, 1) := by decide +kernel
theorem dJ9_floorMod_f86c9_7 : decode cJ9_floorMod_f86c9 7 = .ok (.lxor, 1) := by decide +kernel
theorem dJ9_floorMod_f86c9_8 : decode cJ9_floorMod_f86c9 8 = .ok (.lconst 0, 1) := by decide +kernel
theorem dJ9_floorMod_f86c9_9 : decode cJ9_floorMod_f86c9 9 = .ok (.lcmp, 1) := by decide +kernel
theorem dJ9_floorMod_f86c9_10 : decode cJ9_floorMod_f86c9 10 = .ok (.ifCond .ge 15, 3) := by decide +kernel
theorem dJ9_floorMod_f86c9_13 : decode cJ9_floorMod_f86c9 13 = .ok (.lload 4, 2) := by decide +kernel
theorem dJ9_floorMod_f86c9_15 : decode cJ9_floorMod_f86c9 15 = .ok (.lconst 0, 1) := by decide +kernel
theorem dJ9_floorMod_f86c9_16 : decode cJ9_floorMod_f86c9 16 = .ok (.lcmp, 1) := by decide +kernel
theorem dJ9_floorMod_f86c9_17 : decode cJ9_floorMod_f86c9 17 = .ok (.ifCond .eq 8, 3) := by decide +kernel
theorem dJ9_floorMod_f86c9_20 : decode cJ9_floorMod_f86c9 20 = .ok (.lload 4, 2) := by decide +kernel
theorem dJ9_floorMod_f86c9_22 : decode cJ9_floorMod_f86c9 22 = .ok (.lload_n 2, 1) := by decide +kernel
theorem dJ9_floorMod_f86c9_23 : decode cJ9_floorMod_f86c9 23 = .ok (.ladd, 1) := by decide +kernel
theorem dJ9_floorMod_f86c9_24 : decode cJ9_floorMod_f86c9 24 = .ok (.lreturn, 1) := by decide +kernel
theorem dJ9_floorMod_f86c9_25 : decode cJ9_floorMod_f86c9 25 = .ok (.lload 4, 2) := by decide +kernel
theorem dJ9_floorMod_f86c9_27 : decode cJ9_floorMod_f86c9 27 = .ok (.lreturn, 1) := by decide +kernel
theorem dJ6_bitCount_0f7a4_0 : decode cJ6_bitCount_0f7a4 0 = .ok (.iload_n 0, 1) := by decide +kernel
theorem dJ6_bitCount_0f7a4_1 : decode cJ6_bitCount_0f7a4 1 = .ok (.iload_n 0, 1) := by decide +kernel
theorem dJ6_bitCount_0f7a4_2 : decode cJ6_bitCount_0f7a4 2 = .ok (.iconst 1, 1) := by decide +kernel
theorem dJ6_bitCount_0f7a4_3 : decode cJ6_bitCount_0f7a4 3 = .ok (.iushr, 1) := by decide +kernel
theorem dJ6_bitCount_0f7a4_4 : decode cJ6_bitCount_0f7a4 4 = .ok (.ldc_w 265, 3) := by decide +kernel
theorem dJ6_bitCount_0f7a4_7 : decode cJ6_bitCount_0f7a4 7 = .ok (.iand, 1) := by decide +kernel
theorem dJ6_bitCount_0f7a4_8 : decode cJ6_bitCount_0f7a4 8 = .ok (.isub, 1) := by decide +kernel
theorem dJ6_bitCount_0f7a4_9 : decode cJ6_bitCount_0f7a4 9 = .ok (.istore_n 0, 1) := by decide +kernel
theorem dJ6_bitCount_0f7a4_10 : decode cJ6_bitCount_0f7a4 10 = .ok (.iload_n 0, 1) := by decide +kernel
theorem dJ6_bitCount_0f7a4_11 : decode cJ6_bitCount_0f7a4 11 = .ok (.ldc_w 266, 3) := by decide +kernel
theorem dJ6_bitCount_0f7a4_14 : decode cJ6_bitCount_0f7a4 14 = .ok (.iand, 1) := by decide +kernel
theorem dJ6_bitCount_0f7a4_15 : decode cJ6_bitCount_0f7a4 15 = .ok (.iload_n 0, 1) := by decide +kernel
theorem dJ6_bitCount_0f7a4_16 : decode cJ6_bitCount_0f7a4 16 = .ok (.iconst 2, 1) := by decide +kernel
theorem dJ6_bitCount_0f7a4_17 : decode cJ6_bitCount_0f7a4 17 = .ok (.iushr, 1) := by decide +kernel
theorem dJ6_bitCount_0f7a4_18 : decode cJ6_bitCount_0f7a4 18 = .ok (.ldc_w 266, 3) := by decide +kernel
theorem dJ6_bitCount_0f7a4_21 : decode cJ6_bitCount_0f7a4 21 = .ok (.iand, 1) := by decide +kernel
theorem dJ6_bitCount_0f7a4_22 : decode cJ6_bitCount_0f7a4 22 = .ok (.iadd, 1) := by decide +kernel
theorem dJ6_bitCount_0f7a4_23 : decode cJ6_bitCount_0f7a4 23 = .ok (.istore_n 0, 1) := by decide +kernel
theorem dJ6_bitCount_0f7a4_24 : decode cJ6_bitCount_0f7a4 24 = .ok (.iload_n 0, 1) := by decide +kernel
theorem dJ6_bitCount_0f7a4_25 : decode cJ6_bitCount_0f7a4 25 = .ok (.iload_n 0, 1) := by decide +kernel
theorem dJ6_bitCount_0f7a4_26 : decode cJ6_bitCount_0f7a4 26 = .ok (.iconst 4, 1) := by decide +kernel
theorem dJ6_bitCount_0f7a4_27 : decode cJ6_bitCount_0f7a4 27 = .ok (.iushr, 1) := by decide +kernel
theorem dJ6_bitCount_0f7a4_28 : decode cJ6_bitCount_0f7a4 28 = .ok (.iadd, 1) := by decide +kernel
theorem dJ6_bitCount_0f7a4_29 : decode cJ6_bitCount_0f7a4 29 = .ok (.ldc_w 267, 3) := by decide +kernel
theorem dJ6_bitCount_0f7a4_32 : decode cJ6_bitCount_0f7a4 32 = .ok (.iand, 1) := by decide +kernel
theorem dJ6_bitCount_0f7a4_33 : decode cJ6_bitCount_0f7a4 33 = .ok (.istore_n 0, 1) := by decide +kernel
theorem dJ6_bitCount_0f7a4_34 : decode cJ6_bitCount_0f7a4 34 = .ok (.iload_n 0, 1) := by decide +kernel
theorem dJ6_bitCount_0f7a4_35 : decode cJ6_bitCount_0f7a4 35 = .ok (.iload_n 0, 1) := by decide +kernel
theorem dJ6_bitCount_0f7a4_36 : decode cJ6_bitCount_0f7a4 36 = .ok (.bipush 8, 2) := by decide +kernel
theorem dJ6_bitCount_0f7a4_38 : decode cJ6_bitCount_0f7a4 38 = .ok (.iushr, 1) := by decide +kernel
theorem dJ6_bitCount_0f7a4_39 : decode cJ6_bitCount_0f7a4 39 = .ok (.iadd, 1) := by decide +kernel
theorem dJ6_bitCount_0f7a4_40 : decode cJ6_bitCount_0f7a4 40 = .ok (.istore_n 0, 1) := by decide +kernel
theorem dJ6_bitCount_0f7a4_41 : decode cJ6_bitCount_0f7a4 41 = .ok (.iload_n 0, 1) := by decide +kernel
theorem dJ6_bitCount_0f7a4_42 : decode cJ6_bitCount_0f7a4 42 = .ok (.iload_n 0, 1) := by decide +kernel
theorem dJ6_bitCount_0f7a4_43 : decode cJ6_bitCount_0f7a4 43 = .ok (.bipush 16, 2) := by decide +kernel
theorem dJ6_bitCount_0f7a4_45 : decode cJ6_bitCount_0f7a4 45 = .ok (.iushr, 1) := by decide +kernel
theorem dJ6_bitCount_0f7a4_46 : decode cJ6_bitCount_0f7a4 46 = .ok (.iadd, 1) := by decide +kernel
theorem dJ6_bitCount_0f7a4_47 : decode cJ6_bitCount_0f7a4 47 = .ok (.istore_n 0, 1) := by decide +kernel
theorem dJ6_bitCount_0f7a4_48 : decode cJ6_bitCount_0f7a4 48 = .ok (.iload_n 0, 1) := by decide +kernel
theorem dJ6_bitCount_0f7a4_49 : decode cJ6_bitCount_0f7a4 49 = .ok (.bipush 63, 2) := by decide +kernel
theorem dJ6_bitCount_0f7a4_51 : decode cJ6_bitCount_0f7a4 51 = .ok (.iand, 1) := by decide +kernel
theorem dJ6_bitCount_0f7a4_52 : decode cJ6_bitCount_0f7a4 52 = .ok (.ireturn, 1) := by decide +kernel
theorem dX0_count_0 : decode cX0_count 0 = .ok (.aload_n 0, 1) := by decide +kernel
theorem dX0_count_1 : decode cX0_count 1 = .ok (.getfield 22, 3) := by decide +kernel
theorem dX0_count_4 : decode cX0_count 4 = .ok (.ireturn, 1) := by decide +kernel
theorem dX0_isIn_0 : decode cX0_isIn 0 = .ok (.iload_n 1, 1) := by decide +kernel
theorem dX0_isIn_1 : decode cX0_isIn 1 = .ok (.ifCond .lt 15, 3) := by decide +kernel
theorem dX0_isIn_4 : decode cX0_isIn 4 = .ok (.iload_n 1, 1) := by decide +kernel
theorem dX0_isIn_5 : decode cX0_isIn 5 = .ok (.aload_n 0, 1) := by decide +kernel
theorem dX0_isIn_6 : decode cX0_isIn 6 = .ok (.getfield 22, 3) := by decide +kernel
theorem dX0_isIn_9 : decode cX0_isIn 9 = .ok (.if_icmp .ge 7, 3) := by decide +kernel
theorem dX0_isIn_12 : decode cX0_isIn 12 = .ok (.iconst 1, 1) := by decide +kernel
theorem dX0_isIn_13 : decode cX0_isIn 13 = .ok (.goto 4, 3) := by decide +kernel
theorem dX0_isIn_16 : decode cX0_isIn 16 = .ok (.iconst 0, 1) := by decide +kernel
theorem dX0_isIn_17 : decode cX0_isIn 17 = .ok (.ireturn, 1) := by decide +kernel
theorem dX0_begin_0 : decode cX0_begin 0 = .ok (.aload_n 0, 1) := by decide +kernel
theorem dX0_begin_1 : decode cX0_begin 1 = .ok (.iload_n 1, 1) := by decide +kernel
theorem dX0_begin_2 : decode cX0_begin 2 = .ok (.invokevirtual 26, 3) := by decide +kernel
theorem dX0_begin_5 : decode cX0_begin 5 = .ok (.ifCond .eq 12, 3) := by decide +kernel
theorem dX0_begin_8 : decode cX0_begin 8 = .ok (.aload_n 0, 1) := by decide +kernel
theorem dX0_begin_9 : decode cX0_begin 9 = .ok (.getfield 9, 3) := by decide +kernel
theorem dX0_begin_12 : decode cX0_begin 12 = .ok (.iload_n 1, 1) := by decide +kernel
theorem dX0_begin_13 : decode cX0_begin 13 = .ok (.laload, 1) := by decide +kernel
theorem dX0_begin_14 : decode cX0_begin 14 = .ok (.goto 4, 3) := by decide +kernel
theorem dX0_begin_17 : decode cX0_begin 17 = .ok (.lconst 0, 1) := by decide +kernel
theorem dX0_begin_18 : decode cX0_begin 18 = .ok (.lreturn, 1) := by decide +kernel
theorem dX0_end_0 : decode cX0_end 0 = .ok (.aload_n 0, 1) := by decide +kernel
theorem dX0_end_1 : decode cX0_end 1 = .ok (.iload_n 1, 1) := by decide +kernel
theorem dX0_end_2 : decode cX0_end 2 = .ok (.invokevirtual 26, 3) := by decide +kernel
theorem dX0_end_5 : decode cX0_end 5 = .ok (.ifCond .eq 12, 3) := by decide +kernel
theorem dX0_end_8 : decode cX0_end 8 = .ok (.aload_n 0, 1) := by decide +kernel
theorem dX0_end_9 : decode cX0_end 9 = .ok (.getfield 15, 3) := by decide +kernel
theorem dX0_end_12 : decode cX0_end 12 = .ok (.iload_n 1, 1) := by decide +kernel
theorem dX0_end_13 : decode cX0_end 13 = .ok (.laload, 1) := by decide +kernel
theorem dX0_end_14 : decode cX0_end 14 = .ok (.goto 4, 3) := by decide +kernel
theorem dX0_end_17 : decode cX0_end 17 = .ok (.lconst 0, 1) := by decide +kernel
theorem dX0_end_18 : decode cX0_end 18 = .ok (.lreturn, 1) := by decide +kernel
theorem dX0_isOver_0 : decode cX0_isOver 0 = .ok (.aload_n 0, 1) := by decide +kernel
theorem dX0_isOver_1 : decode cX0_isOver 1 = .ok (.iload_n 1, 1) := by decide +kernel
theorem dX0_isOver_2 : decode cX0_isOver 2 = .ok (.invokevirtual 26, 3) := by decide +kernel
theorem dX0_isOver_5 : decode cX0_isOver 5 = .ok (.ifCond .eq 16, 3) := by decide +kernel
theorem dX0_isOver_8 : decode cX0_isOver 8 = .ok (.aload_n 0, 1) := by decide +kernel
theorem dX0_isOver_9 : decode cX0_isOver 9 = .ok (.getfield 18, 3) := by decide +kernel
theorem dX0_isOver_12 : decode cX0_isOver 12 = .ok (.iload_n 1, 1) := by decide +kernel
theorem dX0_isOver_13 : decode cX0_isOver 13 = .ok (.baload, 1) := by decide +kernel
theorem dX0_isOver_14 : decode cX0_isOver 14 = .ok (.ifCond .eq 7, 3) := by decide +kernel
theorem dX0_isOver_17 : decode cX0_isOver 17 = .ok (.iconst 1, 1) := by decide +kernel
theorem dX0_isOver_18 : decode cX0_isOver 18 = .ok (.goto 4, 3) := by decide +kernel
theorem dX0_isOver_21 : decode cX0_isOver 21 = .ok (.iconst 0, 1) := by decide +kernel
theorem dX0_isOver_22 : decode cX0_isOver 22 = .ok (.ireturn, 1) := by decide +kernel
theorem dX0_clear_0 : decode cX0_clear 0 = .ok (.aload_n 0, 1) := by decide +kernel
theorem dX0_clear_1 : decode cX0_clear 1 = .ok (.getfield 22, 3) := by decide +kernel
theorem dX0_clear_4 : decode cX0_clear 4 = .ok (.istore_n 1, 1) := by decide +kernel
theorem dX0_clear_5 : decode cX0_clear 5 = .ok (.aload_n 0, 1) := by decide +kernel
theorem dX0_clear_6 : decode cX0_clear 6 = .ok (.iconst 0, 1) := by decide +kernel
theorem dX0_clear_7 : decode cX0_clear 7 = .ok (.putfield 22, 3) := by decide +kernel
theorem dX0_clear_10 : decode cX0_clear 10 = .ok (.iload_n 1, 1) := by decide +kernel
theorem dX0_clear_11 : decode cX0_clear 11 = .ok (.ireturn, 1) := by decide +kernel
theorem dX0_add_0 : decode cX0_add 0 = .ok (.aload_n 0, 1) := by decide +kernel
theorem dX0_add_1 : decode cX0_add 1 = .ok (.getfield 22, 3) := by decide +kernel
theorem dX0_add_4 : decode cX0_add 4 = .ok (.bipush 11, 2) := by decide +kernel
theorem dX0_add_6 : decode cX0_add 6 = .ok (.if_icmp .lt 5, 3) := by decide +kernel
theorem dX0_add_9 : decode cX0_add 9 = .ok (.iconst (-1), 1) := by decide +kernel
theorem dX0_add_10 : decode cX0_add 10 = .ok (.ireturn, 1) := by decide +kernel
theorem dX0_add_11 : decode cX0_add 11 = .ok (.aload_n 0, 1) := by decide +kernel
theorem dX0_add_12 : decode cX0_add 12 = .ok (.getfield 9, 3) := by decide +kernel
theorem dX0_add_15 : decode cX0_add 15 = .ok (.aload_n 0, 1) := by decide +kernel
theorem dX0_add_16 : decode cX0_add 16 = .ok (.getfield 22, 3) := by decide +kernel
theorem dX0_add_19 : decode cX0_add 19 = .ok (.lload_n 1, 1) := by decide +kernel
theorem dX0_add_20 : decode cX0_add 20 = .ok (.lastore, 1) := by decide +kernel
theorem dX0_add_21 : decode cX0_add 21 = .ok (.aload_n 0, 1) := by decide +kernel
theorem dX0_add_22 : decode cX0_add 22 = .ok (.getfield 15, 3) := by decide +kernel
theorem dX0_add_25 : decode cX0_add 25 = .ok (.aload_n 0, 1) := by decide +kernel
theorem dX0_add_26 : decode cX0_add 26 = .ok (.getfield 22, 3) := by decide +kernel
theorem dX0_add_29 : decode cX0_add 29 = .ok (.lload_n 3, 1) := by decide +kernel
theorem dX0_add_30 : decode cX0_add 30 = .ok (.lastore, 1) := by decide +kernel
theorem dX0_add_31 : decode cX0_add 31 = .ok (.aload_n 0, 1) := by decide +kernel
theorem dX0_add_32 : decode cX0_add 32 = .ok (.getfield 18, 3) := by decide +kernel
theorem dX0_add_35 : decode cX0_add 35 = .ok (.aload_n 0, 1) := by decide +kernel
theorem dX0_add_36 : decode cX0_add 36 = .ok (.getfield 22, 3) := by decide +kernel
theorem dX0_add_39 : decode cX0_add 39 = .ok (.iload 5, 2) := by decide +kernel
theorem dX0_add_41 : decode cX0_add 41 = .ok (.bastore, 1) := by decide +kernel
theorem dX0_add_42 : decode cX0_add 42 = .ok (.aload_n 0, 1) := by decide +kernel
theorem dX0_add_43 : decode cX0_add 43 = .ok (.dup, 1) := by decide +kernel
theorem dX0_add_44 : decode cX0_add 44 = .ok (.getfield 22, 3) := by decide +kernel
theorem dX0_add_47 : decode cX0_add 47 = .ok (.iconst 1, 1) := by decide +kernel
theorem dX0_add_48 : decode cX0_add 48 = .ok (.iadd, 1) := by decide +kernel
theorem dX0_add_49 : decode cX0_add 49 = .ok (.putfield 22, 3) := by decide +kernel
theorem dX0_add_52 : decode cX0_add 52 = .ok (.aload_n 0, 1) := by decide +kernel
theorem dX0_add_53 : decode cX0_add 53 = .ok (.getfield 22, 3) := by decide +kernel
theorem dX0_add_56 : decode cX0_add 56 = .ok (.iconst 1, 1) := by decide +kernel
theorem dX0_add_57 : decode cX0_add 57 = .ok (.isub, 1) := by decide +kernel
theorem dX0_add_58 : decode cX0_add 58 = .ok (.ireturn, 1) := by decide +kernel
theorem dX0_remove_0 : decode cX0_remove 0 = .ok (.aload_n 0, 1) := by decide +kernel
theorem dX0_remove_1 : decode cX0_remove 1 = .ok (.iload_n 1, 1) := by decide +kernel
theorem dX0_remove_2 : decode cX0_remove 2 = .ok (.invokevirtual 26, 3) := by decide +kernel
theorem dX0_remove_5 : decode cX0_remove 5 = .ok (.ifCond .eq 71, 3) := by decide +kernel
theorem dX0_remove_8 : decode cX0_remove 8 = .ok (.aload_n 0, 1) := by decide +kernel
theorem dX0_remove_9 : decode cX0_remove 9 = .ok (.dup, 1) := by decide +kernel
theorem dX0_remove_10 : decode cX0_remove 10 = .ok (.getfield 22, 3) := by decide +kernel
theorem dX0_remove_13 : decode cX0_remove 13 = .ok (.iconst 1, 1) := by decide +kernel
theorem dX0_remove_14 : decode cX0_remove 14 = .ok (.isub, 1) := by decide +kernel
theorem dX0_remove_15 : decode cX0_remove 15 = .ok (.putfield 22, 3) := by decide +kernel
theorem dX0_remove_18 : decode cX0_remove 18 = .ok (.iload_n 1, 1) := by decide +kernel
theorem dX0_remove_19 : decode cX0_remove 19 = .ok (.istore_n 2, 1) := by decide +kernel
theorem dX0_remove_20 : decode cX0_remove 20 = .ok (.iload_n 2, 1) := by decide +kernel
theorem dX0_remove_21 : decode cX0_remove 21 = .ok (.aload_n 0, 1) := by decide +kernel
theorem dX0_remove_22 : decode cX0_remove 22 = .ok (.getfield 22, 3) := by decide +kernel
theorem dX0_remove_25 : decode cX0_remove 25 = .ok (.if_icmp .ge 51, 3) := by decide +kernel
theorem dX0_remove_28 : decode cX0_remove 28 = .ok (.aload_n 0, 1) := by decide +kernel
theorem dX0_remove_29 : decode cX0_remove 29 = .ok (.getfield 9, 3) := by decide +kernel
theorem dX0_remove_32 : decode cX0_remove 32 = .ok (.iload_n 2, 1) := by decide +kernel
theorem dX0_remove_33 : decode cX0_remove 33 = .ok (.aload_n 0, 1) := by decide +kernel
theorem dX0_remove_34 : decode cX0_remove 34 = .ok (.getfield 9, 3) := by decide +kernel
theorem dX0_remove_37 : decode cX0_remove 37 = .ok (.iload_n 2, 1) := by decide +kernel
theorem dX0_remove_38 : decode cX0_remove 38 = .ok (.iconst 1, 1) := by decide +kernel
theorem dX0_remove_39 : decode cX0_remove 39 = .ok (.iadd, 1) := by decide +kernel
theorem dX0_remove_40 : decode cX0_remove 40 = .ok (.laload, 1) := by decide +kernel
theorem dX0_remove_41 : decode cX0_remove 41 = .ok (.lastore, 1) := by decide +kernel
theorem dX0_remove_42 : decode cX0_remove 42 = .ok (.aload_n 0, 1) := by decide +kernel
theorem dX0_remove_43 : decode cX0_remove 43 = .ok (.getfield 15, 3) := by decide +kernel
theorem dX0_remove_46 : decode cX0_remove 46 = .ok (.iload_n 2, 1) := by decide +kernel
theorem dX0_remove_47 : decode cX0_remove 47 = .ok (.aload_n 0, 1) := by decide +kernel
theorem dX0_remove_48 : decode cX0_remove 48 = .ok (.getfield 15, 3) := by decide +kernel
theorem dX0_remove_51 : decode cX0_remove 51 = .ok (.iload_n 2, 1) := by decide +kernel
theorem dX0_remove_52 : decode cX0_remove 52 = .ok (.iconst 1, 1) := by decide +kernel
theorem dX0_remove_53 : decode cX0_remove 53 = .ok (.iadd, 1) := by decide +kernel
theorem dX0_remove_54 : decode cX0_remove 54 = .ok (.laload, 1) := by decide +kernel
theorem dX0_remove_55 : decode cX0_remove 55 = .ok (.lastore, 1) := by decide +kernel
theorem dX0_remove_56 : decode cX0_remove 56 = .ok (.aload_n 0, 1) := by decide +kernel
theorem dX0_remove_57 : decode cX0_remove 57 = .ok (.getfield 18, 3) := by decide +kernel
theorem dX0_remove_60 : decode cX0_remove 60 = .ok (.iload_n 2, 1) := by decide +kernel
theorem dX0_remove_61 : decode cX0_remove 61 = .ok (.aload_n 0, 1) := by decide +kernel
theorem dX0_remove_62 : decode cX0_remove 62 = .ok (.getfield 18, 3) := by decide +kernel
theorem dX0_remove_65 : decode cX0_remove 65 = .ok (.iload_n 2, 1) := by decide +kernel
theorem dX0_remove_66 : decode cX0_remove 66 = .ok (.iconst 1, 1) := by decide +kernel
theorem dX0_remove_67 : decode cX0_remove 67 = .ok (.iadd, 1) := by decide +kernel
theorem dX0_remove_68 : decode cX0_remove 68 = .ok (.baload, 1) := by decide +kernel
theorem dX0_remove_69 : decode cX0_remove 69 = .ok (.bastore, 1) := by decide +kernel
theorem dX0_remove_70 : decode cX0_remove 70 = .ok (.iinc 2 1, 3) := by decide +kernel
theorem dX0_remove_73 : decode cX0_remove 73 = .ok (.goto (-53), 3) := by decide +kernel
theorem dX0_remove_76 : decode cX0_remove 76 = .ok (.aload_n 0, 1) := by decide +kernel
theorem dX0_remove_77 : decode cX0_remove 77 = .ok (.getfield 22, 3) := by decide +kernel
theorem dX0_remove_80 : decode cX0_remove 80 = .ok (.ireturn, 1) := by decide +kernel
theorem dX0_put_0 : decode cX0_put 0 = .ok (.aload_n 0, 1) := by decide +kernel
theorem dX0_put_1 : decode cX0_put 1 = .ok (.iload_n 1, 1) := by decide +kernel
theorem dX0_put_2 : decode cX0_put 2 = .ok (.invokevirtual 26, 3) := by decide +kernel
theorem dX0_put_5 : decode cX0_put 5 = .ok (.ifCond .eq 18, 3) := by decide +kernel
theorem dX0_put_8 : decode cX0_put 8 = .ok (.aload_n 0, 1) := by decide +kernel
theorem dX0_put_9 : decode cX0_put 9 = .ok (.getfield 9, 3) := by decide +kernel
theorem dX0_put_12 : decode cX0_put 12 = .ok (.iload_n 1, 1) := by decide +kernel
theorem dX0_put_13 : decode cX0_put 13 = .ok (.lload_n 2, 1) := by decide +kernel
theorem dX0_put_14 : decode cX0_put 14 = .ok (.lastore, 1) := by decide +kernel
theorem dX0_put_15 : decode cX0_put 15 = .ok (.aload_n 0, 1) := by decide +kernel
theorem dX0_put_16 : decode cX0_put 16 = .ok (.getfield 15, 3) := by decide +kernel
theorem dX0_put_19 : decode cX0_put 19 = .ok (.iload_n 1, 1) := by decide +kernel
theorem dX0_put_20 : decode cX0_put 20 = .ok (.lload 4, 2) := by decide +kernel
theorem dX0_put_22 : decode cX0_put 22 = .ok (.lastore, 1) := by decide +kernel
theorem dX0_put_23 : decode cX0_put 23 = .ok (.return_, 1) := by decide +kernel
theorem dX1_isLet_0 : decode cX1_isLet 0 = .ok (.lload_n 0, 1) := by decide +kernel
theorem dX1_isLet_1 : decode cX1_isLet 1 = .ok (.ldc2_w 280, 3) := by decide +kernel
theorem dX1_isLet_4 : decode cX1_isLet 4 = .ok (.lcmp, 1) := by decide +kernel
theorem dX1_isLet_5 : decode cX1_isLet 5 = .ok (.ifCond .lt 15, 3) := by decide +kernel
theorem dX1_isLet_8 : decode cX1_isLet 8 = .ok (.lload_n 0, 1) := by decide +kernel
theorem dX1_isLet_9 : decode cX1_isLet 9 = .ok (.ldc2_w 282, 3) := by decide +kernel
theorem dX1_isLet_12 : decode cX1_isLet 12 = .ok (.lcmp, 1) := by decide +kernel
theorem dX1_isLet_13 : decode cX1_isLet 13 = .ok (.ifCond .gt 7, 3) := by decide +kernel
theorem dX1_isLet_16 : decode cX1_isLet 16 = .ok (.iconst 1, 1) := by decide +kernel
theorem dX1_isLet_17 : decode cX1_isLet 17 = .ok (.goto 4, 3) := by decide +kernel
theorem dX1_isLet_20 : decode cX1_isLet 20 = .ok (.iconst 0, 1) := by decide +kernel
theorem dX1_isLet_21 : decode cX1_isLet 21 = .ok (.ireturn, 1) := by decide +kernel
theorem dX0_isLetAfter_0 : decode cX0_isLetAfter 0 = .ok (.iconst 0, 1) := by decide +kernel
theorem dX0_isLetAfter_1 : decode cX0_isLetAfter 1 = .ok (.istore_n 3, 1) := by decide +kernel
theorem dX0_isLetAfter_2 : decode cX0_isLetAfter 2 = .ok (.iload_n 3, 1) := by decide +kernel
theorem dX0_isLetAfter_3 : decode cX0_isLetAfter 3 = .ok (.aload_n 0, 1) := by decide +kernel
theorem dX0_isLetAfter_4 : decode cX0_isLetAfter 4 = .ok (.getfield 22, 3) := by decide +kernel
theorem dX0_isLetAfter_7 : decode cX0_isLetAfter 7 = .ok (.if_icmp .ge 39, 3) := by decide +kernel
theorem dX0_isLetAfter_10 : decode cX0_isLetAfter 10 = .ok (.aload_n 0, 1) := by decide +kernel
theorem dX0_isLetAfter_11 : decode cX0_isLetAfter 11 = .ok (.getfield 9, 3) := by decide +kernel
theorem dX0_isLetAfter_14 : decode cX0_isLetAfter 14 = .ok (.iload_n 3, 1) := by decide +kernel
theorem dX0_isLetAfter_15 : decode cX0_isLetAfter 15 = .ok (.laload, 1) := by decide +kernel
theorem dX0_isLetAfter_16 : decode cX0_isLetAfter 16 = .ok (.lload_n 1, 1) := by decide +kernel
theorem dX0_isLetAfter_17 : decode cX0_isLetAfter 17 = .ok (.ladd, 1) := by decide +kernel
theorem dX0_isLetAfter_18 : decode cX0_isLetAfter 18 = .ok (.invokestatic 30, 3) := by decide +kernel
theorem dX0_isLetAfter_21 : decode cX0_isLetAfter 21 = .ok (.ifCond .eq 17, 3) := by decide +kernel
theorem dX0_isLetAfter_24 : decode cX0_isLetAfter 24 = .ok (.aload_n 0, 1) := by decide +kernel
theorem dX0_isLetAfter_25 : decode cX0_isLetAfter 25 = .ok (.getfield 15, 3) := by decide +kernel
theorem dX0_isLetAfter_28 : decode cX0_isLetAfter 28 = .ok (.iload_n 3, 1) := by decide +kernel
theorem dX0_isLetAfter_29 : decode cX0_isLetAfter 29 = .ok (.laload, 1) := by decide +kernel
theorem dX0_isLetAfter_30 : decode cX0_isLetAfter 30 = .ok (.lload_n 1, 1) := by decide +kernel
theorem dX0_isLetAfter_31 : decode cX0_isLetAfter 31 = .ok (.ladd, 1) := by decide +kernel
theorem dX0_isLetAfter_32 : decode cX0_isLetAfter 32 = .ok (.invokestatic 30, 3) := by decide +kernel
theorem dX0_isLetAfter_35 : decode cX0_isLetAfter 35 = .ok (.ifCond .ne 5, 3) := by decide +kernel
theorem dX0_isLetAfter_38 : decode cX0_isLetAfter 38 = .ok (.iconst 0, 1) := by decide +kernel
theorem dX0_isLetAfter_39 : decode cX0_isLetAfter 39 = .ok (.ireturn, 1) := by decide +kernel
theorem dX0_isLetAfter_40 : decode cX0_isLetAfter 40 = .ok (.iinc 3 1, 3) := by decide +kernel
theorem dX0_isLetAfter_43 : decode cX0_isLetAfter 43 = .ok (.goto (-41), 3) := by decide +kernel
theorem dX0_isLetAfter_46 : decode cX0_isLetAfter 46 = .ok (.iconst 1, 1) := by decide +kernel
theorem dX0_isLetAfter_47 : decode cX0_isLetAfter 47 = .ok (.ireturn, 1) := by decide +kernel
theorem dX0_goOn_0 : decode cX0_goOn 0 = .ok (.iconst 0, 1) := by decide +kernel
theorem dX0_goOn_1 : decode cX0_goOn 1 = .ok (.istore_n 3, 1) := by decide +kernel
theorem dX0_goOn_2 : decode cX0_goOn 2 = .ok (.iload_n 3, 1) := by decide +kernel
theorem dX0_goOn_3 : decode cX0_goOn 3 = .ok (.aload_n 0, 1) := by decide +kernel
theorem dX0_goOn_4 : decode cX0_goOn 4 = .ok (.getfield 22, 3) := by decide +kernel
theorem dX0_goOn_7 : decode cX0_goOn 7 = .ok (.if_icmp .ge 29, 3) := by decide +kernel
theorem dX0_goOn_10 : decode cX0_goOn 10 = .ok (.aload_n 0, 1) := by decide +kernel
theorem dX0_goOn_11 : decode cX0_goOn 11 = .ok (.getfield 9, 3) := by decide +kernel
theorem dX0_goOn_14 : decode cX0_goOn 14 = .ok (.iload_n 3, 1) := by decide +kernel
theorem dX0_goOn_15 : decode cX0_goOn 15 = .ok (.dup2, 1) := by decide +kernel
theorem dX0_goOn_16 : decode cX0_goOn 16 = .ok (.laload, 1) := by decide +kernel
theorem dX0_goOn_17 : decode cX0_goOn 17 = .ok (.lload_n 1, 1) := by decide +kernel
theorem dX0_goOn_18 : decode cX0_goOn 18 = .ok (.ladd, 1) := by decide +kernel
theorem dX0_goOn_19 : decode cX0_goOn 19 = .ok (.lastore, 1) := by decide +kernel
theorem dX0_goOn_20 : decode cX0_goOn 20 = .ok (.aload_n 0, 1) := by decide +kernel
theorem dX0_goOn_21 : decode cX0_goOn 21 = .ok (.getfield 15, 3) := by decide +kernel
theorem dX0_goOn_24 : decode cX0_goOn 24 = .ok (.iload_n 3, 1) := by decide +kernel
theorem dX0_goOn_25 : decode cX0_goOn 25 = .ok (.dup2, 1) := by decide +kernel
theorem dX0_goOn_26 : decode cX0_goOn 26 = .ok (.laload, 1) := by decide +kernel
theorem dX0_goOn_27 : decode cX0_goOn 27 = .ok (.lload_n 1, 1) := by decide +kernel
theorem dX0_goOn_28 : decode cX0_goOn 28 = .ok (.ladd, 1) := by decide +kernel
theorem dX0_goOn_29 : decode cX0_goOn 29 = .ok (.lastore, 1) := by decide +kernel
theorem dX0_goOn_30 : decode cX0_goOn 30 = .ok (.iinc 3 1, 3) := by decide +kernel
theorem dX0_goOn_33 : decode cX0_goOn 33 = .ok (.goto (-31), 3) := by decide +kernel
theorem dX0_goOn_36 : decode cX0_goOn 36 = .ok (.return_, 1) := by decide +kernel
theorem dX0_doMeet_0 : decode cX0_doMeet 0 = .ok (.iload_n 1, 1) := by decide +kernel
theorem dX0_doMeet_1 : decode cX0_doMeet 1 = .ok (.ifCond .lt 23, 3) := by decide +kernel
theorem dX0_doMeet_4 : decode cX0_doMeet 4 = .ok (.iload_n 1, 1) := by decide +kernel
theorem dX0_doMeet_5 : decode cX0_doMeet 5 = .ok (.aload_n 0, 1) := by decide +kernel
theorem dX0_doMeet_6 : decode cX0_doMeet 6 = .ok (.getfield 22, 3) := by decide +kernel
theorem dX0_doMeet_9 : decode cX0_doMeet 9 = .ok (.if_icmp .ge 15, 3) := by decide +kernel
theorem dX0_doMeet_12 : decode cX0_doMeet 12 = .ok (.iload_n 2, 1) := by decide +kernel
theorem dX0_doMeet_13 : decode cX0_doMeet 13 = .ok (.ifCond .lt 11, 3) := by decide +kernel
theorem dX0_doMeet_16 : decode cX0_doMeet 16 = .ok (.iload_n 2, 1) := by decide +kernel
theorem dX0_doMeet_17 : decode cX0_doMeet 17 = .ok (.aload_n 0, 1) := by decide +kernel
theorem dX0_doMeet_18 : decode cX0_doMeet 18 = .ok (.getfield 22, 3) := by decide +kernel
theorem dX0_doMeet_21 : decode cX0_doMeet 21 = .ok (.if_icmp .lt 5, 3) := by decide +kernel
theorem dX0_doMeet_24 : decode cX0_doMeet 24 = .ok (.iconst 0, 1) := by decide +kernel
theorem dX0_doMeet_25 : decode cX0_doMeet 25 = .ok (.ireturn, 1) := by decide +kernel
theorem dX0_doMeet_26 : decode cX0_doMeet 26 = .ok (.aload_n 0, 1) := by decide +kernel
theorem dX0_doMeet_27 : decode cX0_doMeet 27 = .ok (.getfield 9, 3) := by decide +kernel
theorem dX0_doMeet_30 : decode cX0_doMeet 30 = .ok (.iload_n 1, 1) := by decide +kernel
theorem dX0_doMeet_31 : decode cX0_doMeet 31 = .ok (.laload, 1) := by decide +kernel
theorem dX0_doMeet_32 : decode cX0_doMeet 32 = .ok (.aload_n 0, 1) := by decide +kernel
theorem dX0_doMeet_33 : decode cX0_doMeet 33 = .ok (.getfield 15, 3) := by decide +kernel
theorem dX0_doMeet_36 : decode cX0_doMeet 36 = .ok (.iload_n 2, 1) := by decide +kernel
theorem dX0_doMeet_37 : decode cX0_doMeet 37 = .ok (.laload, 1) := by decide +kernel
theorem dX0_doMeet_38 : decode cX0_doMeet 38 = .ok (.lcmp, 1) := by decide +kernel
theorem dX0_doMeet_39 : decode cX0_doMeet 39 = .ok (.ifCond .ge 23, 3) := by decide +kernel
theorem dX0_doMeet_42 : decode cX0_doMeet 42 = .ok (.aload_n 0, 1) := by decide +kernel
theorem dX0_doMeet_43 : decode cX0_doMeet 43 = .ok (.getfield 9, 3) := by decide +kernel
theorem dX0_doMeet_46 : decode cX0_doMeet 46 = .ok (.iload_n 2, 1) := by decide +kernel
theorem dX0_doMeet_47 : decode cX0_doMeet 47 = .ok (.laload, 1) := by decide +kernel
theorem dX0_doMeet_48 : decode cX0_doMeet 48 = .ok (.aload_n 0, 1) := by decide +kernel
theorem dX0_doMeet_49 : decode cX0_doMeet 49 = .ok (.getfield 15, 3) := by decide +kernel
theorem dX0_doMeet_52 : decode cX0_doMeet 52 = .ok (.iload_n 1, 1) := by decide +kernel
theorem dX0_doMeet_53 : decode cX0_doMeet 53 = .ok (.laload, 1) := by decide +kernel
theorem dX0_doMeet_54 : decode cX0_doMeet 54 = .ok (.lcmp, 1) := by decide +kernel
theorem dX0_doMeet_55 : decode cX0_doMeet 55 = .ok (.ifCond .ge 7, 3) := by decide +kernel
theorem dX0_doMeet_58 : decode cX0_doMeet 58 = .ok (.iconst 1, 1) := by decide +kernel
theorem dX0_doMeet_59 : decode cX0_doMeet 59 = .ok (.goto 4, 3) := by decide +kernel
theorem dX0_doMeet_62 : decode cX0_doMeet 62 = .ok (.iconst 0, 1) := by decide +kernel
theorem dX0_doMeet_63 : decode cX0_doMeet 63 = .ok (.ireturn, 1) := by decide +kernel
theorem dX0_firstMeeting_0 : decode cX0_firstMeeting 0 = .ok (.iconst 0, 1) := by decide +kernel
theorem dX0_firstMeeting_1 : decode cX0_firstMeeting 1 = .ok (.istore 6, 2) := by decide +kernel
theorem dX0_firstMeeting_3 : decode cX0_firstMeeting 3 = .ok (.iload 6, 2) := by decide +kernel
theorem dX0_firstMeeting_5 : decode cX0_firstMeeting 5 = .ok (.aload_n 0, 1) := by decide +kernel
theorem dX0_firstMeeting_6 : decode cX0_firstMeeting 6 = .ok (.getfield 22, 3) := by decide +kernel
theorem dX0_firstMeeting_9 : decode cX0_firstMeeting 9 = .ok (.if_icmp .ge 43, 3) := by decide +kernel
theorem dX0_firstMeeting_12 : decode cX0_firstMeeting 12 = .ok (.iload 6, 2) := by decide +kernel
theorem dX0_firstMeeting_14 : decode cX0_firstMeeting 14 = .ok (.iload 5, 2) := by decide +kernel
theorem dX0_firstMeeting_16 : decode cX0_firstMeeting 16 = .ok (.if_icmp .eq 30, 3) := by decide +kernel
theorem dX0_firstMeeting_19 : decode cX0_firstMeeting 19 = .ok (.aload_n 0, 1) := by decide +kernel
theorem dX0_firstMeeting_20 : decode cX0_firstMeeting 20 = .ok (.getfield 9, 3) := by decide +kernel
theorem dX0_firstMeeting_23 : decode cX0_firstMeeting 23 = .ok (.iload 6, 2) := by decide +kernel
theorem dX0_firstMeeting_25 : decode cX0_firstMeeting 25 = .ok (.laload, 1) := by decide +kernel
theorem dX0_firstMeeting_26 : decode cX0_firstMeeting 26 = .ok (.lload_n 3, 1) := by decide +kernel
theorem dX0_firstMeeting_27 : decode cX0_firstMeeting 27 = .ok (.lcmp, 1) := by decide +kernel
theorem dX0_firstMeeting_28 : decode cX0_firstMeeting 28 = .ok (.ifCond .ge 18, 3) := by decide +kernel
theorem dX0_firstMeeting_31 : decode cX0_firstMeeting 31 = .ok (.lload_n 1, 1) := by decide +kernel
theorem dX0_firstMeeting_32 : decode cX0_firstMeeting 32 = .ok (.aload_n 0, 1) := by decide +kernel
theorem dX0_firstMeeting_33 : decode cX0_firstMeeting 33 = .ok (.getfield 15, 3) := by decide +kernel
theorem dX0_firstMeeting_36 : decode cX0_firstMeeting 36 = .ok (.iload 6, 2) := by decide +kernel
theorem dX0_firstMeeting_38 : decode cX0_firstMeeting 38 = .ok (.laload, 1) := by decide +kernel
theorem dX0_firstMeeting_39 : decode cX0_firstMeeting 39 = .ok (.lcmp, 1) := by decide +kernel
theorem dX0_firstMeeting_40 : decode cX0_firstMeeting 40 = .ok (.ifCond .ge 6, 3) := by decide +kernel
theorem dX0_firstMeeting_43 : decode cX0_firstMeeting 43 = .ok (.iload 6, 2) := by decide +kernel
theorem dX0_firstMeeting_45 : decode cX0_firstMeeting 45 = .ok (.ireturn, 1) := by decide +kernel
theorem dX0_firstMeeting_46 : decode cX0_firstMeeting 46 = .ok (.iinc 6 1, 3) := by decide +kernel
theorem dX0_firstMeeting_49 : decode cX0_firstMeeting 49 = .ok (.goto (-46), 3) := by decide +kernel
theorem dX0_firstMeeting_52 : decode cX0_firstMeeting 52 = .ok (.iconst (-1), 1) := by decide +kernel
theorem dX0_firstMeeting_53 : decode cX0_firstMeeting 53 = .ok (.ireturn, 1) := by decide +kernel
theorem dX0_firstWith_0 : decode cX0_firstWith 0 = .ok (.aload_n 0, 1) := by decide +kernel
theorem dX0_firstWith_1 : decode cX0_firstWith 1 = .ok (.lload_n 1, 1) := by decide +kernel
theorem dX0_firstWith_2 : decode cX0_firstWith 2 = .ok (.lload_n 1, 1) := by decide +kernel
theorem dX0_firstWith_3 : decode cX0_firstWith 3 = .ok (.lconst 1, 1) := by decide +kernel
theorem dX0_firstWith_4 : decode cX0_firstWith 4 = .ok (.ladd, 1) := by decide +kernel
theorem dX0_firstWith_5 : decode cX0_firstWith 5 = .ok (.iconst (-1), 1) := by decide +kernel
theorem dX0_firstWith_6 : decode cX0_firstWith 6 = .ok (.invokevirtual 34, 3) := by decide +kernel
theorem dX0_firstWith_9 : decode cX0_firstWith 9 = .ok (.ireturn, 1) := by decide +kernel
theorem dX0_nextBegin_0 : decode cX0_nextBegin 0 = .ok (.lload_n 3, 1) := by decide +kernel
theorem dX0_nextBegin_1 : decode cX0_nextBegin 1 = .ok (.lstore 5, 2) := by decide +kernel
theorem dX0_nextBegin_3 : decode cX0_nextBegin 3 = .ok (.iconst 0, 1) := by decide +kernel
theorem dX0_nextBegin_4 : decode cX0_nextBegin 4 = .ok (.istore 7, 2) := by decide +kernel
theorem dX0_nextBegin_6 : decode cX0_nextBegin 6 = .ok (.iload 7, 2) := by decide +kernel
theorem dX0_nextBegin_8 : decode cX0_nextBegin 8 = .ok (.aload_n 0, 1) := by decide +kernel
theorem dX0_nextBegin_9 : decode cX0_nextBegin 9 = .ok (.getfield 22, 3) := by decide +kernel
theorem dX0_nextBegin_12 : decode cX0_nextBegin 12 = .ok (.if_icmp .ge 43, 3) := by decide +kernel
theorem dX0_nextBegin_15 : decode cX0_nextBegin 15 = .ok (.aload_n 0, 1) := by decide +kernel
theorem dX0_nextBegin_16 : decode cX0_nextBegin 16 = .ok (.getfield 9, 3) := by decide +kernel
theorem dX0_nextBegin_19 : decode cX0_nextBegin 19 = .ok (.iload 7, 2) := by decide +kernel
theorem dX0_nextBegin_21 : decode cX0_nextBegin 21 = .ok (.laload, 1) := by decide +kernel
theorem dX0_nextBegin_22 : decode cX0_nextBegin 22 = .ok (.lload_n 1, 1) := by decide +kernel
theorem dX0_nextBegin_23 : decode cX0_nextBegin 23 = .ok (.lcmp, 1) := by decide +kernel
theorem dX0_nextBegin_24 : decode cX0_nextBegin 24 = .ok (.ifCond .lt 25, 3) := by decide +kernel
theorem dX0_nextBegin_27 : decode cX0_nextBegin 27 = .ok (.aload_n 0, 1) := by decide +kernel
theorem dX0_nextBegin_28 : decode cX0_nextBegin 28 = .ok (.getfield 9, 3) := by decide +kernel
theorem dX0_nextBegin_31 : decode cX0_nextBegin 31 = .ok (.iload 7, 2) := by decide +kernel
theorem dX0_nextBegin_33 : decode cX0_nextBegin 33 = .ok (.laload, 1) := by decide +kernel
theorem dX0_nextBegin_34 : decode cX0_nextBegin 34 = .ok (.lload 5, 2) := by decide +kernel
theorem dX0_nextBegin_36 : decode cX0_nextBegin 36 = .ok (.lcmp, 1) := by decide +kernel
theorem dX0_nextBegin_37 : decode cX0_nextBegin 37 = .ok (.ifCond .ge 12, 3) := by decide +kernel
theorem dX0_nextBegin_40 : decode cX0_nextBegin 40 = .ok (.aload_n 0, 1) := by decide +kernel
theorem dX0_nextBegin_41 : decode cX0_nextBegin 41 = .ok (.getfield 9, 3) := by decide +kernel
theorem dX0_nextBegin_44 : decode cX0_nextBegin 44 = .ok (.iload 7, 2) := by decide +kernel
theorem dX0_nextBegin_46 : decode cX0_nextBegin 46 = .ok (.laload, 1) := by decide +kernel
theorem dX0_nextBegin_47 : decode cX0_nextBegin 47 = .ok (.lstore 5, 2) := by decide +kernel
theorem dX0_nextBegin_49 : decode cX0_nextBegin 49 = .ok (.iinc 7 1, 3) := by decide +kernel
theorem dX0_nextBegin_52 : decode cX0_nextBegin 52 = .ok (.goto (-46), 3) := by decide +kernel
theorem dX0_nextBegin_55 : decode cX0_nextBegin 55 = .ok (.lload 5, 2) := by decide +kernel
theorem dX0_nextBegin_57 : decode cX0_nextBegin 57 = .ok (.lreturn, 1) := by decide +kernel
theorem dX0_beginsBefore_0 : decode cX0_beginsBefore 0 = .ok (.iconst 0, 1) := by decide +kernel
theorem dX0_beginsBefore_1 : decode cX0_beginsBefore 1 = .ok (.istore_n 3, 1) := by decide +kernel
theorem dX0_beginsBefore_2 : decode cX0_beginsBefore 2 = .ok (.iconst 0, 1) := by decide +kernel
theorem dX0_beginsBefore_3 : decode cX0_beginsBefore 3 = .ok (.istore 4, 2) := by decide +kernel
theorem dX0_beginsBefore_5 : decode cX0_beginsBefore 5 = .ok (.iload 4, 2) := by decide +kernel
theorem dX0_beginsBefore_7 : decode cX0_beginsBefore 7 = .ok (.aload_n 0, 1) := by decide +kernel
theorem dX0_beginsBefore_8 : decode cX0_beginsBefore 8 = .ok (.getfield 22, 3) := by decide +kernel
theorem dX0_beginsBefore_11 : decode cX0_beginsBefore 11 = .ok (.if_icmp .ge 24, 3) := by decide +kernel
theorem dX0_beginsBefore_14 : decode cX0_beginsBefore 14 = .ok (.aload_n 0, 1) := by decide +kernel
theorem dX0_beginsBefore_15 : decode cX0_beginsBefore 15 = .ok (.getfield 9, 3) := by decide +kernel
theorem dX0_beginsBefore_18 : decode cX0_beginsBefore 18 = .ok (.iload 4, 2) := by decide +kernel
theorem dX0_beginsBefore_20 : decode cX0_beginsBefore 20 = .ok (.laload, 1) := by decide +kernel
theorem dX0_beginsBefore_21 : decode cX0_beginsBefore 21 = .ok (.lload_n 1, 1) := by decide +kernel
theorem dX0_beginsBefore_22 : decode cX0_beginsBefore 22 = .ok (.lcmp, 1) := by decide +kernel
theorem dX0_beginsBefore_23 : decode cX0_beginsBefore 23 = .ok (.ifCond .ge 6, 3) := by decide +kernel
theorem dX0_beginsBefore_26 : decode cX0_beginsBefore 26 = .ok (.iinc 3 1, 3) := by decide +kernel
theorem dX0_beginsBefore_29 : decode cX0_beginsBefore 29 = .ok (.iinc 4 1, 3) := by decide +kernel
theorem dX0_beginsBefore_32 : decode cX0_beginsBefore 32 = .ok (.goto (-27), 3) := by decide +kernel
theorem dX0_beginsBefore_35 : decode cX0_beginsBefore 35 = .ok (.iload_n 3, 1) := by decide +kernel
theorem dX0_beginsBefore_36 : decode cX0_beginsBefore 36 = .ok (.ireturn, 1) := by decide +kernel
theorem dX0_endsBefore_0 : decode cX0_endsBefore 0 = .ok (.iconst 0, 1) := by decide +kernel
theorem dX0_endsBefore_1 : decode cX0_endsBefore 1 = .ok (.istore_n 3, 1) := by decide +kernel
theorem dX0_endsBefore_2 : decode cX0_endsBefore 2 = .ok (.iconst 0, 1) := by decide +kernel
theorem dX0_endsBefore_3 : decode cX0_endsBefore 3 = .ok (.istore 4, 2) := by decide +kernel
theorem dX0_endsBefore_5 : decode cX0_endsBefore 5 = .ok (.iload 4, 2) := by decide +kernel
theorem dX0_endsBefore_7 : decode cX0_endsBefore 7 = .ok (.aload_n 0, 1) := by decide +kernel
theorem dX0_endsBefore_8 : decode cX0_endsBefore 8 = .ok (.getfield 22, 3) := by decide +kernel
theorem dX0_endsBefore_11 : decode cX0_endsBefore 11 = .ok (.if_icmp .ge 24, 3) := by decide +kernel
theorem dX0_endsBefore_14 : decode cX0_endsBefore 14 = .ok (.aload_n 0, 1) := by decide +kernel
theorem dX0_endsBefore_15 : decode cX0_endsBefore 15 = .ok (.getfield 15, 3) := by decide +kernel
theorem dX0_endsBefore_18 : decode cX0_endsBefore 18 = .ok (.iload 4, 2) := by decide +kernel
theorem dX0_endsBefore_20 : decode cX0_endsBefore 20 = .ok (.laload, 1) := by decide +kernel
theorem dX0_endsBefore_21 : decode cX0_endsBefore 21 = .ok (.lload_n 1, 1) := by decide +kernel
theorem dX0_endsBefore_22 : decode cX0_endsBefore 22 = .ok (.lcmp, 1) := by decide +kernel
theorem dX0_endsBefore_23 : decode cX0_endsBefore 23 = .ok (.ifCond .ge 6, 3) := by decide +kernel
theorem dX0_endsBefore_26 : decode cX0_endsBefore 26 = .ok (.iinc 3 1, 3) := by decide +kernel
theorem dX0_endsBefore_29 : decode cX0_endsBefore 29 = .ok (.iinc 4 1, 3) := by decide +kernel
theorem dX0_endsBefore_32 : decode cX0_endsBefore 32 = .ok (.goto (-27), 3) := by decide +kernel
theorem dX0_endsBefore_35 : decode cX0_endsBefore 35 = .ok (.iload_n 3, 1) := by decide +kernel
theorem dX0_endsBefore_36 : decode cX0_endsBefore 36 = .ok (.ireturn, 1) := by decide +kernel
theorem dX0_depth_0 : decode cX0_depth 0 = .ok (.iconst 0, 1) := by decide +kernel
theorem dX0_depth_1 : decode cX0_depth 1 = .ok (.istore_n 1, 1) := by decide +kernel
theorem dX0_depth_2 : decode cX0_depth 2 = .ok (.iconst 0, 1) := by decide +kernel
theorem dX0_depth_3 : decode cX0_depth 3 = .ok (.istore_n 2, 1) := by decide +kernel
theorem dX0_depth_4 : decode cX0_depth 4 = .ok (.iload_n 2, 1) := by decide +kernel
theorem dX0_depth_5 : decode cX0_depth 5 = .ok (.aload_n 0, 1) := by decide +kernel
theorem dX0_depth_6 : decode cX0_depth 6 = .ok (.getfield 22, 3) := by decide +kernel
theorem dX0_depth_9 : decode cX0_depth 9 = .ok (.if_icmp .ge 72, 3) := by decide +kernel
theorem dX0_depth_12 : decode cX0_depth 12 = .ok (.iconst 0, 1) := by decide +kernel
theorem dX0_depth_13 : decode cX0_depth 13 = .ok (.istore_n 3, 1) := by decide +kernel
theorem dX0_depth_14 : decode cX0_depth 14 = .ok (.iconst 0, 1) := by decide +kernel
theorem dX0_depth_15 : decode cX0_depth 15 = .ok (.istore 4, 2) := by decide +kernel
theorem dX0_depth_17 : decode cX0_depth 17 = .ok (.iload 4, 2) := by decide +kernel
theorem dX0_depth_19 : decode cX0_depth 19 = .ok (.aload_n 0, 1) := by decide +kernel
theorem dX0_depth_20 : decode cX0_depth 20 = .ok (.getfield 22, 3) := by decide +kernel
theorem dX0_depth_23 : decode cX0_depth 23 = .ok (.if_icmp .ge 46, 3) := by decide +kernel
theorem dX0_depth_26 : decode cX0_depth 26 = .ok (.aload_n 0, 1) := by decide +kernel
theorem dX0_depth_27 : decode cX0_depth 27 = .ok (.getfield 9, 3) := by decide +kernel
theorem dX0_depth_30 : decode cX0_depth 30 = .ok (.iload 4, 2) := by decide +kernel
theorem dX0_depth_32 : decode cX0_depth 32 = .ok (.laload, 1) := by decide +kernel
theorem dX0_depth_33 : decode cX0_depth 33 = .ok (.aload_n 0, 1) := by decide +kernel
theorem dX0_depth_34 : decode cX0_depth 34 = .ok (.getfield 9, 3) := by decide +kernel
theorem dX0_depth_37 : decode cX0_depth 37 = .ok (.iload_n 2, 1) := by decide +kernel
theorem dX0_depth_38 : decode cX0_depth 38 = .ok (.laload, 1) := by decide +kernel
theorem dX0_depth_39 : decode cX0_depth 39 = .ok (.lcmp, 1) := by decide +kernel
theorem dX0_depth_40 : decode cX0_depth 40 = .ok (.ifCond .gt 23, 3) := by decide +kernel
theorem dX0_depth_43 : decode cX0_depth 43 = .ok (.aload_n 0, 1) := by decide +kernel
theorem dX0_depth_44 : decode cX0_depth 44 = .ok (.getfield 9, 3) := by decide +kernel
theorem dX0_depth_47 : decode cX0_depth 47 = .ok (.iload_n 2, 1) := by decide +kernel
theorem dX0_depth_48 : decode cX0_depth 48 = .ok (.laload, 1) := by decide +kernel
theorem dX0_depth_49 : decode cX0_depth 49 = .ok (.aload_n 0, 1) := by decide +kernel
theorem dX0_depth_50 : decode cX0_depth 50 = .ok (.getfield 15, 3) := by decide +kernel
theorem dX0_depth_53 : decode cX0_depth 53 = .ok (.iload 4, 2) := by decide +kernel
theorem dX0_depth_55 : decode cX0_depth 55 = .ok (.laload, 1) := by decide +kernel
theorem dX0_depth_56 : decode cX0_depth 56 = .ok (.lcmp, 1) := by decide +kernel
theorem dX0_depth_57 : decode cX0_depth 57 = .ok (.ifCond .ge 6, 3) := by decide +kernel
theorem dX0_depth_60 : decode cX0_depth 60 = .ok (.iinc 3 1, 3) := by decide +kernel
theorem dX0_depth_63 : decode cX0_depth 63 = .ok (.iinc 4 1, 3) := by decide +kernel
theorem dX0_depth_66 : decode cX0_depth 66 = .ok (.goto (-49), 3) := by decide +kernel
theorem dX0_depth_69 : decode cX0_depth 69 = .ok (.iload_n 1, 1) := by decide +kernel
theorem dX0_depth_70 : decode cX0_depth 70 = .ok (.iload_n 3, 1) := by decide +kernel
theorem dX0_depth_71 : decode cX0_depth 71 = .ok (.invokestatic 38, 3) := by decide +kernel
theorem dX0_depth_74 : decode cX0_depth 74 = .ok (.istore_n 1, 1) := by decide +kernel
theorem dX0_depth_75 : decode cX0_depth 75 = .ok (.iinc 2 1, 3) := by decide +kernel
theorem dX0_depth_78 : decode cX0_depth 78 = .ok (.goto (-74), 3) := by decide +kernel
theorem dX0_depth_81 : decode cX0_depth 81 = .ok (.iload_n 1, 1) := by decide +kernel
theorem dX0_depth_82 : decode cX0_depth 82 = .ok (.ireturn, 1) := by decide +kernel
theorem dX1_isWithin_0 : decode cX1_isWithin 0 = .ok (.iload_n 0, 1) := by decide +kernel
theorem dX1_isWithin_1 : decode cX1_isWithin 1 = .ok (.iload_n 1, 1) := by decide +kernel
theorem dX1_isWithin_2 : decode cX1_isWithin 2 = .ok (.if_icmp .lt 12, 3) := by decide +kernel
theorem dX1_isWithin_5 : decode cX1_isWithin 5 = .ok (.iload_n 0, 1) := by decide +kernel
theorem dX1_isWithin_6 : decode cX1_isWithin 6 = .ok (.iload_n 2, 1) := by decide +kernel
theorem dX1_isWithin_7 : decode cX1_isWithin 7 = .ok (.if_icmp .gt 7, 3) := by decide +kernel
theorem dX1_isWithin_10 : decode cX1_isWithin 10 = .ok (.iconst 1, 1) := by decide +kernel
theorem dX1_isWithin_11 : decode cX1_isWithin 11 = .ok (.goto 4, 3) := by decide +kernel
theorem dX1_isWithin_14 : decode cX1_isWithin 14 = .ok (.iconst 0, 1) := by decide +kernel
theorem dX1_isWithin_15 : decode cX1_isWithin 15 = .ok (.ireturn, 1) := by decide +kernel
theorem dX1_done_0 : decode cX1_done 0 = .ok (.aload_n 0, 1) := by decide +kernel
theorem dX1_done_1 : decode cX1_done 1 = .ok (.dup, 1) := by decide +kernel
theorem dX1_done_2 : decode cX1_done 2 = .ok (.getfield 224, 3) := by decide +kernel
theorem dX1_done_5 : decode cX1_done 5 = .ok (.iconst 1, 1) := by decide +kernel
theorem dX1_done_6 : decode cX1_done 6 = .ok (.iadd, 1) := by decide +kernel
theorem dX1_done_7 : decode cX1_done 7 = .ok (.putfield 224, 3) := by decide +kernel
theorem dX1_done_10 : decode cX1_done 10 = .ok (.iload_n 1, 1) := by decide +kernel
theorem dX1_done_11 : decode cX1_done 11 = .ok (.ireturn, 1) := by decide +kernel
theorem dX1_refuse_0 : decode cX1_refuse 0 = .ok (.aload_n 0, 1) := by decide +kernel
theorem dX1_refuse_1 : decode cX1_refuse 1 = .ok (.dup, 1) := by decide +kernel
theorem dX1_refuse_2 : decode cX1_refuse 2 = .ok (.getfield 228, 3) := by decide +kernel
theorem dX1_refuse_5 : decode cX1_refuse 5 = .ok (.iconst 1, 1) := by decide +kernel
theorem dX1_refuse_6 : decode cX1_refuse 6 = .ok (.iadd, 1) := by decide +kernel
theorem dX1_refuse_7 : decode cX1_refuse 7 = .ok (.putfield 228, 3) := by decide +kernel
theorem dX1_refuse_10 : decode cX1_refuse 10 = .ok (.bipush (-9), 2) := by decide +kernel
theorem dX1_refuse_12 : decode cX1_refuse 12 = .ok (.ireturn, 1) := by decide +kernel
theorem dX1_secondOf_0 : decode cX1_secondOf 0 = .ok (.lload_n 0, 1) := by decide +kernel
theorem dX1_secondOf_1 : decode cX1_secondOf 1 = .ok (.ldc2_w 55, 3) := by decide +kernel
theorem dX1_secondOf_4 : decode cX1_secondOf 4 = .ok (.invokestatic 284, 3) := by decide +kernel
theorem dX1_secondOf_7 : decode cX1_secondOf 7 = .ok (.l2i, 1) := by decide +kernel
theorem dX1_secondOf_8 : decode cX1_secondOf 8 = .ok (.ireturn, 1) := by decide +kernel
theorem dX1_nanoOf_0 : decode cX1_nanoOf 0 = .ok (.lload_n 0, 1) := by decide +kernel
theorem dX1_nanoOf_1 : decode cX1_nanoOf 1 = .ok (.ldc2_w 55, 3) := by decide +kernel
theorem dX1_nanoOf_4 : decode cX1_nanoOf 4 = .ok (.invokestatic 287, 3) := by decide +kernel
theorem dX1_nanoOf_7 : decode cX1_nanoOf 7 = .ok (.l2i, 1) := by decide +kernel
theorem dX1_nanoOf_8 : decode cX1_nanoOf 8 = .ok (.ireturn, 1) := by decide +kernel
theorem dX1_partOf_0 : decode cX1_partOf 0 = .ok (.iload_n 2, 1) := by decide +kernel
theorem dX1_partOf_1 : decode cX1_partOf 1 = .ok (.iconst 1, 1) := by decide +kernel
theorem dX1_partOf_2 : decode cX1_partOf 2 = .ok (.iand, 1) := by decide +kernel
theorem dX1_partOf_3 : decode cX1_partOf 3 = .ok (.ifCond .ne 10, 3) := by decide +kernel
theorem dX1_partOf_6 : decode cX1_partOf 6 = .ok (.lload_n 0, 1) := by decide +kernel
theorem dX1_partOf_7 : decode cX1_partOf 7 = .ok (.invokestatic 65, 3) := by decide +kernel
theorem dX1_partOf_10 : decode cX1_partOf 10 = .ok (.goto 7, 3) := by decide +kernel
theorem dX1_partOf_13 : decode cX1_partOf 13 = .ok (.lload_n 0, 1) := by decide +kernel
theorem dX1_partOf_14 : decode cX1_partOf 14 = .ok (.invokestatic 142, 3) := by decide +kernel
theorem dX1_partOf_17 : decode cX1_partOf 17 = .ok (.ireturn, 1) := by decide +kernel
theorem dX1_partIn_0 : decode cX1_partIn 0 = .ok (.iload_n 2, 1) := by decide +kernel
theorem dX1_partIn_1 : decode cX1_partIn 1 = .ok (.iconst 2, 1) := by decide +kernel
theorem dX1_partIn_2 : decode cX1_partIn 2 = .ok (.if_icmp .ge 11, 3) := by decide +kernel
theorem dX1_partIn_5 : decode cX1_partIn 5 = .ok (.aload_n 0, 1) := by decide +kernel
theorem dX1_partIn_6 : decode cX1_partIn 6 = .ok (.iload_n 1, 1) := by decide +kernel
theorem dX1_partIn_7 : decode cX1_partIn 7 = .ok (.invokevirtual 113, 3) := by decide +kernel
theorem dX1_partIn_10 : decode cX1_partIn 10 = .ok (.goto 8, 3) := by decide +kernel
theorem dX1_partIn_13 : decode cX1_partIn 13 = .ok (.aload_n 0, 1) := by decide +kernel
theorem dX1_partIn_14 : decode cX1_partIn 14 = .ok (.iload_n 1, 1) := by decide +kernel
theorem dX1_partIn_15 : decode cX1_partIn 15 = .ok (.invokevirtual 117, 3) := by decide +kernel
theorem dX1_partIn_18 : decode cX1_partIn 18 = .ok (.iload_n 2, 1) := by decide +kernel
theorem dX1_partIn_19 : decode cX1_partIn 19 = .ok (.invokestatic 159, 3) := by decide +kernel
theorem dX1_partIn_22 : decode cX1_partIn 22 = .ok (.ireturn, 1) := by decide +kernel
theorem dX1_lengthOf_0 : decode cX1_lengthOf 0 = .ok (.iload_n 0, 1) := by decide +kernel
theorem dX1_lengthOf_1 : decode cX1_lengthOf 1 = .ok (.ifCond .ne 10, 3) := by decide +kernel
theorem dX1_lengthOf_4 : decode cX1_lengthOf 4 = .ok (.iload_n 1, 1) := by decide +kernel
theorem dX1_lengthOf_5 : decode cX1_lengthOf 5 = .ok (.i2l, 1) := by decide +kernel
theorem dX1_lengthOf_6 : decode cX1_lengthOf 6 = .ok (.ldc2_w 55, 3) := by decide +kernel
theorem dX1_lengthOf_9 : decode cX1_lengthOf 9 = .ok (.lmul, 1) := by decide +kernel
theorem dX1_lengthOf_10 : decode cX1_lengthOf 10 = .ok (.lreturn, 1) := by decide +kernel
theorem dX1_lengthOf_11 : decode cX1_lengthOf 11 = .ok (.iload_n 1, 1) := by decide +kernel
theorem dX1_lengthOf_12 : decode cX1_lengthOf 12 = .ok (.i2l, 1) := by decide +kernel
theorem dX1_lengthOf_13 : decode cX1_lengthOf 13 = .ok (.iload_n 0, 1) := by decide +kernel
theorem dX1_lengthOf_14 : decode cX1_lengthOf 14 = .ok (.iconst 1, 1) := by decide +kernel
theorem dX1_lengthOf_15 : decode cX1_lengthOf 15 = .ok (.if_icmp .ne 9, 3) := by decide +kernel
theorem dX1_lengthOf_18 : decode cX1_lengthOf 18 = .ok (.ldc2_w 290, 3) := by decide +kernel
theorem dX1_lengthOf_21 : decode cX1_lengthOf 21 = .ok (.goto 4, 3) := by decide +kernel
theorem dX1_lengthOf_24 : decode cX1_lengthOf 24 = .ok (.lconst 1, 1) := by decide +kernel
theorem dX1_lengthOf_25 : decode cX1_lengthOf 25 = .ok (.lmul, 1) := by decide +kernel
theorem dX1_lengthOf_26 : decode cX1_lengthOf 26 = .ok (.lreturn, 1) := by decide +kernel
theorem dX1_sideOf_0 : decode cX1_sideOf 0 = .ok (.lload_n 0, 1) := by decide +kernel
theorem dX1_sideOf_1 : decode cX1_sideOf 1 = .ok (.lload_n 2, 1) := by decide +kernel
theorem dX1_sideOf_2 : decode cX1_sideOf 2 = .ok (.lcmp, 1) := by decide +kernel
theorem dX1_sideOf_3 : decode cX1_sideOf 3 = .ok (.ifCond .ne 5, 3) := by decide +kernel
theorem dX1_sideOf_6 : decode cX1_sideOf 6 = .ok (.iconst 0, 1) := by decide +kernel
theorem dX1_sideOf_7 : decode cX1_sideOf 7 = .ok (.ireturn, 1) := by decide +kernel
theorem dX1_sideOf_8 : decode cX1_sideOf 8 = .ok (.lload_n 0, 1) := by decide +kernel
theorem dX1_sideOf_9 : decode cX1_sideOf 9 = .ok (.lload_n 2, 1) := by decide +kernel
theorem dX1_sideOf_10 : decode cX1_sideOf 10 = .ok (.lcmp, 1) := by decide +kernel
theorem dX1_sideOf_11 : decode cX1_sideOf 11 = .ok (.ifCond .ge 7, 3) := by decide +kernel
theorem dX1_sideOf_14 : decode cX1_sideOf 14 = .ok (.iconst (-1), 1) := by decide +kernel
theorem dX1_sideOf_15 : decode cX1_sideOf 15 = .ok (.goto 4, 3) := by decide +kernel
theorem dX1_sideOf_18 : decode cX1_sideOf 18 = .ok (.iconst 1, 1) := by decide +kernel
theorem dX1_sideOf_19 : decode cX1_sideOf 19 = .ok (.ireturn, 1) := by decide +kernel
theorem dX1_bring_0 : decode cX1_bring 0 = .ok (.aload_n 0, 1) := by decide +kernel
theorem dX1_bring_1 : decode cX1_bring 1 = .ok (.getfield 9, 3) := by decide +kernel
theorem dX1_bring_4 : decode cX1_bring 4 = .ok (.iload_n 3, 1) := by decide +kernel
theorem dX1_bring_5 : decode cX1_bring 5 = .ok (.laload, 1) := by decide +kernel
theorem dX1_bring_6 : decode cX1_bring 6 = .ok (.lload_n 1, 1) := by decide +kernel
theorem dX1_bring_7 : decode cX1_bring 7 = .ok (.lcmp, 1) := by decide +kernel
theorem dX1_bring_8 : decode cX1_bring 8 = .ok (.ifCond .ne 7, 3) := by decide +kernel
theorem dX1_bring_11 : decode cX1_bring 11 = .ok (.iconst 0, 1) := by decide +kernel
theorem dX1_bring_12 : decode cX1_bring 12 = .ok (.goto 4, 3) := by decide +kernel
theorem dX1_bring_15 : decode cX1_bring 15 = .ok (.iconst 1, 1) := by decide +kernel
theorem dX1_bring_16 : decode cX1_bring 16 = .ok (.istore 4, 2) := by decide +kernel
theorem dX1_bring_18 : decode cX1_bring 18 = .ok (.aload_n 0, 1) := by decide +kernel
theorem dX1_bring_19 : decode cX1_bring 19 = .ok (.getfield 9, 3) := by decide +kernel
theorem dX1_bring_22 : decode cX1_bring 22 = .ok (.iload_n 3, 1) := by decide +kernel
theorem dX1_bring_23 : decode cX1_bring 23 = .ok (.lload_n 1, 1) := by decide +kernel
theorem dX1_bring_24 : decode cX1_bring 24 = .ok (.lastore, 1) := by decide +kernel
theorem dX1_bring_25 : decode cX1_bring 25 = .ok (.iload 4, 2) := by decide +kernel
theorem dX1_bring_27 : decode cX1_bring 27 = .ok (.ireturn, 1) := by decide +kernel
theorem dX1_isAllLetAfter_0 : decode cX1_isAllLetAfter 0 = .ok (.iconst 0, 1) := by decide +kernel
theorem dX1_isAllLetAfter_1 : decode cX1_isAllLetAfter 1 = .ok (.istore_n 3, 1) := by decide +kernel
theorem dX1_isAllLetAfter_2 : decode cX1_isAllLetAfter 2 = .ok (.iload_n 3, 1) := by decide +kernel
theorem dX1_isAllLetAfter_3 : decode cX1_isAllLetAfter 3 = .ok (.iconst 4, 1) := by decide +kernel
theorem dX1_isAllLetAfter_4 : decode cX1_isAllLetAfter 4 = .ok (.if_icmp .ge 25, 3) := by decide +kernel
theorem dX1_isAllLetAfter_7 : decode cX1_isAllLetAfter 7 = .ok (.aload_n 0, 1) := by decide +kernel
theorem dX1_isAllLetAfter_8 : decode cX1_isAllLetAfter 8 = .ok (.getfield 9, 3) := by decide +kernel
theorem dX1_isAllLetAfter_11 : decode cX1_isAllLetAfter 11 = .ok (.iload_n 3, 1) := by decide +kernel
theorem dX1_isAllLetAfter_12 : decode cX1_isAllLetAfter 12 = .ok (.laload, 1) := by decide +kernel
theorem dX1_isAllLetAfter_13 : decode cX1_isAllLetAfter 13 = .ok (.lload_n 1, 1) := by decide +kernel
theorem dX1_isAllLetAfter_14 : decode cX1_isAllLetAfter 14 = .ok (.ladd, 1) := by decide +kernel
theorem dX1_isAllLetAfter_15 : decode cX1_isAllLetAfter 15 = .ok (.invokestatic 57, 3) := by decide +kernel
theorem dX1_isAllLetAfter_18 : decode cX1_isAllLetAfter 18 = .ok (.ifCond .ne 5, 3) := by decide +kernel
theorem dX1_isAllLetAfter_21 : decode cX1_isAllLetAfter 21 = .ok (.iconst 0, 1) := by decide +kernel
theorem dX1_isAllLetAfter_22 : decode cX1_isAllLetAfter 22 = .ok (.ireturn, 1) := by decide +kernel
theorem dX1_isAllLetAfter_23 : decode cX1_isAllLetAfter 23 = .ok (.iinc 3 1, 3) := by decide +kernel
theorem dX1_isAllLetAfter_26 : decode cX1_isAllLetAfter 26 = .ok (.goto (-24), 3) := by decide +kernel
theorem dX1_isAllLetAfter_29 : decode cX1_isAllLetAfter 29 = .ok (.aload_n 0, 1) := by decide +kernel
theorem dX1_isAllLetAfter_30 : decode cX1_isAllLetAfter 30 = .ok (.getfield 13, 3) := by decide +kernel
theorem dX1_isAllLetAfter_33 : decode cX1_isAllLetAfter 33 = .ok (.lload_n 1, 1) := by decide +kernel
theorem dX1_isAllLetAfter_34 : decode cX1_isAllLetAfter 34 = .ok (.ladd, 1) := by decide +kernel
theorem dX1_isAllLetAfter_35 : decode cX1_isAllLetAfter 35 = .ok (.invokestatic 57, 3) := by decide +kernel
theorem dX1_isAllLetAfter_38 : decode cX1_isAllLetAfter 38 = .ok (.ifCond .eq 41, 3) := by decide +kernel
theorem dX1_isAllLetAfter_41 : decode cX1_isAllLetAfter 41 = .ok (.aload_n 0, 1) := by decide +kernel
theorem dX1_isAllLetAfter_42 : decode cX1_isAllLetAfter 42 = .ok (.getfield 19, 3) := by decide +kernel
theorem dX1_isAllLetAfter_45 : decode cX1_isAllLetAfter 45 = .ok (.lload_n 1, 1) := by decide +kernel
theorem dX1_isAllLetAfter_46 : decode cX1_isAllLetAfter 46 = .ok (.ladd, 1) := by decide +kernel
theorem dX1_isAllLetAfter_47 : decode cX1_isAllLetAfter 47 = .ok (.invokestatic 57, 3) := by decide +kernel
theorem dX1_isAllLetAfter_50 : decode cX1_isAllLetAfter 50 = .ok (.ifCond .eq 29, 3) := by decide +kernel
theorem dX1_isAllLetAfter_53 : decode cX1_isAllLetAfter 53 = .ok (.aload_n 0, 1) := by decide +kernel
theorem dX1_isAllLetAfter_54 : decode cX1_isAllLetAfter 54 = .ok (.getfield 25, 3) := by decide +kernel
theorem dX1_isAllLetAfter_57 : decode cX1_isAllLetAfter 57 = .ok (.lload_n 1, 1) := by decide +kernel
theorem dX1_isAllLetAfter_58 : decode cX1_isAllLetAfter 58 = .ok (.invokevirtual 292, 3) := by decide +kernel
theorem dX1_isAllLetAfter_61 : decode cX1_isAllLetAfter 61 = .ok (.ifCond .eq 18, 3) := by decide +kernel
theorem dX1_isAllLetAfter_64 : decode cX1_isAllLetAfter 64 = .ok (.aload_n 0, 1) := by decide +kernel
theorem dX1_isAllLetAfter_65 : decode cX1_isAllLetAfter 65 = .ok (.getfield 29, 3) := by decide +kernel
theorem dX1_isAllLetAfter_68 : decode cX1_isAllLetAfter 68 = .ok (.lload_n 1, 1) := by decide +kernel
theorem dX1_isAllLetAfter_69 : decode cX1_isAllLetAfter 69 = .ok (.invokevirtual 292, 3) := by decide +kernel
theorem dX1_isAllLetAfter_72 : decode cX1_isAllLetAfter 72 = .ok (.ifCond .eq 7, 3) := by decide +kernel
theorem dX1_isAllLetAfter_75 : decode cX1_isAllLetAfter 75 = .ok (.iconst 1, 1) := by decide +kernel
theorem dX1_isAllLetAfter_76 : decode cX1_isAllLetAfter 76 = .ok (.goto 4, 3) := by decide +kernel
theorem dX1_isAllLetAfter_79 : decode cX1_isAllLetAfter 79 = .ok (.iconst 0, 1) := by decide +kernel
theorem dX1_isAllLetAfter_80 : decode cX1_isAllLetAfter 80 = .ok (.ireturn, 1) := by decide +kernel
theorem dX1_isInCalendar_0 : decode cX1_isInCalendar 0 = .ok (.lload_n 1, 1) := by decide +kernel
theorem dX1_isInCalendar_1 : decode cX1_isInCalendar 1 = .ok (.aload_n 0, 1) := by decide +kernel
theorem dX1_isInCalendar_2 : decode cX1_isInCalendar 2 = .ok (.getfield 13, 3) := by decide +kernel
theorem dX1_isInCalendar_5 : decode cX1_isInCalendar 5 = .ok (.lcmp, 1) := by decide +kernel
theorem dX1_isInCalendar_6 : decode cX1_isInCalendar 6 = .ok (.ifCond .lt 16, 3) := by decide +kernel
theorem dX1_isInCalendar_9 : decode cX1_isInCalendar 9 = .ok (.lload_n 3, 1) := by decide +kernel
theorem dX1_isInCalendar_10 : decode cX1_isInCalendar 10 = .ok (.aload_n 0, 1) := by decide +kernel
theorem dX1_isInCalendar_11 : decode cX1_isInCalendar 11 = .ok (.getfield 19, 3) := by decide +kernel
theorem dX1_isInCalendar_14 : decode cX1_isInCalendar 14 = .ok (.lcmp, 1) := by decide +kernel
theorem dX1_isInCalendar_15 : decode cX1_isInCalendar 15 = .ok (.ifCond .gt 7, 3) := by decide +kernel
theorem dX1_isInCalendar_18 : decode cX1_isInCalendar 18 = .ok (.iconst 1, 1) := by decide +kernel
theorem dX1_isInCalendar_19 : decode cX1_isInCalendar 19 = .ok (.goto 4, 3) := by decide +kernel
theorem dX1_isInCalendar_22 : decode cX1_isInCalendar 22 = .ok (.iconst 0, 1) := by decide +kernel
theorem dX1_isInCalendar_23 : decode cX1_isInCalendar 23 = .ok (.ireturn, 1) := by decide +kernel
theorem dX1_addSpan_0 : decode cX1_addSpan 0 = .ok (.lload_n 1, 1) := by decide +kernel
theorem dX1_addSpan_1 : decode cX1_addSpan 1 = .ok (.lload_n 3, 1) := by decide +kernel
theorem dX1_addSpan_2 : decode cX1_addSpan 2 = .ok (.lcmp, 1) := by decide +kernel
theorem dX1_addSpan_3 : decode cX1_addSpan 3 = .ok (.ifCond .ge 24, 3) := by decide +kernel
theorem dX1_addSpan_6 : decode cX1_addSpan 6 = .ok (.aload_n 0, 1) := by decide +kernel
theorem dX1_addSpan_7 : decode cX1_addSpan 7 = .ok (.lload_n 1, 1) := by decide +kernel
theorem dX1_addSpan_8 : decode cX1_addSpan 8 = .ok (.lload_n 3, 1) := by decide +kernel
theorem dX1_addSpan_9 : decode cX1_addSpan 9 = .ok (.invokevirtual 180, 3) := by decide +kernel
theorem dX1_addSpan_12 : decode cX1_addSpan 12 = .ok (.ifCond .eq 15, 3) := by decide +kernel
theorem dX1_addSpan_15 : decode cX1_addSpan 15 = .ok (.aload_n 0, 1) := by decide +kernel
theorem dX1_addSpan_16 : decode cX1_addSpan 16 = .ok (.getfield 25, 3) := by decide +kernel
theorem dX1_addSpan_19 : decode cX1_addSpan 19 = .ok (.invokevirtual 96, 3) := by decide +kernel
theorem dX1_addSpan_22 : decode cX1_addSpan 22 = .ok (.bipush 10, 2) := by decide +kernel
theorem dX1_addSpan_24 : decode cX1_addSpan 24 = .ok (.if_icmp .lt 5, 3) := by decide +kernel
theorem dX1_addSpan_27 : decode cX1_addSpan 27 = .ok (.iconst (-1), 1) := by decide +kernel
theorem dX1_addSpan_28 : decode cX1_addSpan 28 = .ok (.ireturn, 1) := by decide +kernel
theorem dX1_addSpan_29 : decode cX1_addSpan 29 = .ok (.iload 5, 2) := by decide +kernel
theorem dX1_addSpan_31 : decode cX1_addSpan 31 = .ok (.ifCond .ne 19, 3) := by decide +kernel
theorem dX1_addSpan_34 : decode cX1_addSpan 34 = .ok (.aload_n 0, 1) := by decide +kernel
theorem dX1_addSpan_35 : decode cX1_addSpan 35 = .ok (.getfield 25, 3) := by decide +kernel
theorem dX1_addSpan_38 : decode cX1_addSpan 38 = .ok (.lload_n 1, 1) := by decide +kernel
theorem dX1_addSpan_39 : decode cX1_addSpan 39 = .ok (.lload_n 3, 1) := by decide +kernel
theorem dX1_addSpan_40 : decode cX1_addSpan 40 = .ok (.iconst (-1), 1) := by decide +kernel
theorem dX1_addSpan_41 : decode cX1_addSpan 41 = .ok (.invokevirtual 184, 3) := by decide +kernel
theorem dX1_addSpan_44 : decode cX1_addSpan 44 = .ok (.iconst (-1), 1) := by decide +kernel
theorem dX1_addSpan_45 : decode cX1_addSpan 45 = .ok (.if_icmp .eq 5, 3) := by decide +kernel
theorem dX1_addSpan_48 : decode cX1_addSpan 48 = .ok (.iconst (-1), 1) := by decide +kernel
theorem dX1_addSpan_49 : decode cX1_addSpan 49 = .ok (.ireturn, 1) := by decide +kernel
theorem dX1_addSpan_50 : decode cX1_addSpan 50 = .ok (.aload_n 0, 1) := by decide +kernel
theorem dX1_addSpan_51 : decode cX1_addSpan 51 = .ok (.getfield 25, 3) := by decide +kernel
theorem dX1_addSpan_54 : decode cX1_addSpan 54 = .ok (.lload_n 1, 1) := by decide +kernel
theorem dX1_addSpan_55 : decode cX1_addSpan 55 = .ok (.lload_n 3, 1) := by decide +kernel
theorem dX1_addSpan_56 : decode cX1_addSpan 56 = .ok (.iload 5, 2) := by decide +kernel
theorem dX1_addSpan_58 : decode cX1_addSpan 58 = .ok (.invokevirtual 139, 3) := by decide +kernel
theorem dX1_addSpan_61 : decode cX1_addSpan 61 = .ok (.ireturn, 1) := by decide +kernel
theorem dX1_changeSpan_0 : decode cX1_changeSpan 0 = .ok (.lload_n 2, 1) := by decide +kernel
theorem dX1_changeSpan_1 : decode cX1_changeSpan 1 = .ok (.lload 4, 2) := by decide +kernel
theorem dX1_changeSpan_3 : decode cX1_changeSpan 3 = .ok (.lcmp, 1) := by decide +kernel
theorem dX1_changeSpan_4 : decode cX1_changeSpan 4 = .ok (.ifCond .ge 28, 3) := by decide +kernel
theorem dX1_changeSpan_7 : decode cX1_changeSpan 7 = .ok (.aload_n 0, 1) := by decide +kernel
theorem dX1_changeSpan_8 : decode cX1_changeSpan 8 = .ok (.lload_n 2, 1) := by decide +kernel
theorem dX1_changeSpan_9 : decode cX1_changeSpan 9 = .ok (.lload 4, 2) := by decide +kernel
theorem dX1_changeSpan_11 : decode cX1_changeSpan 11 = .ok (.invokevirtual 180, 3) := by decide +kernel
theorem dX1_changeSpan_14 : decode cX1_changeSpan 14 = .ok (.ifCond .eq 18, 3) := by decide +kernel
theorem dX1_changeSpan_17 : decode cX1_changeSpan 17 = .ok (.aload_n 0, 1) := by decide +kernel
theorem dX1_changeSpan_18 : decode cX1_changeSpan 18 = .ok (.getfield 25, 3) := by decide +kernel
theorem dX1_changeSpan_21 : decode cX1_changeSpan 21 = .ok (.lload_n 2, 1) := by decide +kernel
theorem dX1_changeSpan_22 : decode cX1_changeSpan 22 = .ok (.lload 4, 2) := by decide +kernel
theorem dX1_changeSpan_24 : decode cX1_changeSpan 24 = .ok (.iload_n 1, 1) := by decide +kernel
theorem dX1_changeSpan_25 : decode cX1_changeSpan 25 = .ok (.invokevirtual 184, 3) := by decide +kernel
theorem dX1_changeSpan_28 : decode cX1_changeSpan 28 = .ok (.iconst (-1), 1) := by decide +kernel
theorem dX1_changeSpan_29 : decode cX1_changeSpan 29 = .ok (.if_icmp .eq 5, 3) := by decide +kernel
theorem dX1_changeSpan_32 : decode cX1_changeSpan 32 = .ok (.iconst 0, 1) := by decide +kernel
theorem dX1_changeSpan_33 : decode cX1_changeSpan 33 = .ok (.ireturn, 1) := by decide +kernel
theorem dX1_changeSpan_34 : decode cX1_changeSpan 34 = .ok (.aload_n 0, 1) := by decide +kernel
theorem dX1_changeSpan_35 : decode cX1_changeSpan 35 = .ok (.getfield 25, 3) := by decide +kernel
theorem dX1_changeSpan_38 : decode cX1_changeSpan 38 = .ok (.iload_n 1, 1) := by decide +kernel
theorem dX1_changeSpan_39 : decode cX1_changeSpan 39 = .ok (.lload_n 2, 1) := by decide +kernel
theorem dX1_changeSpan_40 : decode cX1_changeSpan 40 = .ok (.lload 4, 2) := by decide +kernel
theorem dX1_changeSpan_42 : decode cX1_changeSpan 42 = .ok (.invokevirtual 295, 3) := by decide +kernel
theorem dX1_changeSpan_45 : decode cX1_changeSpan 45 = .ok (.iconst 1, 1) := by decide +kernel
theorem dX1_changeSpan_46 : decode cX1_changeSpan 46 = .ok (.ireturn, 1) := by decide +kernel
theorem dX1_firstWithoutSpan_0 : decode cX1_firstWithoutSpan 0 = .ok (.lload_n 1, 1) := by decide +kernel
theorem dX1_firstWithoutSpan_1 : decode cX1_firstWithoutSpan 1 = .ok (.lstore 5, 2) := by decide +kernel
theorem dX1_firstWithoutSpan_3 : decode cX1_firstWithoutSpan 3 = .ok (.iconst 0, 1) := by decide +kernel
theorem dX1_firstWithoutSpan_4 : decode cX1_firstWithoutSpan 4 = .ok (.istore 7, 2) := by decide +kernel
theorem dX1_firstWithoutSpan_6 : decode cX1_firstWithoutSpan 6 = .ok (.iload 7, 2) := by decide +kernel
theorem dX1_firstWithoutSpan_8 : decode cX1_firstWithoutSpan 8 = .ok (.aload_n 0, 1) := by decide +kernel
theorem dX1_firstWithoutSpan_9 : decode cX1_firstWithoutSpan 9 = .ok (.getfield 25, 3) := by decide +kernel
theorem dX1_firstWithoutSpan_12 : decode cX1_firstWithoutSpan 12 = .ok (.invokevirtual 96, 3) := by decide +kernel
theorem dX1_firstWithoutSpan_15 : decode cX1_firstWithoutSpan 15 = .ok (.if_icmp .ge 45, 3) := by decide +kernel
theorem dX1_firstWithoutSpan_18 : decode cX1_firstWithoutSpan 18 = .ok (.aload_n 0, 1) := by decide +kernel
theorem dX1_firstWithoutSpan_19 : decode cX1_firstWithoutSpan 19 = .ok (.getfield 25, 3) := by decide +kernel
theorem dX1_firstWithoutSpan_22 : decode cX1_firstWithoutSpan 22 = .ok (.lload 5, 2) := by decide +kernel
theorem dX1_firstWithoutSpan_24 : decode cX1_firstWithoutSpan 24 = .ok (.lload 5, 2) := by decide +kernel
theorem dX1_firstWithoutSpan_26 : decode cX1_firstWithoutSpan 26 = .ok (.lload_n 3, 1) := by decide +kernel
theorem dX1_firstWithoutSpan_27 : decode cX1_firstWithoutSpan 27 = .ok (.ladd, 1) := by decide +kernel
theorem dX1_firstWithoutSpan_28 : decode cX1_firstWithoutSpan 28 = .ok (.iconst (-1), 1) := by decide +kernel
theorem dX1_firstWithoutSpan_29 : decode cX1_firstWithoutSpan 29 = .ok (.invokevirtual 184, 3) := by decide +kernel
theorem dX1_firstWithoutSpan_32 : decode cX1_firstWithoutSpan 32 = .ok (.istore 8, 2) := by decide +kernel
theorem dX1_firstWithoutSpan_34 : decode cX1_firstWithoutSpan 34 = .ok (.iload 8, 2) := by decide +kernel
theorem dX1_firstWithoutSpan_36 : decode cX1_firstWithoutSpan 36 = .ok (.iconst (-1), 1) := by decide +kernel
theorem dX1_firstWithoutSpan_37 : decode cX1_firstWithoutSpan 37 = .ok (.if_icmp .ne 6, 3) := by decide +kernel
theorem dX1_firstWithoutSpan_40 : decode cX1_firstWithoutSpan 40 = .ok (.lload 5, 2) := by decide +kernel
theorem dX1_firstWithoutSpan_42 : decode cX1_firstWithoutSpan 42 = .ok (.lreturn, 1) := by decide +kernel
theorem dX1_firstWithoutSpan_43 : decode cX1_firstWithoutSpan 43 = .ok (.aload_n 0, 1) := by decide +kernel
theorem dX1_firstWithoutSpan_44 : decode cX1_firstWithoutSpan 44 = .ok (.getfield 25, 3) := by decide +kernel
theorem dX1_firstWithoutSpan_47 : decode cX1_firstWithoutSpan 47 = .ok (.iload 8, 2) := by decide +kernel
theorem dX1_firstWithoutSpan_49 : decode cX1_firstWithoutSpan 49 = .ok (.invokevirtual 117, 3) := by decide +kernel
theorem dX1_firstWithoutSpan_52 : decode cX1_firstWithoutSpan 52 = .ok (.lstore 5, 2) := by decide +kernel
theorem dX1_firstWithoutSpan_54 : decode cX1_firstWithoutSpan 54 = .ok (.iinc 7 1, 3) := by decide +kernel
theorem dX1_firstWithoutSpan_57 : decode cX1_firstWithoutSpan 57 = .ok (.goto (-51), 3) := by decide +kernel
theorem dX1_firstWithoutSpan_60 : decode cX1_firstWithoutSpan 60 = .ok (.lload 5, 2) := by decide +kernel
theorem dX1_firstWithoutSpan_62 : decode cX1_firstWithoutSpan 62 = .ok (.lreturn, 1) := by decide +kernel
theorem dX1_firstTaken_0 : decode cX1_firstTaken 0 = .ok (.aload_n 0, 1) := by decide +kernel
theorem dX1_firstTaken_1 : decode cX1_firstTaken 1 = .ok (.getfield 25, 3) := by decide +kernel
theorem dX1_firstTaken_4 : decode cX1_firstTaken 4 = .ok (.lload_n 1, 1) := by decide +kernel
theorem dX1_firstTaken_5 : decode cX1_firstTaken 5 = .ok (.invokevirtual 174, 3) := by decide +kernel
theorem dX1_firstTaken_8 : decode cX1_firstTaken 8 = .ok (.iconst (-1), 1) := by decide +kernel
theorem dX1_firstTaken_9 : decode cX1_firstTaken 9 = .ok (.if_icmp .ne 18, 3) := by decide +kernel
theorem dX1_firstTaken_12 : decode cX1_firstTaken 12 = .ok (.aload_n 0, 1) := by decide +kernel
theorem dX1_firstTaken_13 : decode cX1_firstTaken 13 = .ok (.getfield 25, 3) := by decide +kernel
theorem dX1_firstTaken_16 : decode cX1_firstTaken 16 = .ok (.lload_n 1, 1) := by decide +kernel
theorem dX1_firstTaken_17 : decode cX1_firstTaken 17 = .ok (.aload_n 0, 1) := by decide +kernel
theorem dX1_firstTaken_18 : decode cX1_firstTaken 18 = .ok (.getfield 19, 3) := by decide +kernel
theorem dX1_firstTaken_21 : decode cX1_firstTaken 21 = .ok (.invokevirtual 299, 3) := by decide +kernel
theorem dX1_firstTaken_24 : decode cX1_firstTaken 24 = .ok (.goto 4, 3) := by decide +kernel
theorem dX1_firstTaken_27 : decode cX1_firstTaken 27 = .ok (.lload_n 1, 1) := by decide +kernel
theorem dX1_firstTaken_28 : decode cX1_firstTaken 28 = .ok (.lreturn, 1) := by decide +kernel
theorem dX1_findFrees_0 : decode cX1_findFrees 0 = .ok (.aload_n 0, 1) := by decide +kernel
theorem dX1_findFrees_1 : decode cX1_findFrees 1 = .ok (.getfield 32, 3) := by decide +kernel
theorem dX1_findFrees_4 : decode cX1_findFrees 4 = .ok (.invokevirtual 99, 3) := by decide +kernel
theorem dX1_findFrees_7 : decode cX1_findFrees 7 = .ok (.pop, 1) := by decide +kernel
theorem dX1_findFrees_8 : decode cX1_findFrees 8 = .ok (.aload_n 0, 1) := by decide +kernel
theorem dX1_findFrees_9 : decode cX1_findFrees 9 = .ok (.getfield 13, 3) := by decide +kernel
theorem dX1_findFrees_12 : decode cX1_findFrees 12 = .ok (.lstore_n 1, 1) := by decide +kernel
theorem dX1_findFrees_13 : decode cX1_findFrees 13 = .ok (.iconst 0, 1) := by decide +kernel
theorem dX1_findFrees_14 : decode cX1_findFrees 14 = .ok (.istore_n 3, 1) := by decide +kernel
theorem dX1_findFrees_15 : decode cX1_findFrees 15 = .ok (.iload_n 3, 1) := by decide +kernel
theorem dX1_findFrees_16 : decode cX1_findFrees 16 = .ok (.aload_n 0, 1) := by decide +kernel
theorem dX1_findFrees_17 : decode cX1_findFrees 17 = .ok (.getfield 25, 3) := by decide +kernel
theorem dX1_findFrees_20 : decode cX1_findFrees 20 = .ok (.invokevirtual 96, 3) := by decide +kernel
theorem dX1_findFrees_23 : decode cX1_findFrees 23 = .ok (.if_icmp .gt 52, 3) := by decide +kernel
theorem dX1_findFrees_26 : decode cX1_findFrees 26 = .ok (.lload_n 1, 1) := by decide +kernel
theorem dX1_findFrees_27 : decode cX1_findFrees 27 = .ok (.aload_n 0, 1) := by decide +kernel
theorem dX1_findFrees_28 : decode cX1_findFrees 28 = .ok (.getfield 19, 3) := by decide +kernel
theorem dX1_findFrees_31 : decode cX1_findFrees 31 = .ok (.lcmp, 1) := by decide +kernel
theorem dX1_findFrees_32 : decode cX1_findFrees 32 = .ok (.ifCond .ge 43, 3) := by decide +kernel
theorem dX1_findFrees_35 : decode cX1_findFrees 35 = .ok (.aload_n 0, 1) := by decide +kernel
theorem dX1_findFrees_36 : decode cX1_findFrees 36 = .ok (.lload_n 1, 1) := by decide +kernel
theorem dX1_findFrees_37 : decode cX1_findFrees 37 = .ok (.lconst 1, 1) := by decide +kernel
theorem dX1_findFrees_38 : decode cX1_findFrees 38 = .ok (.invokevirtual 136, 3) := by decide +kernel
theorem dX1_findFrees_41 : decode cX1_findFrees 41 = .ok (.lstore 4, 2) := by decide +kernel
theorem dX1_findFrees_43 : decode cX1_findFrees 43 = .ok (.aload_n 0, 1) := by decide +kernel
theorem dX1_findFrees_44 : decode cX1_findFrees 44 = .ok (.lload 4, 2) := by decide +kernel
theorem dX1_findFrees_46 : decode cX1_findFrees 46 = .ok (.invokevirtual 302, 3) := by decide +kernel
theorem dX1_findFrees_49 : decode cX1_findFrees 49 = .ok (.lstore_n 1, 1) := by decide +kernel
theorem dX1_findFrees_50 : decode cX1_findFrees 50 = .ok (.lload 4, 2) := by decide +kernel
theorem dX1_findFrees_52 : decode cX1_findFrees 52 = .ok (.lload_n 1, 1) := by decide +kernel
theorem dX1_findFrees_53 : decode cX1_findFrees 53 = .ok (.lcmp, 1) := by decide +kernel
theorem dX1_findFrees_54 : decode cX1_findFrees 54 = .ok (.ifCond .ge 15, 3) := by decide +kernel
theorem dX1_findFrees_57 : decode cX1_findFrees 57 = .ok (.aload_n 0, 1) := by decide +kernel
theorem dX1_findFrees_58 : decode cX1_findFrees 58 = .ok (.getfield 32, 3) := by decide +kernel
theorem dX1_findFrees_61 : decode cX1_findFrees 61 = .ok (.lload 4, 2) := by decide +kernel
theorem dX1_findFrees_63 : decode cX1_findFrees 63 = .ok (.lload_n 1, 1) := by decide +kernel
theorem dX1_findFrees_64 : decode cX1_findFrees 64 = .ok (.iconst 0, 1) := by decide +kernel
theorem dX1_findFrees_65 : decode cX1_findFrees 65 = .ok (.invokevirtual 139, 3) := by decide +kernel
theorem dX1_findFrees_68 : decode cX1_findFrees 68 = .ok (.pop, 1) := by decide +kernel
theorem dX1_findFrees_69 : decode cX1_findFrees 69 = .ok (.iinc 3 1, 3) := by decide +kernel
theorem dX1_findFrees_72 : decode cX1_findFrees 72 = .ok (.goto (-57), 3) := by decide +kernel
theorem dX1_findFrees_75 : decode cX1_findFrees 75 = .ok (.return_, 1) := by decide +kernel
theorem dX1_freeLength_0 : decode cX1_freeLength 0 = .ok (.lconst 0, 1) := by decide +kernel
theorem dX1_freeLength_1 : decode cX1_freeLength 1 = .ok (.lstore_n 1, 1) := by decide +kernel
theorem dX1_freeLength_2 : decode cX1_freeLength 2 = .ok (.iconst 0, 1) := by decide +kernel
theorem dX1_freeLength_3 : decode cX1_freeLength 3 = .ok (.istore_n 3, 1) := by decide +kernel
theorem dX1_freeLength_4 : decode cX1_freeLength 4 = .ok (.iload_n 3, 1) := by decide +kernel
theorem dX1_freeLength_5 : decode cX1_freeLength 5 = .ok (.aload_n 0, 1) := by decide +kernel
theorem dX1_freeLength_6 : decode cX1_freeLength 6 = .ok (.getfield 32, 3) := by decide +kernel
theorem dX1_freeLength_9 : decode cX1_freeLength 9 = .ok (.invokevirtual 96, 3) := by decide +kernel
theorem dX1_freeLength_12 : decode cX1_freeLength 12 = .ok (.if_icmp .ge 29, 3) := by decide +kernel
theorem dX1_freeLength_15 : decode cX1_freeLength 15 = .ok (.lload_n 1, 1) := by decide +kernel
theorem dX1_freeLength_16 : decode cX1_freeLength 16 = .ok (.aload_n 0, 1) := by decide +kernel
theorem dX1_freeLength_17 : decode cX1_freeLength 17 = .ok (.getfield 32, 3) := by decide +kernel
theorem dX1_freeLength_20 : decode cX1_freeLength 20 = .ok (.iload_n 3, 1) := by decide +kernel
theorem dX1_freeLength_21 : decode cX1_freeLength 21 = .ok (.invokevirtual 117, 3) := by decide +kernel
theorem dX1_freeLength_24 : decode cX1_freeLength 24 = .ok (.aload_n 0, 1) := by decide +kernel
theorem dX1_freeLength_25 : decode cX1_freeLength 25 = .ok (.getfield 32, 3) := by decide +kernel
theorem dX1_freeLength_28 : decode cX1_freeLength 28 = .ok (.iload_n 3, 1) := by decide +kernel
theorem dX1_freeLength_29 : decode cX1_freeLength 29 = .ok (.invokevirtual 113, 3) := by decide +kernel
theorem dX1_freeLength_32 : decode cX1_freeLength 32 = .ok (.lsub, 1) := by decide +kernel
theorem dX1_freeLength_33 : decode cX1_freeLength 33 = .ok (.ladd, 1) := by decide +kernel
theorem dX1_freeLength_34 : decode cX1_freeLength 34 = .ok (.lstore_n 1, 1) := by decide +kernel
theorem dX1_freeLength_35 : decode cX1_freeLength 35 = .ok (.iinc 3 1, 3) := by decide +kernel
theorem dX1_freeLength_38 : decode cX1_freeLength 38 = .ok (.goto (-34), 3) := by decide +kernel
theorem dX1_freeLength_41 : decode cX1_freeLength 41 = .ok (.lload_n 1, 1) := by decide +kernel
theorem dX1_freeLength_42 : decode cX1_freeLength 42 = .ok (.lreturn, 1) := by decide +kernel
theorem dX1_takenLength_0 : decode cX1_takenLength 0 = .ok (.lconst 0, 1) := by decide +kernel
theorem dX1_takenLength_1 : decode cX1_takenLength 1 = .ok (.lstore_n 1, 1) := by decide +kernel
theorem dX1_takenLength_2 : decode cX1_takenLength 2 = .ok (.aload_n 0, 1) := by decide +kernel
theorem dX1_takenLength_3 : decode cX1_takenLength 3 = .ok (.getfield 13, 3) := by decide +kernel
theorem dX1_takenLength_6 : decode cX1_takenLength 6 = .ok (.lstore_n 3, 1) := by decide +kernel
theorem dX1_takenLength_7 : decode cX1_takenLength 7 = .ok (.iconst 0, 1) := by decide +kernel
theorem dX1_takenLength_8 : decode cX1_takenLength 8 = .ok (.istore 5, 2) := by decide +kernel
theorem dX1_takenLength_10 : decode cX1_takenLength 10 = .ok (.iload 5, 2) := by decide +kernel
theorem dX1_takenLength_12 : decode cX1_takenLength 12 = .ok (.aload_n 0, 1) := by decide +kernel
theorem dX1_takenLength_13 : decode cX1_takenLength 13 = .ok (.getfield 25, 3) := by decide +kernel
theorem dX1_takenLength_16 : decode cX1_takenLength 16 = .ok (.invokevirtual 96, 3) := by decide +kernel
theorem dX1_takenLength_19 : decode cX1_takenLength 19 = .ok (.if_icmp .gt 40, 3) := by decide +kernel
theorem dX1_takenLength_22 : decode cX1_takenLength 22 = .ok (.lload_n 3, 1) := by decide +kernel
theorem dX1_takenLength_23 : decode cX1_takenLength 23 = .ok (.aload_n 0, 1) := by decide +kernel
theorem dX1_takenLength_24 : decode cX1_takenLength 24 = .ok (.getfield 19, 3) := by decide +kernel
theorem dX1_takenLength_27 : decode cX1_takenLength 27 = .ok (.lcmp, 1) := by decide +kernel
theorem dX1_takenLength_28 : decode cX1_takenLength 28 = .ok (.ifCond .ge 31, 3) := by decide +kernel
theorem dX1_takenLength_31 : decode cX1_takenLength 31 = .ok (.aload_n 0, 1) := by decide +kernel
theorem dX1_takenLength_32 : decode cX1_takenLength 32 = .ok (.lload_n 3, 1) := by decide +kernel
theorem dX1_takenLength_33 : decode cX1_takenLength 33 = .ok (.invokevirtual 302, 3) := by decide +kernel
theorem dX1_takenLength_36 : decode cX1_takenLength 36 = .ok (.lstore 6, 2) := by decide +kernel
theorem dX1_takenLength_38 : decode cX1_takenLength 38 = .ok (.aload_n 0, 1) := by decide +kernel
theorem dX1_takenLength_39 : decode cX1_takenLength 39 = .ok (.lload 6, 2) := by decide +kernel
theorem dX1_takenLength_41 : decode cX1_takenLength 41 = .ok (.lconst 1, 1) := by decide +kernel
theorem dX1_takenLength_42 : decode cX1_takenLength 42 = .ok (.invokevirtual 136, 3) := by decide +kernel
theorem dX1_takenLength_45 : decode cX1_takenLength 45 = .ok (.lstore_n 3, 1) := by decide +kernel
theorem dX1_takenLength_46 : decode cX1_takenLength 46 = .ok (.lload_n 1, 1) := by decide +kernel
theorem dX1_takenLength_47 : decode cX1_takenLength 47 = .ok (.lload_n 3, 1) := by decide +kernel
theorem dX1_takenLength_48 : decode cX1_takenLength 48 = .ok (.lload 6, 2) := by decide +kernel
theorem dX1_takenLength_50 : decode cX1_takenLength 50 = .ok (.lsub, 1) := by decide +kernel
theorem dX1_takenLength_51 : decode cX1_takenLength 51 = .ok (.ladd, 1) := by decide +kernel
theorem dX1_takenLength_52 : decode cX1_takenLength 52 = .ok (.lstore_n 1, 1) := by decide +kernel
theorem dX1_takenLength_53 : decode cX1_takenLength 53 = .ok (.iinc 5 1, 3) := by decide +kernel
theorem dX1_takenLength_56 : decode cX1_takenLength 56 = .ok (.goto (-46), 3) := by decide +kernel
theorem dX1_takenLength_59 : decode cX1_takenLength 59 = .ok (.lload_n 1, 1) := by decide +kernel
theorem dX1_takenLength_60 : decode cX1_takenLength 60 = .ok (.lreturn, 1) := by decide +kernel
theorem dX1_setOfAllWishes_0 : decode cX1_setOfAllWishes 0 = .ok (.iconst 1, 1) := by decide +kernel
theorem dX1_setOfAllWishes_1 : decode cX1_setOfAllWishes 1 = .ok (.aload_n 0, 1) := by decide +kernel
theorem dX1_setOfAllWishes_2 : decode cX1_setOfAllWishes 2 = .ok (.getfield 29, 3) := by decide +kernel
theorem dX1_setOfAllWishes_5 : decode cX1_setOfAllWishes 5 = .ok (.invokevirtual 96, 3) := by decide +kernel
theorem dX1_setOfAllWishes_8 : decode cX1_setOfAllWishes 8 = .ok (.ishl, 1) := by decide +kernel
theorem dX1_setOfAllWishes_9 : decode cX1_setOfAllWishes 9 = .ok (.iconst 1, 1) := by decide +kernel
theorem dX1_setOfAllWishes_10 : decode cX1_setOfAllWishes 10 = .ok (.isub, 1) := by decide +kernel
theorem dX1_setOfAllWishes_11 : decode cX1_setOfAllWishes 11 = .ok (.ireturn, 1) := by decide +kernel
theorem dX1_meetsOneOf_0 : decode cX1_meetsOneOf 0 = .ok (.iconst 0, 1) := by decide +kernel
theorem dX1_meetsOneOf_1 : decode cX1_meetsOneOf 1 = .ok (.istore_n 3, 1) := by decide +kernel
theorem dX1_meetsOneOf_2 : decode cX1_meetsOneOf 2 = .ok (.iload_n 3, 1) := by decide +kernel
theorem dX1_meetsOneOf_3 : decode cX1_meetsOneOf 3 = .ok (.aload_n 0, 1) := by decide +kernel
theorem dX1_meetsOneOf_4 : decode cX1_meetsOneOf 4 = .ok (.getfield 29, 3) := by decide +kernel
theorem dX1_meetsOneOf_7 : decode cX1_meetsOneOf 7 = .ok (.invokevirtual 96, 3) := by decide +kernel
theorem dX1_meetsOneOf_10 : decode cX1_meetsOneOf 10 = .ok (.if_icmp .ge 32, 3) := by decide +kernel
theorem dX1_meetsOneOf_13 : decode cX1_meetsOneOf 13 = .ok (.iload_n 2, 1) := by decide +kernel
theorem dX1_meetsOneOf_14 : decode cX1_meetsOneOf 14 = .ok (.iload_n 3, 1) := by decide +kernel
theorem dX1_meetsOneOf_15 : decode cX1_meetsOneOf 15 = .ok (.ishr, 1) := by decide +kernel
theorem dX1_meetsOneOf_16 : decode cX1_meetsOneOf 16 = .ok (.iconst 1, 1) := by decide +kernel
theorem dX1_meetsOneOf_17 : decode cX1_meetsOneOf 17 = .ok (.iand, 1) := by decide +kernel
theorem dX1_meetsOneOf_18 : decode cX1_meetsOneOf 18 = .ok (.iconst 1, 1) := by decide +kernel
theorem dX1_meetsOneOf_19 : decode cX1_meetsOneOf 19 = .ok (.if_icmp .ne 17, 3) := by decide +kernel
theorem dX1_meetsOneOf_22 : decode cX1_meetsOneOf 22 = .ok (.aload_n 0, 1) := by decide +kernel
theorem dX1_meetsOneOf_23 : decode cX1_meetsOneOf 23 = .ok (.getfield 29, 3) := by decide +kernel
theorem dX1_meetsOneOf_26 : decode cX1_meetsOneOf 26 = .ok (.iload_n 1, 1) := by decide +kernel
theorem dX1_meetsOneOf_27 : decode cX1_meetsOneOf 27 = .ok (.iload_n 3, 1) := by decide +kernel
theorem dX1_meetsOneOf_28 : decode cX1_meetsOneOf 28 = .ok (.invokevirtual 170, 3) := by decide +kernel
theorem dX1_meetsOneOf_31 : decode cX1_meetsOneOf 31 = .ok (.ifCond .eq 5, 3) := by decide +kernel
theorem dX1_meetsOneOf_34 : decode cX1_meetsOneOf 34 = .ok (.iconst 1, 1) := by decide +kernel
theorem dX1_meetsOneOf_35 : decode cX1_meetsOneOf 35 = .ok (.ireturn, 1) := by decide +kernel
theorem dX1_meetsOneOf_36 : decode cX1_meetsOneOf 36 = .ok (.iinc 3 1, 3) := by decide +kernel
theorem dX1_meetsOneOf_39 : decode cX1_meetsOneOf 39 = .ok (.goto (-37), 3) := by decide +kernel
theorem dX1_meetsOneOf_42 : decode cX1_meetsOneOf 42 = .ok (.iconst 0, 1) := by decide +kernel
theorem dX1_meetsOneOf_43 : decode cX1_meetsOneOf 43 = .ok (.ireturn, 1) := by decide +kernel
theorem dX1_isWithoutMeeting_0 : decode cX1_isWithoutMeeting 0 = .ok (.iconst 0, 1) := by decide +kernel
theorem dX1_isWithoutMeeting_1 : decode cX1_isWithoutMeeting 1 = .ok (.istore_n 2, 1) := by decide +kernel
theorem dX1_isWithoutMeeting_2 : decode cX1_isWithoutMeeting 2 = .ok (.iload_n 2, 1) := by decide +kernel
theorem dX1_isWithoutMeeting_3 : decode cX1_isWithoutMeeting 3 = .ok (.aload_n 0, 1) := by decide +kernel
theorem dX1_isWithoutMeeting_4 : decode cX1_isWithoutMeeting 4 = .ok (.getfield 29, 3) := by decide +kernel
theorem dX1_isWithoutMeeting_7 : decode cX1_isWithoutMeeting 7 = .ok (.invokevirtual 96, 3) := by decide +kernel
theorem dX1_isWithoutMeeting_10 : decode cX1_isWithoutMeeting 10 = .ok (.if_icmp .ge 32, 3) := by decide +kernel
theorem dX1_isWithoutMeeting_13 : decode cX1_isWithoutMeeting 13 = .ok (.iconst 1, 1) := by decide +kernel
theorem dX1_isWithoutMeeting_14 : decode cX1_isWithoutMeeting 14 = .ok (.iload_n 2, 1) := by decide +kernel
theorem dX1_isWithoutMeeting_15 : decode cX1_isWithoutMeeting 15 = .ok (.ishl, 1) := by decide +kernel
theorem dX1_isWithoutMeeting_16 : decode cX1_isWithoutMeeting 16 = .ok (.istore_n 3, 1) := by decide +kernel
theorem dX1_isWithoutMeeting_17 : decode cX1_isWithoutMeeting 17 = .ok (.iload_n 1, 1) := by decide +kernel
theorem dX1_isWithoutMeeting_18 : decode cX1_isWithoutMeeting 18 = .ok (.iload_n 3, 1) := by decide +kernel
theorem dX1_isWithoutMeeting_19 : decode cX1_isWithoutMeeting 19 = .ok (.iand, 1) := by decide +kernel
theorem dX1_isWithoutMeeting_20 : decode cX1_isWithoutMeeting 20 = .ok (.ifCond .eq 16, 3) := by decide +kernel
theorem dX1_isWithoutMeeting_23 : decode cX1_isWithoutMeeting 23 = .ok (.aload_n 0, 1) := by decide +kernel
theorem dX1_isWithoutMeeting_24 : decode cX1_isWithoutMeeting 24 = .ok (.iload_n 2, 1) := by decide +kernel
theorem dX1_isWithoutMeeting_25 : decode cX1_isWithoutMeeting 25 = .ok (.iload_n 1, 1) := by decide +kernel
theorem dX1_isWithoutMeeting_26 : decode cX1_isWithoutMeeting 26 = .ok (.iload_n 3, 1) := by decide +kernel
theorem dX1_isWithoutMeeting_27 : decode cX1_isWithoutMeeting 27 = .ok (.isub, 1) := by decide +kernel
theorem dX1_isWithoutMeeting_28 : decode cX1_isWithoutMeeting 28 = .ok (.invokevirtual 305, 3) := by decide +kernel
theorem dX1_isWithoutMeeting_31 : decode cX1_isWithoutMeeting 31 = .ok (.ifCond .eq 5, 3) := by decide +kernel
theorem dX1_isWithoutMeeting_34 : decode cX1_isWithoutMeeting 34 = .ok (.iconst 0, 1) := by decide +kernel
theorem dX1_isWithoutMeeting_35 : decode cX1_isWithoutMeeting 35 = .ok (.ireturn, 1) := by decide +kernel
theorem dX1_isWithoutMeeting_36 : decode cX1_isWithoutMeeting 36 = .ok (.iinc 2 1, 3) := by decide +kernel
theorem dX1_isWithoutMeeting_39 : decode cX1_isWithoutMeeting 39 = .ok (.goto (-37), 3) := by decide +kernel
theorem dX1_isWithoutMeeting_42 : decode cX1_isWithoutMeeting 42 = .ok (.iconst 1, 1) := by decide +kernel
theorem dX1_isWithoutMeeting_43 : decode cX1_isWithoutMeeting 43 = .ok (.ireturn, 1) := by decide +kernel
theorem dX1_nextChosen_0 : decode cX1_nextChosen 0 = .ok (.iconst (-1), 1) := by decide +kernel
theorem dX1_nextChosen_1 : decode cX1_nextChosen 1 = .ok (.istore_n 2, 1) := by decide +kernel
theorem dX1_nextChosen_2 : decode cX1_nextChosen 2 = .ok (.iconst 0, 1) := by decide +kernel
theorem dX1_nextChosen_3 : decode cX1_nextChosen 3 = .ok (.istore_n 3, 1) := by decide +kernel
theorem dX1_nextChosen_4 : decode cX1_nextChosen 4 = .ok (.iload_n 3, 1) := by decide +kernel
theorem dX1_nextChosen_5 : decode cX1_nextChosen 5 = .ok (.aload_n 0, 1) := by decide +kernel
theorem dX1_nextChosen_6 : decode cX1_nextChosen 6 = .ok (.getfield 29, 3) := by decide +kernel
theorem dX1_nextChosen_9 : decode cX1_nextChosen 9 = .ok (.invokevirtual 96, 3) := by decide +kernel
theorem dX1_nextChosen_12 : decode cX1_nextChosen 12 = .ok (.if_icmp .ge 45, 3) := by decide +kernel
theorem dX1_nextChosen_15 : decode cX1_nextChosen 15 = .ok (.aload_n 0, 1) := by decide +kernel
theorem dX1_nextChosen_16 : decode cX1_nextChosen 16 = .ok (.iload_n 3, 1) := by decide +kernel
theorem dX1_nextChosen_17 : decode cX1_nextChosen 17 = .ok (.iload_n 1, 1) := by decide +kernel
theorem dX1_nextChosen_18 : decode cX1_nextChosen 18 = .ok (.invokevirtual 305, 3) := by decide +kernel
theorem dX1_nextChosen_21 : decode cX1_nextChosen 21 = .ok (.ifCond .ne 30, 3) := by decide +kernel
theorem dX1_nextChosen_24 : decode cX1_nextChosen 24 = .ok (.iload_n 2, 1) := by decide +kernel
theorem dX1_nextChosen_25 : decode cX1_nextChosen 25 = .ok (.iconst (-1), 1) := by decide +kernel
theorem dX1_nextChosen_26 : decode cX1_nextChosen 26 = .ok (.if_icmp .eq 23, 3) := by decide +kernel
theorem dX1_nextChosen_29 : decode cX1_nextChosen 29 = .ok (.aload_n 0, 1) := by decide +kernel
theorem dX1_nextChosen_30 : decode cX1_nextChosen 30 = .ok (.getfield 29, 3) := by decide +kernel
theorem dX1_nextChosen_33 : decode cX1_nextChosen 33 = .ok (.iload_n 3, 1) := by decide +kernel
theorem dX1_nextChosen_34 : decode cX1_nextChosen 34 = .ok (.invokevirtual 117, 3) := by decide +kernel
theorem dX1_nextChosen_37 : decode cX1_nextChosen 37 = .ok (.aload_n 0, 1) := by decide +kernel
theorem dX1_nextChosen_38 : decode cX1_nextChosen 38 = .ok (.getfield 29, 3) := by decide +kernel
theorem dX1_nextChosen_41 : decode cX1_nextChosen 41 = .ok (.iload_n 2, 1) := by decide +kernel
theorem dX1_nextChosen_42 : decode cX1_nextChosen 42 = .ok (.invokevirtual 117, 3) := by decide +kernel
theorem dX1_nextChosen_45 : decode cX1_nextChosen 45 = .ok (.lcmp, 1) := by decide +kernel
theorem dX1_nextChosen_46 : decode cX1_nextChosen 46 = .ok (.ifCond .ge 5, 3) := by decide +kernel
theorem dX1_nextChosen_49 : decode cX1_nextChosen 49 = .ok (.iload_n 3, 1) := by decide +kernel
theorem dX1_nextChosen_50 : decode cX1_nextChosen 50 = .ok (.istore_n 2, 1) := by decide +kernel
theorem dX1_nextChosen_51 : decode cX1_nextChosen 51 = .ok (.iinc 3 1, 3) := by decide +kernel
theorem dX1_nextChosen_54 : decode cX1_nextChosen 54 = .ok (.goto (-50), 3) := by decide +kernel
theorem dX1_nextChosen_57 : decode cX1_nextChosen 57 = .ok (.iload_n 2, 1) := by decide +kernel
theorem dX1_nextChosen_58 : decode cX1_nextChosen 58 = .ok (.ireturn, 1) := by decide +kernel
theorem dX1_mostOfAllSets_0 : decode cX1_mostOfAllSets 0 = .ok (.iconst 0, 1) := by decide +kernel
theorem dX1_mostOfAllSets_1 : decode cX1_mostOfAllSets 1 = .ok (.istore_n 1, 1) := by decide +kernel
theorem dX1_mostOfAllSets_2 : decode cX1_mostOfAllSets 2 = .ok (.aload_n 0, 1) := by decide +kernel
theorem dX1_mostOfAllSets_3 : decode cX1_mostOfAllSets 3 = .ok (.invokevirtual 198, 3) := by decide +kernel
theorem dX1_mostOfAllSets_6 : decode cX1_mostOfAllSets 6 = .ok (.istore_n 2, 1) := by decide +kernel
theorem dX1_mostOfAllSets_7 : decode cX1_mostOfAllSets 7 = .ok (.iconst 0, 1) := by decide +kernel
theorem dX1_mostOfAllSets_8 : decode cX1_mostOfAllSets 8 = .ok (.istore_n 3, 1) := by decide +kernel
theorem dX1_mostOfAllSets_9 : decode cX1_mostOfAllSets 9 = .ok (.iload_n 3, 1) := by decide +kernel
theorem dX1_mostOfAllSets_10 : decode cX1_mostOfAllSets 10 = .ok (.iload_n 2, 1) := by decide +kernel
theorem dX1_mostOfAllSets_11 : decode cX1_mostOfAllSets 11 = .ok (.if_icmp .gt 32, 3) := by decide +kernel
theorem dX1_mostOfAllSets_14 : decode cX1_mostOfAllSets 14 = .ok (.iload_n 3, 1) := by decide +kernel
theorem dX1_mostOfAllSets_15 : decode cX1_mostOfAllSets 15 = .ok (.invokestatic 210, 3) := by decide +kernel
theorem dX1_mostOfAllSets_18 : decode cX1_mostOfAllSets 18 = .ok (.istore 4, 2) := by decide +kernel
theorem dX1_mostOfAllSets_20 : decode cX1_mostOfAllSets 20 = .ok (.iload 4, 2) := by decide +kernel
theorem dX1_mostOfAllSets_22 : decode cX1_mostOfAllSets 22 = .ok (.iload_n 1, 1) := by decide +kernel
theorem dX1_mostOfAllSets_23 : decode cX1_mostOfAllSets 23 = .ok (.if_icmp .le 14, 3) := by decide +kernel
theorem dX1_mostOfAllSets_26 : decode cX1_mostOfAllSets 26 = .ok (.aload_n 0, 1) := by decide +kernel
theorem dX1_mostOfAllSets_27 : decode cX1_mostOfAllSets 27 = .ok (.iload_n 3, 1) := by decide +kernel
theorem dX1_mostOfAllSets_28 : decode cX1_mostOfAllSets 28 = .ok (.invokevirtual 201, 3) := by decide +kernel
theorem dX1_mostOfAllSets_31 : decode cX1_mostOfAllSets 31 = .ok (.ifCond .eq 6, 3) := by decide +kernel
theorem dX1_mostOfAllSets_34 : decode cX1_mostOfAllSets 34 = .ok (.iload 4, 2) := by decide +kernel
theorem dX1_mostOfAllSets_36 : decode cX1_mostOfAllSets 36 = .ok (.istore_n 1, 1) := by decide +kernel
theorem dX1_mostOfAllSets_37 : decode cX1_mostOfAllSets 37 = .ok (.iinc 3 1, 3) := by decide +kernel
theorem dX1_mostOfAllSets_40 : decode cX1_mostOfAllSets 40 = .ok (.goto (-31), 3) := by decide +kernel
theorem dX1_mostOfAllSets_43 : decode cX1_mostOfAllSets 43 = .ok (.iload_n 1, 1) := by decide +kernel
theorem dX1_mostOfAllSets_44 : decode cX1_mostOfAllSets 44 = .ok (.ireturn, 1) := by decide +kernel
theorem dX1_firstWithoutRoom_0 : decode cX1_firstWithoutRoom 0 = .ok (.iconst (-1), 1) := by decide +kernel
theorem dX1_firstWithoutRoom_1 : decode cX1_firstWithoutRoom 1 = .ok (.istore_n 1, 1) := by decide +kernel
theorem dX1_firstWithoutRoom_2 : decode cX1_firstWithoutRoom 2 = .ok (.iconst 0, 1) := by decide +kernel
theorem dX1_firstWithoutRoom_3 : decode cX1_firstWithoutRoom 3 = .ok (.istore_n 2, 1) := by decide +kernel
theorem dX1_firstWithoutRoom_4 : decode cX1_firstWithoutRoom 4 = .ok (.iload_n 2, 1) := by decide +kernel
theorem dX1_firstWithoutRoom_5 : decode cX1_firstWithoutRoom 5 = .ok (.aload_n 0, 1) := by decide +kernel
theorem dX1_firstWithoutRoom_6 : decode cX1_firstWithoutRoom 6 = .ok (.getfield 29, 3) := by decide +kernel
theorem dX1_firstWithoutRoom_9 : decode cX1_firstWithoutRoom 9 = .ok (.invokevirtual 96, 3) := by decide +kernel
theorem dX1_firstWithoutRoom_12 : decode cX1_firstWithoutRoom 12 = .ok (.if_icmp .ge 46, 3) := by decide +kernel
theorem dX1_firstWithoutRoom_15 : decode cX1_firstWithoutRoom 15 = .ok (.aload_n 0, 1) := by decide +kernel
theorem dX1_firstWithoutRoom_16 : decode cX1_firstWithoutRoom 16 = .ok (.getfield 35, 3) := by decide +kernel
theorem dX1_firstWithoutRoom_19 : decode cX1_firstWithoutRoom 19 = .ok (.iload_n 2, 1) := by decide +kernel
theorem dX1_firstWithoutRoom_20 : decode cX1_firstWithoutRoom 20 = .ok (.iaload, 1) := by decide +kernel
theorem dX1_firstWithoutRoom_21 : decode cX1_firstWithoutRoom 21 = .ok (.iconst (-1), 1) := by decide +kernel
theorem dX1_firstWithoutRoom_22 : decode cX1_firstWithoutRoom 22 = .ok (.if_icmp .ne 30, 3) := by decide +kernel
theorem dX1_firstWithoutRoom_25 : decode cX1_firstWithoutRoom 25 = .ok (.iload_n 1, 1) := by decide +kernel
theorem dX1_firstWithoutRoom_26 : decode cX1_firstWithoutRoom 26 = .ok (.iconst (-1), 1) := by decide +kernel
theorem dX1_firstWithoutRoom_27 : decode cX1_firstWithoutRoom 27 = .ok (.if_icmp .eq 23, 3) := by decide +kernel
theorem dX1_firstWithoutRoom_30 : decode cX1_firstWithoutRoom 30 = .ok (.aload_n 0, 1) := by decide +kernel
theorem dX1_firstWithoutRoom_31 : decode cX1_firstWithoutRoom 31 = .ok (.getfield 29, 3) := by decide +kernel
theorem dX1_firstWithoutRoom_34 : decode cX1_firstWithoutRoom 34 = .ok (.iload_n 2, 1) := by decide +kernel
theorem dX1_firstWithoutRoom_35 : decode cX1_firstWithoutRoom 35 = .ok (.invokevirtual 113, 3) := by decide +kernel
theorem dX1_firstWithoutRoom_38 : decode cX1_firstWithoutRoom 38 = .ok (.aload_n 0, 1) := by decide +kernel
theorem dX1_firstWithoutRoom_39 : decode cX1_firstWithoutRoom 39 = .ok (.getfield 29, 3) := by decide +kernel
theorem dX1_firstWithoutRoom_42 : decode cX1_firstWithoutRoom 42 = .ok (.iload_n 1, 1) := by decide +kernel
theorem dX1_firstWithoutRoom_43 : decode cX1_firstWithoutRoom 43 = .ok (.invokevirtual 113, 3) := by decide +kernel
theorem dX1_firstWithoutRoom_46 : decode cX1_firstWithoutRoom 46 = .ok (.lcmp, 1) := by decide +kernel
theorem dX1_firstWithoutRoom_47 : decode cX1_firstWithoutRoom 47 = .ok (.ifCond .ge 5, 3) := by decide +kernel
theorem dX1_firstWithoutRoom_50 : decode cX1_firstWithoutRoom 50 = .ok (.iload_n 2, 1) := by decide +kernel
theorem dX1_firstWithoutRoom_51 : decode cX1_firstWithoutRoom 51 = .ok (.istore_n 1, 1) := by decide +kernel
theorem dX1_firstWithoutRoom_52 : decode cX1_firstWithoutRoom 52 = .ok (.iinc 2 1, 3) := by decide +kernel
theorem dX1_firstWithoutRoom_55 : decode cX1_firstWithoutRoom 55 = .ok (.goto (-51), 3) := by decide +kernel
theorem dX1_firstWithoutRoom_58 : decode cX1_firstWithoutRoom 58 = .ok (.iload_n 1, 1) := by decide +kernel
theorem dX1_firstWithoutRoom_59 : decode cX1_firstWithoutRoom 59 = .ok (.ireturn, 1) := by decide +kernel
theorem dX1_smallestRoom_0 : decode cX1_smallestRoom 0 = .ok (.iconst 0, 1) := by decide +kernel
theorem dX1_smallestRoom_1 : decode cX1_smallestRoom 1 = .ok (.istore_n 2, 1) := by decide +kernel
theorem dX1_smallestRoom_2 : decode cX1_smallestRoom 2 = .ok (.iconst 0, 1) := by decide +kernel
theorem dX1_smallestRoom_3 : decode cX1_smallestRoom 3 = .ok (.istore_n 3, 1) := by decide +kernel
theorem dX1_smallestRoom_4 : decode cX1_smallestRoom 4 = .ok (.iload_n 3, 1) := by decide +kernel
theorem dX1_smallestRoom_5 : decode cX1_smallestRoom 5 = .ok (.aload_n 0, 1) := by decide +kernel
theorem dX1_smallestRoom_6 : decode cX1_smallestRoom 6 = .ok (.getfield 29, 3) := by decide +kernel
theorem dX1_smallestRoom_9 : decode cX1_smallestRoom 9 = .ok (.invokevirtual 96, 3) := by decide +kernel
theorem dX1_smallestRoom_12 : decode cX1_smallestRoom 12 = .ok (.if_icmp .ge 42, 3) := by decide +kernel
theorem dX1_smallestRoom_15 : decode cX1_smallestRoom 15 = .ok (.aload_n 0, 1) := by decide +kernel
theorem dX1_smallestRoom_16 : decode cX1_smallestRoom 16 = .ok (.getfield 35, 3) := by decide +kernel
theorem dX1_smallestRoom_19 : decode cX1_smallestRoom 19 = .ok (.iload_n 3, 1) := by decide +kernel
theorem dX1_smallestRoom_20 : decode cX1_smallestRoom 20 = .ok (.iaload, 1) := by decide +kernel
theorem dX1_smallestRoom_21 : decode cX1_smallestRoom 21 = .ok (.iconst (-1), 1) := by decide +kernel
theorem dX1_smallestRoom_22 : decode cX1_smallestRoom 22 = .ok (.if_icmp .eq 26, 3) := by decide +kernel
theorem dX1_smallestRoom_25 : decode cX1_smallestRoom 25 = .ok (.aload_n 0, 1) := by decide +kernel
theorem dX1_smallestRoom_26 : decode cX1_smallestRoom 26 = .ok (.getfield 29, 3) := by decide +kernel
theorem dX1_smallestRoom_29 : decode cX1_smallestRoom 29 = .ok (.iload_n 1, 1) := by decide +kernel
theorem dX1_smallestRoom_30 : decode cX1_smallestRoom 30 = .ok (.iload_n 3, 1) := by decide +kernel
theorem dX1_smallestRoom_31 : decode cX1_smallestRoom 31 = .ok (.invokevirtual 170, 3) := by decide +kernel
theorem dX1_smallestRoom_34 : decode cX1_smallestRoom 34 = .ok (.ifCond .eq 14, 3) := by decide +kernel
theorem dX1_smallestRoom_37 : decode cX1_smallestRoom 37 = .ok (.iload_n 2, 1) := by decide +kernel
theorem dX1_smallestRoom_38 : decode cX1_smallestRoom 38 = .ok (.iconst 1, 1) := by decide +kernel
theorem dX1_smallestRoom_39 : decode cX1_smallestRoom 39 = .ok (.aload_n 0, 1) := by decide +kernel
theorem dX1_smallestRoom_40 : decode cX1_smallestRoom 40 = .ok (.getfield 35, 3) := by decide +kernel
theorem dX1_smallestRoom_43 : decode cX1_smallestRoom 43 = .ok (.iload_n 3, 1) := by decide +kernel
theorem dX1_smallestRoom_44 : decode cX1_smallestRoom 44 = .ok (.iaload, 1) := by decide +kernel
theorem dX1_smallestRoom_45 : decode cX1_smallestRoom 45 = .ok (.ishl, 1) := by decide +kernel
theorem dX1_smallestRoom_46 : decode cX1_smallestRoom 46 = .ok (.ior, 1) := by decide +kernel
theorem dX1_smallestRoom_47 : decode cX1_smallestRoom 47 = .ok (.istore_n 2, 1) := by decide +kernel
theorem dX1_smallestRoom_48 : decode cX1_smallestRoom 48 = .ok (.iinc 3 1, 3) := by decide +kernel
theorem dX1_smallestRoom_51 : decode cX1_smallestRoom 51 = .ok (.goto (-47), 3) := by decide +kernel
theorem dX1_smallestRoom_54 : decode cX1_smallestRoom 54 = .ok (.iconst 0, 1) := by decide +kernel
theorem dX1_smallestRoom_55 : decode cX1_smallestRoom 55 = .ok (.istore_n 3, 1) := by decide +kernel
theorem dX1_smallestRoom_56 : decode cX1_smallestRoom 56 = .ok (.iload_n 3, 1) := by decide +kernel
theorem dX1_smallestRoom_57 : decode cX1_smallestRoom 57 = .ok (.bipush 8, 2) := by decide +kernel
theorem dX1_smallestRoom_59 : decode cX1_smallestRoom 59 = .ok (.if_icmp .ge 18, 3) := by decide +kernel
theorem dX1_smallestRoom_62 : decode cX1_smallestRoom 62 = .ok (.iload_n 2, 1) := by decide +kernel
theorem dX1_smallestRoom_63 : decode cX1_smallestRoom 63 = .ok (.iload_n 3, 1) := by decide +kernel
theorem dX1_smallestRoom_64 : decode cX1_smallestRoom 64 = .ok (.ishr, 1) := by decide +kernel
theorem dX1_smallestRoom_65 : decode cX1_smallestRoom 65 = .ok (.iconst 1, 1) := by decide +kernel
theorem dX1_smallestRoom_66 : decode cX1_smallestRoom 66 = .ok (.iand, 1) := by decide +kernel
theorem dX1_smallestRoom_67 : decode cX1_smallestRoom 67 = .ok (.iconst 1, 1) := by decide +kernel
theorem dX1_smallestRoom_68 : decode cX1_smallestRoom 68 = .ok (.if_icmp .ne 9, 3) := by decide +kernel
theorem dX1_smallestRoom_71 : decode cX1_smallestRoom 71 = .ok (.iinc 3 1, 3) := by decide +kernel
theorem dX1_smallestRoom_74 : decode cX1_smallestRoom 74 = .ok (.goto (-18), 3) := by decide +kernel
theorem dX1_smallestRoom_77 : decode cX1_smallestRoom 77 = .ok (.iload_n 3, 1) := by decide +kernel
theorem dX1_smallestRoom_78 : decode cX1_smallestRoom 78 = .ok (.ireturn, 1) := by decide +kernel
theorem dX1_findRooms_0 : decode cX1_findRooms 0 = .ok (.iconst 0, 1) := by decide +kernel
theorem dX1_findRooms_1 : decode cX1_findRooms 1 = .ok (.istore_n 1, 1) := by decide +kernel
theorem dX1_findRooms_2 : decode cX1_findRooms 2 = .ok (.iload_n 1, 1) := by decide +kernel
theorem dX1_findRooms_3 : decode cX1_findRooms 3 = .ok (.bipush 11, 2) := by decide +kernel
theorem dX1_findRooms_5 : decode cX1_findRooms 5 = .ok (.if_icmp .ge 16, 3) := by decide +kernel
theorem dX1_findRooms_8 : decode cX1_findRooms 8 = .ok (.aload_n 0, 1) := by decide +kernel
theorem dX1_findRooms_9 : decode cX1_findRooms 9 = .ok (.getfield 35, 3) := by decide +kernel
theorem dX1_findRooms_12 : decode cX1_findRooms 12 = .ok (.iload_n 1, 1) := by decide +kernel
theorem dX1_findRooms_13 : decode cX1_findRooms 13 = .ok (.iconst (-1), 1) := by decide +kernel
theorem dX1_findRooms_14 : decode cX1_findRooms 14 = .ok (.iastore, 1) := by decide +kernel
theorem dX1_findRooms_15 : decode cX1_findRooms 15 = .ok (.iinc 1 1, 3) := by decide +kernel
theorem dX1_findRooms_18 : decode cX1_findRooms 18 = .ok (.goto (-16), 3) := by decide +kernel
theorem dX1_findRooms_21 : decode cX1_findRooms 21 = .ok (.iconst 0, 1) := by decide +kernel
theorem dX1_findRooms_22 : decode cX1_findRooms 22 = .ok (.istore_n 1, 1) := by decide +kernel
theorem dX1_findRooms_23 : decode cX1_findRooms 23 = .ok (.iload_n 1, 1) := by decide +kernel
theorem dX1_findRooms_24 : decode cX1_findRooms 24 = .ok (.aload_n 0, 1) := by decide +kernel
theorem dX1_findRooms_25 : decode cX1_findRooms 25 = .ok (.getfield 29, 3) := by decide +kernel
theorem dX1_findRooms_28 : decode cX1_findRooms 28 = .ok (.invokevirtual 96, 3) := by decide +kernel
theorem dX1_findRooms_31 : decode cX1_findRooms 31 = .ok (.if_icmp .ge 30, 3) := by decide +kernel
theorem dX1_findRooms_34 : decode cX1_findRooms 34 = .ok (.aload_n 0, 1) := by decide +kernel
theorem dX1_findRooms_35 : decode cX1_findRooms 35 = .ok (.invokevirtual 308, 3) := by decide +kernel
theorem dX1_findRooms_38 : decode cX1_findRooms 38 = .ok (.istore_n 2, 1) := by decide +kernel
theorem dX1_findRooms_39 : decode cX1_findRooms 39 = .ok (.iload_n 2, 1) := by decide +kernel
theorem dX1_findRooms_40 : decode cX1_findRooms 40 = .ok (.iconst (-1), 1) := by decide +kernel
theorem dX1_findRooms_41 : decode cX1_findRooms 41 = .ok (.if_icmp .eq 14, 3) := by decide +kernel
theorem dX1_findRooms_44 : decode cX1_findRooms 44 = .ok (.aload_n 0, 1) := by decide +kernel
theorem dX1_findRooms_45 : decode cX1_findRooms 45 = .ok (.getfield 35, 3) := by decide +kernel
theorem dX1_findRooms_48 : decode cX1_findRooms 48 = .ok (.iload_n 2, 1) := by decide +kernel
theorem dX1_findRooms_49 : decode cX1_findRooms 49 = .ok (.aload_n 0, 1) := by decide +kernel
theorem dX1_findRooms_50 : decode cX1_findRooms 50 = .ok (.iload_n 2, 1) := by decide +kernel
theorem dX1_findRooms_51 : decode cX1_findRooms 51 = .ok (.invokevirtual 311, 3) := by decide +kernel
theorem dX1_findRooms_54 : decode cX1_findRooms 54 = .ok (.iastore, 1) := by decide +kernel
theorem dX1_findRooms_55 : decode cX1_findRooms 55 = .ok (.iinc 1 1, 3) := by decide +kernel
theorem dX1_findRooms_58 : decode cX1_findRooms 58 = .ok (.goto (-35), 3) := by decide +kernel
theorem dX1_findRooms_61 : decode cX1_findRooms 61 = .ok (.return_, 1) := by decide +kernel
theorem dX1_roomCount_0 : decode cX1_roomCount 0 = .ok (.iconst 0, 1) := by decide +kernel
theorem dX1_roomCount_1 : decode cX1_roomCount 1 = .ok (.istore_n 1, 1) := by decide +kernel
theorem dX1_roomCount_2 : decode cX1_roomCount 2 = .ok (.iconst 0, 1) := by decide +kernel
theorem dX1_roomCount_3 : decode cX1_roomCount 3 = .ok (.istore_n 2, 1) := by decide +kernel
theorem dX1_roomCount_4 : decode cX1_roomCount 4 = .ok (.iload_n 2, 1) := by decide +kernel
theorem dX1_roomCount_5 : decode cX1_roomCount 5 = .ok (.aload_n 0, 1) := by decide +kernel
theorem dX1_roomCount_6 : decode cX1_roomCount 6 = .ok (.getfield 29, 3) := by decide +kernel
theorem dX1_roomCount_9 : decode cX1_roomCount 9 = .ok (.invokevirtual 96, 3) := by decide +kernel
theorem dX1_roomCount_12 : decode cX1_roomCount 12 = .ok (.if_icmp .ge 22, 3) := by decide +kernel
theorem dX1_roomCount_15 : decode cX1_roomCount 15 = .ok (.iload_n 1, 1) := by decide +kernel
theorem dX1_roomCount_16 : decode cX1_roomCount 16 = .ok (.aload_n 0, 1) := by decide +kernel
theorem dX1_roomCount_17 : decode cX1_roomCount 17 = .ok (.getfield 35, 3) := by decide +kernel
theorem dX1_roomCount_20 : decode cX1_roomCount 20 = .ok (.iload_n 2, 1) := by decide +kernel
theorem dX1_roomCount_21 : decode cX1_roomCount 21 = .ok (.iaload, 1) := by decide +kernel
theorem dX1_roomCount_22 : decode cX1_roomCount 22 = .ok (.iconst 1, 1) := by decide +kernel
theorem dX1_roomCount_23 : decode cX1_roomCount 23 = .ok (.iadd, 1) := by decide +kernel
theorem dX1_roomCount_24 : decode cX1_roomCount 24 = .ok (.invokestatic 314, 3) := by decide +kernel
theorem dX1_roomCount_27 : decode cX1_roomCount 27 = .ok (.istore_n 1, 1) := by decide +kernel
theorem dX1_roomCount_28 : decode cX1_roomCount 28 = .ok (.iinc 2 1, 3) := by decide +kernel
theorem dX1_roomCount_31 : decode cX1_roomCount 31 = .ok (.goto (-27), 3) := by decide +kernel
theorem dX1_roomCount_34 : decode cX1_roomCount 34 = .ok (.iload_n 1, 1) := by decide +kernel
theorem dX1_roomCount_35 : decode cX1_roomCount 35 = .ok (.ireturn, 1) := by decide +kernel
