theorem dJ9_floorDiv_f86c9_0 : decode cJ9_floorDiv_f86c9 0 = .ok (.lload_n 0, 1) := by decide +kernel
theorem dJ9_floorDiv_f86c9_1 : decode cJ9_floorDiv_f86c9 1 = .ok (.lload_n 2, 1) := by decide +kernel
theorem dJ9_floorDiv_f86c9_2 : decode cJ9_floorDiv_f86c9 2 = .ok (.ldiv, 1) := by decide +kernel
theorem dJ9_floorDiv_f86c9_3 : decode cJ9_floorDiv_f86c9 3 = .ok (.lstore 4, 2) := by decide +kernel
theorem dJ9_floorDiv_f86c9_5 : decode cJ9_floorDiv_f86c9 5 = .ok (.lload_n 0, 1) := by decide +kernel
theorem dJ9_floorDiv_f86c9_6 : decode cJ9_floorDiv_f86c9 6 = .ok (.lload_n 2, 1) := by decide +kernel
theorem dJ9_floorDiv_f86c9_7 : decode cJ9_floorDiv_f86c9 7 = .ok (.lxor, 1) := by decide +kernel
theorem dJ9_floorDiv_f86c9_8 : decode cJ9_floorDiv_f86c9 8 = .ok (.lconst 0, 1) := by decide +kernel
theorem dJ9_floorDiv_f86c9_9 : decode cJ9_floorDiv_f86c9 9 = .ok (.lcmp, 1) := by decide +kernel
theorem dJ9_floorDiv_f86c9_10 : decode cJ9_floorDiv_f86c9 10 = .ok (.ifCond .ge 17, 3) := by decide +kernel
theorem dJ9_floorDiv_f86c9_13 : decode cJ9_floorDiv_f86c9 13 = .ok (.lload 4, 2) := by decide +kernel
theorem dJ9_floorDiv_f86c9_15 : decode cJ9_floorDiv_f86c9 15 = .ok (.lload_n 2, 1) := by decide +kernel
theorem dJ9_floorDiv_f86c9_16 : decode cJ9_floorDiv_f86c9 16 = .ok (.lmul, 1) := by decide +kernel
theorem dJ9_floorDiv_f86c9_17 : decode cJ9_floorDiv_f86c9 17 = .ok (.lload_n 0, 1) := by decide +kernel
theorem dJ9_floorDiv_f86c9_18 : decode cJ9_floorDiv_f86c9 18 = .ok (.lcmp, 1) := by decide +kernel
theorem dJ9_floorDiv_f86c9_19 : decode cJ9_floorDiv_f86c9 19 = .ok (.ifCond .eq 8, 3) := by decide +kernel
theorem dJ9_floorDiv_f86c9_22 : decode cJ9_floorDiv_f86c9 22 = .ok (.lload 4, 2) := by decide +kernel
theorem dJ9_floorDiv_f86c9_24 : decode cJ9_floorDiv_f86c9 24 = .ok (.lconst 1, 1) := by decide +kernel
theorem dJ9_floorDiv_f86c9_25 : decode cJ9_floorDiv_f86c9 25 = .ok (.lsub, 1) := by decide +kernel
theorem dJ9_floorDiv_f86c9_26 : decode cJ9_floorDiv_f86c9 26 = .ok (.lreturn, 1) := by decide +kernel
theorem dJ9_floorDiv_f86c9_27 : decode cJ9_floorDiv_f86c9 27 = .ok (.lload 4, 2) := by decide +kernel
theorem dJ9_floorDiv_f86c9_29 : decode cJ9_floorDiv_f86c9 29 = .ok (.lreturn, 1) := by decide +kernel
theorem dJ9_floorMod_f86c9_0 : decode cJ9_floorMod_f86c9 0 = .ok (.lload_n 0, 1) := by decide +kernel
theorem dJ9_floorMod_f86c9_1 : decode cJ9_floorMod_f86c9 1 = .ok (.lload_n 2, 1) := by decide +kernel
theorem dJ9_floorMod_f86c9_2 : decode cJ9_floorMod_f86c9 2 = .ok (.lrem, 1) := by decide +kernel
theorem dJ9_floorMod_f86c9_3 : decode cJ9_floorMod_f86c9 3 = .ok (.lstore 4, 2) := by decide +kernel
theorem dJ9_floorMod_f86c9_5 : decode cJ9_floorMod_f86c9 5 = .ok (.lload_n 0, 1) := by decide +kernel
theorem dJ9_floorMod_f86c9_6 : decode cJ9_floorMod_f86c9 6 = .ok (.lload_n 2, 1) := by decide +kernel
theorem dJ9_floorMod_f86c9_7 : decode cJ9_floorMod_f86c9 7 = .ok (.lxor, 1) := by decide +kernel
theorem dJ9_floorMod_f86c9_8 : decode cJ9_floorMod_f86c9 8 = .ok (.lconst 0, 1) := by decide +kernel
theorem dJ9_floorMod_f86c9_9 : decode cJ9_floorMod_f86c9 9 = .ok (.lcmp, 1) := by decide +kernel
theorem dJ9_floorMod_f86c9_10 : decode cJ9_floorMod_f86c9 10 = .ok (.ifCond .ge 15, 3) := by decide +kernel
theorem dJ9_floorMod_f86c9_13 : decode cJ9_floorMod_f86c9 13 = .ok (.lload 4, 2) := by decide +kernel
theorem dJ9_floorMod_f86c9_15 : decode cJ9_floorMod_f86c9 15 = .ok (.lconst 0, 1) := by decide +kernel
theorem dJ9_floorMod_f86c9_16 : decode cJ9_floorMod_f86c9 16 = .ok (.lcmp, 1) := by decide +kernel
theorem dJ9_floorMod_f86c9_17 : decode cJ9_floorMod_f86c9 17 = .ok (.ifCond .eq 8, 3) := by decide +kernel
theorem dJ9_floorMod_f86c9_20 : decode cJ9_floorMod_f86c9 20 = .ok (.lload 4, 2) := by decide +kernel
theorem dJ9_floorMod_f86c9_22 : decode cJ9_floorMod_f86c9 22 = .ok (.lload_n 2, 1) := by decide +kernel
theorem dJ9_floorMod_f86c9_23 : decode cJ9_floorMod_f86c9 23 = .ok (.ladd, 1) := by decide +kernel
theorem dJ9_floorMod_f86c9_24 : decode cJ9_floorMod_f86c9 24 = .ok (.lreturn, 1) := by decide +kernel
theorem dJ9_floorMod_f86c9_25 : decode cJ9_floorMod_f86c9 25 = .ok (.lload 4, 2) := by decide +kernel
theorem dJ9_floorMod_f86c9_27 : decode cJ9_floorMod_f86c9 27 = .ok (.lreturn, 1) := by decide +kernel
theorem dJ6_bitCount_0f7a4_0 : decode cJ6_bitCount_0f7a4 0 = .ok (.iload_n 0, 1) := by decide +kernel
theorem dJ6_bitCount_0f7a4_1 : decode cJ6_bitCount_0f7a4 1 = .ok (.iload_n 0, 1) := by decide +kernel
theorem dJ6_bitCount_0f7a4_2 : decode cJ6_bitCount_0f7a4 2 = .ok (.iconst 1, 1) := by decide +kernel
theorem dJ6_bitCount_0f7a4_3 : decode cJ6_bitCount_0f7a4 3 = .ok (.iushr, 1) := by decide +kernel
theorem dJ6_bitCount_0f7a4_4 : decode cJ6_bitCount_0f7a4 4 = .ok (.ldc_w 265, 3) := by decide +kernel
theorem dJ6_bitCount_0f7a4_7 : decode cJ6_bitCount_0f7a4 7 = .ok (.iand, 1) := by decide +kernel
theorem dJ6_bitCount_0f7a4_8 : decode cJ6_bitCount_0f7a4 8 = .ok (.isub, 1) := by decide +kernel
theorem dJ6_bitCount_0f7a4_9 : decode cJ6_bitCount_0f7a4 9 = .ok (.istore_n 0, 1) := by decide +kernel
theorem dJ6_bitCount_0f7a4_10 : decode cJ6_bitCount_0f7a4 10 = .ok (.iload_n 0, 1) := by decide +kernel
theorem dJ6_bitCount_0f7a4_11 : decode cJ6_bitCount_0f7a4 11 = .ok (.ldc_w 266, 3) := by decide +kernel
theorem dJ6_bitCount_0f7a4_14 : decode cJ6_bitCount_0f7a4 14 = .ok (.iand, 1) := by decide +kernel
theorem dJ6_bitCount_0f7a4_15 : decode cJ6_bitCount_0f7a4 15 = .ok (.iload_n 0, 1) := by decide +kernel
theorem dJ6_bitCount_0f7a4_16 : decode cJ6_bitCount_0f7a4 16 = .ok (.iconst 2, 1) := by decide +kernel
theorem dJ6_bitCount_0f7a4_17 : decode cJ6_bitCount_0f7a4 17 = .ok (.iushr, 1) := by decide +kernel
theorem dJ6_bitCount_0f7a4_18 : decode cJ6_bitCount_0f7a4 18 = .ok (.ldc_w 266, 3) := by decide +kernel
theorem dJ6_bitCount_0f7a4_21 : decode cJ6_bitCount_0f7a4 21 = .ok (.iand, 1) := by decide +kernel
theorem dJ6_bitCount_0f7a4_22 : decode cJ6_bitCount_0f7a4 22 = .ok (.iadd, 1) := by decide +kernel
theorem dJ6_bitCount_0f7a4_23 : decode cJ6_bitCount_0f7a4 23 = .ok (.istore_n 0, 1) := by decide +kernel
theorem dJ6_bitCount_0f7a4_24 : decode cJ6_bitCount_0f7a4 24 = .ok (.iload_n 0, 1) := by decide +kernel
theorem dJ6_bitCount_0f7a4_25 : decode cJ6_bitCount_0f7a4 25 = .ok (.iload_n 0, 1) := by decide +kernel
theorem dJ6_bitCount_0f7a4_26 : decode cJ6_bitCount_0f7a4 26 = .ok (.iconst 4, 1) := by decide +kernel
theorem dJ6_bitCount_0f7a4_27 : decode cJ6_bitCount_0f7a4 27 = .ok (.iushr, 1) := by decide +kernel
theorem dJ6_bitCount_0f7a4_28 : decode cJ6_bitCount_0f7a4 28 = .ok (.iadd, 1) := by decide +kernel
theorem dJ6_bitCount_0f7a4_29 : decode cJ6_bitCount_0f7a4 29 = .ok (.ldc_w 267, 3) := by decide +kernel
theorem dJ6_bitCount_0f7a4_32 : decode cJ6_bitCount_0f7a4 32 = .ok (.iand, 1) := by decide +kernel
theorem dJ6_bitCount_0f7a4_33 : decode cJ6_bitCount_0f7a4 33 = .ok (.istore_n 0, 1) := by decide +kernel
theorem dJ6_bitCount_0f7a4_34 : decode cJ6_bitCount_0f7a4 34 = .ok (.iload_n 0, 1) := by decide +kernel
theorem dJ6_bitCount_0f7a4_35 : decode cJ6_bitCount_0f7a4 35 = .ok (.iload_n 0, 1) := by decide +kernel
theorem dJ6_bitCount_0f7a4_36 : decode cJ6_bitCount_0f7a4 36 = .ok (.bipush 8, 2) := by decide +kernel
theorem dJ6_bitCount_0f7a4_38 : decode cJ6_bitCount_0f7a4 38 = .ok (.iushr, 1) := by decide +kernel
theorem dJ6_bitCount_0f7a4_39 : decode cJ6_bitCount_0f7a4 39 = .ok (.iadd, 1) := by decide +kernel
theorem dJ6_bitCount_0f7a4_40 : decode cJ6_bitCount_0f7a4 40 = .ok (.istore_n 0, 1) := by decide +kernel
theorem dJ6_bitCount_0f7a4_41 : decode cJ6_bitCount_0f7a4 41 = .ok (.iload_n 0, 1) := by decide +kernel
theorem dJ6_bitCount_0f7a4_42 : decode cJ6_bitCount_0f7a4 42 = .ok (.iload_n 0, 1) := by decide +kernel
theorem dJ6_bitCount_0f7a4_43 : decode cJ6_bitCount_0f7a4 43 = .ok (.bipush 16, 2) := by decide +kernel
theorem dJ6_bitCount_0f7a4_45 : decode cJ6_bitCount_0f7a4 45 = .ok (.iushr, 1) := by decide +kernel
theorem dJ6_bitCount_0f7a4_46 : decode cJ6_bitCount_0f7a4 46 = .ok (.iadd, 1) := by decide +kernel
theorem dJ6_bitCount_0f7a4_47 : decode cJ6_bitCount_0f7a4 47 = .ok (.istore_n 0, 1) := by decide +kernel
theorem dJ6_bitCount_0f7a4_48 : decode cJ6_bitCount_0f7a4 48 = .ok (.iload_n 0, 1) := by decide +kernel
theorem dJ6_bitCount_0f7a4_49 : decode cJ6_bitCount_0f7a4 49 = .ok (.bipush 63, 2) := by decide +kernel
theorem dJ6_bitCount_0f7a4_51 : decode cJ6_bitCount_0f7a4 51 = .ok (.iand, 1) := by decide +kernel
theorem dJ6_bitCount_0f7a4_52 : decode cJ6_bitCount_0f7a4 52 = .ok (.ireturn, 1) := by decide +kernel
theorem dX0_count_0 : decode cX0_count 0 = .ok (.aload_n 0, 1) := by decide +kernel
theorem dX0_count_1 : decode cX0_count 1 = .ok (.getfield 22, 3) := by decide +kernel
theorem dX0_count_4 : decode cX0_count 4 = .ok (.ireturn, 1) := by decide +kernel
theorem dX0_isIn_0 : decode cX0_isIn 0 = .ok (.iload_n 1, 1) := by decide +kernel
theorem dX0_isIn_1 : decode cX0_isIn 1 = .ok (.ifCond .lt 15, 3) := by decide +kernel
theorem dX0_isIn_4 : decode cX0_isIn 4 = .ok (.iload_n 1, 1) := by decide +kernel
theorem dX0_isIn_5 : decode cX0_isIn 5 = .ok (.aload_n 0, 1) := by decide +kernel
theorem dX0_isIn_6 : decode cX0_isIn 6 = .ok (.getfield 22, 3) := by decide +kernel
theorem dX0_isIn_9 : decode cX0_isIn 9 = .ok (.if_icmp .ge 7, 3) := by decide +kernel
theorem dX0_isIn_12 : decode cX0_isIn 12 = .ok (.iconst 1, 1) := by decide +kernel
theorem dX0_isIn_13 : decode cX0_isIn 13 = .ok (.goto 4, 3) := by decide +kernel
theorem dX0_isIn_16 : decode cX0_isIn 16 = .ok (.iconst 0, 1) := by decide +kernel
theorem dX0_isIn_17 : decode cX0_isIn 17 = .ok (.ireturn, 1) := by decide +kernel
theorem dX0_begin_0 : decode cX0_begin 0 = .ok (.aload_n 0, 1) := by decide +kernel
theorem dX0_begin_1 : decode cX0_begin 1 = .ok (.iload_n 1, 1) := by decide +kernel
theorem dX0_begin_2 : decode cX0_begin 2 = .ok (.invokevirtual 26, 3) := by decide +kernel
theorem dX0_begin_5 : decode cX0_begin 5 = .ok (.ifCond .eq 12, 3) := by decide +kernel
theorem dX0_begin_8 : decode cX0_begin 8 = .ok (.aload_n 0, 1) := by decide +kernel
theorem dX0_begin_9 : decode cX0_begin 9 = .ok (.getfield 9, 3) := by decide +kernel
theorem dX0_begin_12 : decode cX0_begin 12 = .ok (.iload_n 1, 1) := by decide +kernel
theorem dX0_begin_13 : decode cX0_begin 13 = .ok (.laload, 1) := by decide +kernel
theorem dX0_begin_14 : decode cX0_begin 14 = .ok (.goto 4, 3) := by decide +kernel
theorem dX0_begin_17 : decode cX0_begin 17 = .ok (.lconst 0, 1) := by decide +kernel
theorem dX0_begin_18 : decode cX0_begin 18 = .ok (.lreturn, 1) := by decide +kernel
theorem dX0_end_0 : decode cX0_end 0 = .ok (.aload_n 0, 1) := by decide +kernel
theorem dX0_end_1 : decode cX0_end 1 = .ok (.iload_n 1, 1) := by decide +kernel
theorem dX0_end_2 : decode cX0_end 2 = .ok (.invokevirtual 26, 3) := by decide +kernel
theorem dX0_end_5 : decode cX0_end 5 = .ok (.ifCond .eq 12, 3) := by decide +kernel
theorem dX0_end_8 : decode cX0_end 8 = .ok (.aload_n 0, 1) := by decide +kernel
theorem dX0_end_9 : decode cX0_end 9 = .ok (.getfield 15, 3) := by decide +kernel
theorem dX0_end_12 : decode cX0_end 12 = .ok (.iload_n 1, 1) := by decide +kernel
theorem dX0_end_13 : decode cX0_end 13 = .ok (.laload, 1) := by decide +kernel
theorem dX0_end_14 : decode cX0_end 14 = .ok (.goto 4, 3) := by decide +kernel
theorem dX0_end_17 : decode cX0_end 17 = .ok (.lconst 0, 1) := by decide +kernel
theorem dX0_end_18 : decode cX0_end 18 = .ok (.lreturn, 1) := by decide +kernel
theorem dX0_isOver_0 : decode cX0_isOver 0 = .ok (.aload_n 0, 1) := by decide +kernel
theorem dX0_isOver_1 : decode cX0_isOver 1 = .ok (.iload_n 1, 1) := by decide +kernel
theorem dX0_isOver_2 : decode cX0_isOver 2 = .ok (.invokevirtual 26, 3) := by decide +kernel
theorem dX0_isOver_5 : decode cX0_isOver 5 = .ok (.ifCond .eq 16, 3) := by decide +kernel
theorem dX0_isOver_8 : decode cX0_isOver 8 = .ok (.aload_n 0, 1) := by decide +kernel
theorem dX0_isOver_9 : decode cX0_isOver 9 = .ok (.getfield 18, 3) := by decide +kernel
theorem dX0_isOver_12 : decode cX0_isOver 12 = .ok (.iload_n 1, 1) := by decide +kernel
theorem dX0_isOver_13 : decode cX0_isOver 13 = .ok (.baload, 1) := by decide +kernel
theorem dX0_isOver_14 : decode cX0_isOver 14 = .ok (.ifCond .eq 7, 3) := by decide +kernel
theorem dX0_isOver_17 : decode cX0_isOver 17 = .ok (.iconst 1, 1) := by decide +kernel
theorem dX0_isOver_18 : decode cX0_isOver 18 = .ok (.goto 4, 3) := by decide +kernel
theorem dX0_isOver_21 : decode cX0_isOver 21 = .ok (.iconst 0, 1) := by decide +kernel
theorem dX0_isOver_22 : decode cX0_isOver 22 = .ok (.ireturn, 1) := by decide +kernel
theorem dX0_clear_0 : decode cX0_clear 0 = .ok (.aload_n 0, 1) := by decide +kernel
theorem dX0_clear_1 : decode cX0_clear 1 = .ok (.getfield 22, 3) := by decide +kernel
theorem dX0_clear_4 : decode cX0_clear 4 = .ok (.istore_n 1, 1) := by decide +kernel
theorem dX0_clear_5 : decode cX0_clear 5 = .ok (.aload_n 0, 1) := by decide +kernel
theorem dX0_clear_6 : decode cX0_clear 6 = .ok (.iconst 0, 1) := by decide +kernel
theorem dX0_clear_7 : decode cX0_clear 7 = .ok (.putfield 22, 3) := by decide +kernel
theorem dX0_clear_10 : decode cX0_clear 10 = .ok (.iload_n 1, 1) := by decide +kernel
theorem dX0_clear_11 : decode cX0_clear 11 = .ok (.ireturn, 1) := by decide +kernel
theorem dX0_add_0 : decode cX0_add 0 = .ok (.aload_n 0, 1) := by decide +kernel
theorem dX0_add_1 : decode cX0_add 1 = .ok (.getfield 22, 3) := by decide +kernel
theorem dX0_add_4 : decode cX0_add 4 = .ok (.bipush 11, 2) := by decide +kernel
theorem dX0_add_6 : decode cX0_add 6 = .ok (.if_icmp .lt 5, 3) := by decide +kernel
theorem dX0_add_9 : decode cX0_add 9 = .ok (.iconst (-1), 1) := by decide +kernel
theorem dX0_add_10 : decode cX0_add 10 = .ok (.ireturn, 1) := by decide +kernel
theorem dX0_add_11 : decode cX0_add 11 = .ok (.aload_n 0, 1) := by decide +kernel
theorem dX0_add_12 : decode cX0_add 12 = .ok (.getfield 9, 3) := by decide +kernel
theorem dX0_add_15 : decode cX0_add 15 = .ok (.aload_n 0, 1) := by decide +kernel
theorem dX0_add_16 : decode cX0_add 16 = .ok (.getfield 22, 3) := by decide +kernel
theorem dX0_add_19 : decode cX0_add 19 = .ok (.lload_n 1, 1) := by decide +kernel
theorem dX0_add_20 : decode cX0_add 20 = .ok (.lastore, 1) := by decide +kernel
theorem dX0_add_21 : decode cX0_add 21 = .ok (.aload_n 0, 1) := by decide +kernel
theorem dX0_add_22 : decode cX0_add 22 = .ok (.getfield 15, 3) := by decide +kernel
theorem dX0_add_25 : decode cX0_add 25 = .ok (.aload_n 0, 1) := by decide +kernel
theorem dX0_add_26 : decode cX0_add 26 = .ok (.getfield 22, 3) := by decide +kernel
theorem dX0_add_29 : decode cX0_add 29 = .ok (.lload_n 3, 1) := by decide +kernel
theorem dX0_add_30 : decode cX0_add 30 = .ok (.lastore, 1) := by decide +kernel
theorem dX0_add_31 : decode cX0_add 31 = .ok (.aload_n 0, 1) := by decide +kernel
theorem dX0_add_32 : decode cX0_add 32 = .ok (.getfield 18, 3) := by decide +kernel
theorem dX0_add_35 : decode cX0_add 35 = .ok (.aload_n 0, 1) := by decide +kernel
theorem dX0_add_36 : decode cX0_add 36 = .ok (.getfield 22, 3) := by decide +kernel
theorem dX0_add_39 : decode cX0_add 39 = .ok (.iload 5, 2) := by decide +kernel
theorem dX0_add_41 : decode cX0_add 41 = .ok (.bastore, 1) := by decide +kernel
theorem dX0_add_42 : decode cX0_add 42 = .ok (.aload_n 0, 1) := by decide +kernel
theorem dX0_add_43 : decode cX0_add 43 = .ok (.dup, 1) := by decide +kernel
theorem dX0_add_44 : decode cX0_add 44 = .ok (.getfield 22, 3) := by decide +kernel
theorem dX0_add_47 : decode cX0_add 47 = .ok (.iconst 1, 1) := by decide +kernel
theorem dX0_add_48 : decode cX0_add 48 = .ok (.iadd, 1) := by decide +kernel
theorem dX0_add_49 : decode cX0_add 49 = .ok (.putfield 22, 3) := by decide +kernel
theorem dX0_add_52 : decode cX0_add 52 = .ok (.aload_n 0, 1) := by decide +kernel
theorem dX0_add_53 : decode cX0_add 53 = .ok (.getfield 22, 3) := by decide +kernel
theorem dX0_add_56 : decode cX0_add 56 = .ok (.iconst 1, 1) := by decide +kernel
theorem dX0_add_57 : decode cX0_add 57 = .ok (.isub, 1) := by decide +kernel
theorem dX0_add_58 : decode cX0_add 58 = .ok (.ireturn, 1) := by decide +kernel
theorem dX0_remove_0 : decode cX0_remove 0 = .ok (.aload_n 0, 1) := by decide +kernel
theorem dX0_remove_1 : decode cX0_remove 1 = .ok (.iload_n 1, 1) := by decide +kernel
theorem dX0_remove_2 : decode cX0_remove 2 = .ok (.invokevirtual 26, 3) := by decide +kernel
theorem dX0_remove_5 : decode cX0_remove 5 = .ok (.ifCond .eq 71, 3) := by decide +kernel
theorem dX0_remove_8 : decode cX0_remove 8 = .ok (.aload_n 0, 1) := by decide +kernel
theorem dX0_remove_9 : decode cX0_remove 9 = .ok (.dup, 1) := by decide +kernel
theorem dX0_remove_10 : decode cX0_remove 10 = .ok (.getfield 22, 3) := by decide +kernel
theorem dX0_remove_13 : decode cX0_remove 13 = .ok (.iconst 1, 1) := by decide +kernel
theorem dX0_remove_14 : decode cX0_remove 14 = .ok (.isub, 1) := by decide +kernel
theorem dX0_remove_15 : decode cX0_remove 15 = .ok (.putfield 22, 3) := by decide +kernel
theorem dX0_remove_18 : decode cX0_remove 18 = .ok (.iload_n 1, 1) := by decide +kernel
theorem dX0_remove_19 : decode cX0_remove 19 = .ok (.istore_n 2, 1) := by decide +kernel
theorem dX0_remove_20 : decode cX0_remove 20 = .ok (.iload_n 2, 1) := by decide +kernel
theorem dX0_remove_21 : decode cX0_remove 21 = .ok (.aload_n 0, 1) := by decide +kernel
theorem dX0_remove_22 : decode cX0_remove 22 = .ok (.getfield 22, 3) := by decide +kernel
theorem dX0_remove_25 : decode cX0_remove 25 = .ok (.if_icmp .ge 51, 3) := by decide +kernel
theorem dX0_remove_28 : decode cX0_remove 28 = .ok (.aload_n 0, 1) := by decide +kernel
theorem dX0_remove_29 : decode cX0_remove 29 = .ok (.getfield 9, 3) := by decide +kernel
theorem dX0_remove_32 : decode cX0_remove 32 = .ok (.iload_n 2, 1) := by decide +kernel
theorem dX0_remove_33 : decode cX0_remove 33 = .ok (.aload_n 0, 1) := by decide +kernel
theorem dX0_remove_34 : decode cX0_remove 34 = .ok (.getfield 9, 3) := by decide +kernel
theorem dX0_remove_37 : decode cX0_remove 37 = .ok (.iload_n 2, 1) := by decide +kernel
theorem dX0_remove_38 : decode cX0_remove 38 = .ok (.iconst 1, 1) := by decide +kernel
theorem dX0_remove_39 : decode cX0_remove 39 = .ok (.iadd, 1) := by decide +kernel
theorem dX0_remove_40 : decode cX0_remove 40 = .ok (.laload, 1) := by decide +kernel
theorem dX0_remove_41 : decode cX0_remove 41 = .ok (.lastore, 1) := by decide +kernel
theorem dX0_remove_42 : decode cX0_remove 42 = .ok (.aload_n 0, 1) := by decide +kernel
theorem dX0_remove_43 : decode cX0_remove 43 = .ok (.getfield 15, 3) := by decide +kernel
theorem dX0_remove_46 : decode cX0_remove 46 = .ok (.iload_n 2, 1) := by decide +kernel
theorem dX0_remove_47 : decode cX0_remove 47 = .ok (.aload_n 0, 1) := by decide +kernel
theorem dX0_remove_48 : decode cX0_remove 48 = .ok (.getfield 15, 3) := by decide +kernel
theorem dX0_remove_51 : decode cX0_remove 51 = .ok (.iload_n 2, 1) := by decide +kernel
theorem dX0_remove_52 : decode cX0_remove 52 = .ok (.iconst 1, 1) := by decide +kernel
theorem dX0_remove_53 : decode cX0_remove 53 = .ok (.iadd, 1) := by decide +kernel
theorem dX0_remove_54 : decode cX0_remove 54 = .ok (.laload, 1) := by decide +kernel
theorem dX0_remove_55 : decode cX0_remove 55 = .ok (.lastore, 1) := by decide +kernel
theorem dX0_remove_56 : decode cX0_remove 56 = .ok (.aload_n 0, 1) := by decide +kernel
theorem dX0_remove_57 : decode cX0_remove 57 = .ok (.getfield 18, 3) := by decide +kernel
theorem dX0_remove_60 : decode cX0_remove 60 = .ok (.iload_n 2, 1) := by decide +kernel
theorem dX0_remove_61 : decode cX0_remove 61 = .ok (.aload_n 0, 1) := by decide +kernel
theorem dX0_remove_62 : decode cX0_remove 62 = .ok (.getfield 18, 3) := by decide +kernel
theorem dX0_remove_65 : decode cX0_remove 65 = .ok (.iload_n 2, 1) := by decide +kernel
theorem dX0_remove_66 : decode cX0_remove 66 = .ok (.iconst 1, 1) := by decide +kernel
theorem dX0_remove_67 : decode cX0_remove 67 = .ok (.iadd, 1) := by decide +kernel
theorem dX0_remove_68 : decode cX0_remove 68 = .ok (.baload, 1) := by decide +kernel
theorem dX0_remove_69 : decode cX0_remove 69 = .ok (.bastore, 1) := by decide +kernel
theorem dX0_remove_70 : decode cX0_remove 70 = .ok (.iinc 2 1, 3) := by decide +kernel
theorem dX0_remove_73 : decode cX0_remove 73 = .ok (.goto (-53), 3) := by decide +kernel
theorem dX0_remove_76 : decode cX0_remove 76 = .ok (.aload_n 0, 1) := by decide +kernel
theorem dX0_remove_77 : decode cX0_remove 77 = .ok (.getfield 22, 3) := by decide +kernel
theorem dX0_remove_80 : decode cX0_remove 80 = .ok (.ireturn, 1) := by decide +kernel
theorem dX0_put_0 : decode cX0_put 0 = .ok (.aload_n 0, 1) := by decide +kernel
theorem dX0_put_1 : decode cX0_put 1 = .ok (.iload_n 1, 1) := by decide +kernel
theorem dX0_put_2 : decode cX0_put 2 = .ok (.invokevirtual 26, 3) := by decide +kernel
theorem dX0_put_5 : decode cX0_put 5 = .ok (.ifCond .eq 18, 3) := by decide +kernel
theorem dX0_put_8 : decode cX0_put 8 = .ok (.aload_n 0, 1) := by decide +kernel
theorem dX0_put_9 : decode cX0_put 9 = .ok (.getfield 9, 3) := by decide +kernel
theorem dX0_put_12 : decode cX0_put 12 = .ok (.iload_n 1, 1) := by decide +kernel
theorem dX0_put_13 : decode cX0_put 13 = .ok (.lload_n 2, 1) := by decide +kernel
theorem dX0_put_14 : decode cX0_put 14 = .ok (.lastore, 1) := by decide +kernel
theorem dX0_put_15 : decode cX0_put 15 = .ok (.aload_n 0, 1) := by decide +kernel
theorem dX0_put_16 : decode cX0_put 16 = .ok (.getfield 15, 3) := by decide +kernel
theorem dX0_put_19 : decode cX0_put 19 = .ok (.iload_n 1, 1) := by decide +kernel
theorem dX0_put_20 : decode cX0_put 20 = .ok (.lload 4, 2) := by decide +kernel
theorem dX0_put_22 : decode cX0_put 22 = .ok (.lastore, 1) := by decide +kernel
theorem dX0_put_23 : decode cX0_put 23 = .ok (.return_, 1) := by decide +kernel
theorem dX1_isLet_0 : decode cX1_isLet 0 = .ok (.lload_n 0, 1) := by decide +kernel
theorem dX1_isLet_1 : decode cX1_isLet 1 = .ok (.ldc2_w 280, 3) := by decide +kernel
theorem dX1_isLet_4 : decode cX1_isLet 4 = .ok (.lcmp, 1) := by decide +kernel
theorem dX1_isLet_5 : decode cX1_isLet 5 = .ok (.ifCond .lt 15, 3) := by decide +kernel
theorem dX1_isLet_8 : decode cX1_isLet 8 = .ok (.lload_n 0, 1) := by decide +kernel
theorem dX1_isLet_9 : decode cX1_isLet 9 = .ok (.ldc2_w 282, 3) := by decide +kernel
theorem dX1_isLet_12 : decode cX1_isLet 12 = .ok (.lcmp, 1) := by decide +kernel
theorem dX1_isLet_13 : decode cX1_isLet 13 = .ok (.ifCond .gt 7, 3) := by decide +kernel
theorem dX1_isLet_16 : decode cX1_isLet 16 = .ok (.iconst 1, 1) := by decide +kernel
theorem dX1_isLet_17 : decode cX1_isLet 17 = .ok (.goto 4, 3) := by decide +kernel
theorem dX1_isLet_20 : decode cX1_isLet 20 = .ok (.iconst 0, 1) := by decide +kernel
theorem dX1_isLet_21 : decode cX1_isLet 21 = .ok (.ireturn, 1) := by decide +kernel
theorem dX0_isLetAfter_0 : decode cX0_isLetAfter 0 = .ok (.iconst 0, 1) := by decide +kernel
theorem dX0_isLetAfter_1 : decode cX0_isLetAfter 1 = .ok (.istore_n 3, 1) := by decide +kernel
theorem dX0_isLetAfter_2 : decode cX0_isLetAfter 2 = .ok (.iload_n 3, 1) := by decide +kernel
theorem dX0_isLetAfter_3 : decode cX0_isLetAfter 3 = .ok (.aload_n 0, 1) := by decide +kernel
theorem dX0_isLetAfter_4 : decode cX0_isLetAfter 4 = .ok (.getfield 22, 3) := by decide +kernel
theorem dX0_isLetAfter_7 : decode cX0_isLetAfter 7 = .ok (.if_icmp .ge 39, 3) := by decide +kernel
theorem dX0_isLetAfter_10 : decode cX0_isLetAfter 10 = .ok (.aload_n 0, 1) := by decide +kernel
theorem dX0_isLetAfter_11 : decode cX0_isLetAfter 11 = .ok (.getfield 9, 3) := by decide +kernel
theorem dX0_isLetAfter_14 : decode cX0_isLetAfter 14 = .ok (.iload_n 3, 1) := by decide +kernel
theorem dX0_isLetAfter_15 : decode cX0_isLetAfter 15 = .ok (.laload, 1) := by decide +kernel
theorem dX0_isLetAfter_16 : decode cX0_isLetAfter 16 = .ok (.lload_n 1, 1) := by decide +kernel
theorem dX0_isLetAfter_17 : decode cX0_isLetAfter 17 = .ok (.ladd, 1) := by decide +kernel
theorem dX0_isLetAfter_18 : decode cX0_isLetAfter 18 = .ok (.invokestatic 30, 3) := by decide +kernel
theorem dX0_isLetAfter_21 : decode cX0_isLetAfter 21 = .ok (.ifCond .eq 17, 3) := by decide +kernel
theorem dX0_isLetAfter_24 : decode cX0_isLetAfter 24 = .ok (.aload_n 0, 1) := by decide +kernel
theorem dX0_isLetAfter_25 : decode cX0_isLetAfter 25 = .ok (.getfield 15, 3) := by decide +kernel
theorem dX0_isLetAfter_28 : decode cX0_isLetAfter 28 = .ok (.iload_n 3, 1) := by decide +kernel
theorem dX0_isLetAfter_29 : decode cX0_isLetAfter 29 = .ok (.laload, 1) := by decide +kernel
theorem dX0_isLetAfter_30 : decode cX0_isLetAfter 30 = .ok (.lload_n 1, 1) := by decide +kernel
theorem dX0_isLetAfter_31 : decode cX0_isLetAfter 31 = .ok (.ladd, 1) := by decide +kernel
theorem dX0_isLetAfter_32 : decode cX0_isLetAfter 32 = .ok (.invokestatic 30, 3) := by decide +kernel
theorem dX0_isLetAfter_35 : decode cX0_isLetAfter 35 = .ok (.ifCond .ne 5, 3) := by decide +kernel
theorem dX0_isLetAfter_38 : decode cX0_isLetAfter 38 = .ok (.iconst 0, 1) := by decide +kernel
theorem dX0_isLetAfter_39 : decode cX0_isLetAfter 39 = .ok (.ireturn, 1) := by decide +kernel
theorem dX0_isLetAfter_40 : decode cX0_isLetAfter 40 = .ok (.iinc 3 1, 3) := by decide +kernel
theorem dX0_isLetAfter_43 : decode cX0_isLetAfter 43 = .ok (.goto (-41), 3) := by decide +kernel
theorem dX0_isLetAfter_46 : decode cX0_isLetAfter 46 = .ok (.iconst 1, 1) := by decide +kernel
theorem dX0_isLetAfter_47 : decode cX0_isLetAfter 47 = .ok (.ireturn, 1) := by decide +kernel
theorem dX0_goOn_0 : decode cX0_goOn 0 = .ok (.iconst 0, 1) := by decide +kernel
theorem dX0_goOn_1 : decode cX0_goOn 1 = .ok (.istore_n 3, 1) := by decide +kernel
theorem dX0_goOn_2 : decode cX0_goOn 2 = .ok (.iload_n 3, 1) := by decide +kernel
theorem dX0_goOn_3 : decode cX0_goOn 3 = .ok (.aload_n 0, 1) := by decide +kernel
theorem dX0_goOn_4 : decode cX0_goOn 4 = .ok (.getfield 22, 3) := by decide +kernel
theorem dX0_goOn_7 : decode cX0_goOn 7 = .ok (.if_icmp .ge 29, 3) := by decide +kernel
theorem dX0_goOn_10 : decode cX0_goOn 10 = .ok (.aload_n 0, 1) := by decide +kernel
theorem dX0_goOn_11 : decode cX0_goOn 11 = .ok (.getfield 9, 3) := by decide +kernel
theorem dX0_goOn_14 : decode cX0_goOn 14 = .ok (.iload_n 3, 1) := by decide +kernel
theorem dX0_goOn_15 : decode cX0_goOn 15 = .ok (.dup2, 1) := by decide +kernel
theorem dX0_goOn_16 : decode cX0_goOn 16 = .ok (.laload, 1) := by decide +kernel
theorem dX0_goOn_17 : decode cX0_goOn 17 = .ok (.lload_n 1, 1) := by decide +kernel
theorem dX0_goOn_18 : decode cX0_goOn 18 = .ok (.ladd, 1) := by decide +kernel
theorem dX0_goOn_19 : decode cX0_goOn 19 = .ok (.lastore, 1) := by decide +kernel
theorem dX0_goOn_20 : decode cX0_goOn 20 = .ok (.aload_n 0, 1) := by decide +kernel
theorem dX0_goOn_21 : decode cX0_goOn 21 = .ok (.getfield 15, 3) := by decide +kernel
theorem dX0_goOn_24 : decode cX0_goOn 24 = .ok (.iload_n 3, 1) := by decide +kernel
theorem dX0_goOn_25 : decode cX0_goOn 25 = .ok (.dup2, 1) := by decide +kernel
theorem dX0_goOn_26 : decode cX0_goOn 26 = .ok (.laload, 1) := by decide +kernel
theorem dX0_goOn_27 : decode cX0_goOn 27 = .ok (.lload_n 1, 1) := by decide +kernel
theorem dX0_goOn_28 : decode cX0_goOn 28 = .ok (.ladd, 1) := by decide +kernel
theorem dX0_goOn_29 : decode cX0_goOn 29 = .ok (.lastore, 1) := by decide +kernel
theorem dX0_goOn_30 : decode cX0_goOn 30 = .ok (.iinc 3 1, 3) := by decide +kernel
theorem dX0_goOn_33 : decode cX0_goOn 33 = .ok (.goto (-31), 3) := by decide +kernel
theorem dX0_goOn_36 : decode cX0_goOn 36 = .ok (.return_, 1) := by decide +kernel
theorem dX0_doMeet_0 : decode cX0_doMeet 0 = .ok (.iload_n 1, 1) := by decide +kernel
theorem dX0_doMeet_1 : decode cX0_doMeet 1 = .ok (.ifCond .lt 23, 3) := by decide +kernel
theorem dX0_doMeet_4 : decode cX0_doMeet 4 = .ok (.iload_n 1, 1) := by decide +kernel
theorem dX0_doMeet_5 : decode cX0_doMeet 5 = .ok (.aload_n 0, 1) := by decide +kernel
theorem dX0_doMeet_6 : decode cX0_doMeet 6 = .ok (.getfield 22, 3) := by decide +kernel
theorem dX0_doMeet_9 : decode cX0_doMeet 9 = .ok (.if_icmp .ge 15, 3) := by decide +kernel
theorem dX0_doMeet_12 : decode cX0_doMeet 12 = .ok (.iload_n 2, 1) := by decide +kernel
theorem dX0_doMeet_13 : decode cX0_doMeet 13 = .ok (.ifCond .lt 11, 3) := by decide +kernel
theorem dX0_doMeet_16 : decode cX0_doMeet 16 = .ok (.iload_n 2, 1) := by decide +kernel
theorem dX0_doMeet_17 : decode cX0_doMeet 17 = .ok (.aload_n 0, 1) := by decide +kernel
theorem dX0_doMeet_18 : decode cX0_doMeet 18 = .ok (.getfield 22, 3) := by decide +kernel
theorem dX0_doMeet_21 : decode cX0_doMeet 21 = .ok (.if_icmp .lt 5, 3) := by decide +kernel
theorem dX0_doMeet_24 : decode cX0_doMeet 24 = .ok (.iconst 0, 1) := by decide +kernel
theorem dX0_doMeet_25 : decode cX0_doMeet 25 = .ok (.ireturn, 1) := by decide +kernel
theorem dX0_doMeet_26 : decode cX0_doMeet 26 = .ok (.aload_n 0, 1) := by decide +kernel
theorem dX0_doMeet_27 : decode cX0_doMeet 27 = .ok (.getfield 9, 3) := by decide +kernel
theorem dX0_doMeet_30 : decode cX0_doMeet 30 = .ok (.iload_n 1, 1) := by decide +kernel
theorem dX0_doMeet_31 : decode cX0_doMeet 31 = .ok (.laload, 1) := by decide +kernel
theorem dX0_doMeet_32 : decode cX0_doMeet 32 = .ok (.aload_n 0, 1) := by decide +kernel
theorem dX0_doMeet_33 : decode cX0_doMeet 33 = .ok (.getfield 15, 3) := by decide +kernel
theorem dX0_doMeet_36 : decode cX0_doMeet 36 = .ok (.iload_n 2, 1) := by decide +kernel
theorem dX0_doMeet_37 : decode cX0_doMeet 37 = .ok (.laload, 1) := by decide +kernel
theorem dX0_doMeet_38 : decode cX0_doMeet 38 = .ok (.lcmp, 1) := by decide +kernel
theorem dX0_doMeet_39 : decode cX0_doMeet 39 = .ok (.ifCond .ge 23, 3) := by decide +kernel
theorem dX0_doMeet_42 : decode cX0_doMeet 42 = .ok (.aload_n 0, 1) := by decide +kernel
theorem dX0_doMeet_43 : decode cX0_doMeet 43 = .ok (.getfield 9, 3) := by decide +kernel
theorem dX0_doMeet_46 : decode cX0_doMeet 46 = .ok (.iload_n 2, 1) := by decide +kernel
theorem dX0_doMeet_47 : decode cX0_doMeet 47 = .ok (.laload, 1) := by decide +kernel
theorem dX0_doMeet_48 : decode cX0_doMeet 48 = .ok (.aload_n 0, 1) := by decide +kernel
theorem dX0_doMeet_49 : decode cX0_doMeet 49 = .ok (.getfield 15, 3) := by decide +kernel
theorem dX0_doMeet_52 : decode cX0_doMeet 52 = .ok (.iload_n 1, 1) := by decide +kernel
theorem dX0_doMeet_53 : decode cX0_doMeet 53 = .ok (.laload, 1) := by decide +kernel
theorem dX0_doMeet_54 : decode cX0_doMeet 54 = .ok (.lcmp, 1) := by decide +kernel
theorem dX0_doMeet_55 : decode cX0_doMeet 55 = .ok (.ifCond .ge 7, 3) := by decide +kernel
theorem dX0_doMeet_58 : decode cX0_doMeet 58 = .ok (.iconst 1, 1) := by decide +kernel
theorem dX0_doMeet_59 : decode cX0_doMeet 59 = .ok (.goto 4, 3) := by decide +kernel
theorem dX0_doMeet_62 : decode cX0_doMeet 62 = .ok (.iconst 0, 1) := by decide +kernel
theorem dX0_doMeet_63 : decode cX0_doMeet 63 = .ok (.ireturn, 1) := by decide +kernel
theorem dX0_firstMeeting_0 : decode cX0_firstMeeting 0 = .ok (.iconst 0, 1) := by decide +kernel
theorem dX0_firstMeeting_1 : decode cX0_firstMeeting 1 = .ok (.istore 6, 2) := by decide +kernel
theorem dX0_firstMeeting_3 : decode cX0_firstMeeting 3 = .ok (.iload 6, 2) := by decide +kernel
theorem dX0_firstMeeting_5 : decode cX0_firstMeeting 5 = .ok (.aload_n 0, 1) := by decide +kernel
theorem dX0_firstMeeting_6 : decode cX0_firstMeeting 6 = .ok (.getfield 22, 3) := by decide +kernel
theorem dX0_firstMeeting_9 : decode cX0_firstMeeting 9 = .ok (.if_icmp .ge 43, 3) := by decide +kernel
theorem dX0_firstMeeting_12 : decode cX0_firstMeeting 12 = .ok (.iload 6, 2) := by decide +kernel
theorem dX0_firstMeeting_14 : decode cX0_firstMeeting 14 = .ok (.iload 5, 2) := by decide +kernel
theorem dX0_firstMeeting_16 : decode cX0_firstMeeting 16 = .ok (.if_icmp .eq 30, 3) := by decide +kernel
theorem dX0_firstMeeting_19 : decode cX0_firstMeeting 19 = .ok (.aload_n 0, 1) := by decide +kernel
theorem dX0_firstMeeting_20 : decode cX0_firstMeeting 20 = .ok (.getfield 9, 3) := by decide +kernel
theorem dX0_firstMeeting_23 : decode cX0_firstMeeting 23 = .ok (.iload 6, 2) := by decide +kernel
theorem dX0_firstMeeting_25 : decode cX0_firstMeeting 25 = .ok (.laload, 1) := by decide +kernel
theorem dX0_firstMeeting_26 : decode cX0_firstMeeting 26 = .ok (.lload_n 3, 1) := by decide +kernel
theorem dX0_firstMeeting_27 : decode cX0_firstMeeting 27 = .ok (.lcmp, 1) := by decide +kernel
theorem dX0_firstMeeting_28 : decode cX0_firstMeeting 28 = .ok (.ifCond .ge 18, 3) := by decide +kernel
theorem dX0_firstMeeting_31 : decode cX0_firstMeeting 31 = .ok (.lload_n 1, 1) := by decide +kernel
theorem dX0_firstMeeting_32 : decode cX0_firstMeeting 32 = .ok (.aload_n 0, 1) := by decide +kernel
theorem dX0_firstMeeting_33 : decode cX0_firstMeeting 33 = .ok (.getfield 15, 3) := by decide +kernel
theorem dX0_firstMeeting_36 : decode cX0_firstMeeting 36 = .ok (.iload 6, 2) := by decide +kernel
theorem dX0_firstMeeting_38 : decode cX0_firstMeeting 38 = .ok (.laload, 1) := by decide +kernel
theorem dX0_firstMeeting_39 : decode cX0_firstMeeting 39 = .ok (.lcmp, 1) := by decide +kernel
theorem dX0_firstMeeting_40 : decode cX0_firstMeeting 40 = .ok (.ifCond .ge 6, 3) := by decide +kernel
theorem dX0_firstMeeting_43 : decode cX0_firstMeeting 43 = .ok (.iload 6, 2) := by decide +kernel
theorem dX0_firstMeeting_45 : decode cX0_firstMeeting 45 = .ok (.ireturn, 1) := by decide +kernel
theorem dX0_firstMeeting_46 : decode cX0_firstMeeting 46 = .ok (.iinc 6 1, 3) := by decide +kernel
theorem dX0_firstMeeting_49 : decode cX0_firstMeeting 49 = .ok (.goto (-46), 3) := by decide +kernel
theorem dX0_firstMeeting_52 : decode cX0_firstMeeting 52 = .ok (.iconst (-1), 1) := by decide +kernel
theorem dX0_firstMeeting_53 : decode cX0_firstMeeting 53 = .ok (.ireturn, 1) := by decide +kernel
theorem dX0_firstWith_0 : decode cX0_firstWith 0 = .ok (.aload_n 0, 1) := by decide +kernel
theorem dX0_firstWith_1 : decode cX0_firstWith 1 = .ok (.lload_n 1, 1) := by decide +kernel
theorem dX0_firstWith_2 : decode cX0_firstWith 2 = .ok (.lload_n 1, 1) := by decide +kernel
theorem dX0_firstWith_3 : decode cX0_firstWith 3 = .ok (.lconst 1, 1) := by decide +kernel
theorem dX0_firstWith_4 : decode cX0_firstWith 4 = .ok (.ladd, 1) := by decide +kernel
theorem dX0_firstWith_5 : decode cX0_firstWith 5 = .ok (.iconst (-1), 1) := by decide +kernel
theorem dX0_firstWith_6 : decode cX0_firstWith 6 = .ok (.invokevirtual 34, 3) := by decide +kernel
theorem dX0_firstWith_9 : decode cX0_firstWith 9 = .ok (.ireturn, 1) := by decide +kernel
theorem dX0_nextBegin_0 : decode cX0_nextBegin 0 = .ok (.lload_n 3, 1) := by decide +kernel
theorem dX0_nextBegin_1 : decode cX0_nextBegin 1 = .ok (.lstore 5, 2) := by decide +kernel
theorem dX0_nextBegin_3 : decode cX0_nextBegin 3 = .ok (.iconst 0, 1) := by decide +kernel
theorem dX0_nextBegin_4 : decode cX0_nextBegin 4 = .ok (.istore 7, 2) := by decide +kernel
theorem dX0_nextBegin_6 : decode cX0_nextBegin 6 = .ok (.iload 7, 2) := by decide +kernel
theorem dX0_nextBegin_8 : decode cX0_nextBegin 8 = .ok (.aload_n 0, 1) := by decide +kernel
theorem dX0_nextBegin_9 : decode cX0_nextBegin 9 = .ok (.getfield 22, 3) := by decide +kernel
theorem dX0_nextBegin_12 : decode cX0_nextBegin 12 = .ok (.if_icmp .ge 43, 3) := by decide +kernel
theorem dX0_nextBegin_15 : decode cX0_nextBegin 15 = .ok (.aload_n 0, 1) := by decide +kernel
theorem dX0_nextBegin_16 : decode cX0_nextBegin 16 = .ok (.getfield 9, 3) := by decide +kernel
theorem dX0_nextBegin_19 : decode cX0_nextBegin 19 = .ok (.iload 7, 2) := by decide +kernel
theorem dX0_nextBegin_21 : decode cX0_nextBegin 21 = .ok (.laload, 1) := by decide +kernel
theorem dX0_nextBegin_22 : decode cX0_nextBegin 22 = .ok (.lload_n 1, 1) := by decide +kernel
theorem dX0_nextBegin_23 : decode cX0_nextBegin 23 = .ok (.lcmp, 1) := by decide +kernel
theorem dX0_nextBegin_24 : decode cX0_nextBegin 24 = .ok (.ifCond .lt 25, 3) := by decide +kernel
theorem dX0_nextBegin_27 : decode cX0_nextBegin 27 = .ok (.aload_n 0, 1) := by decide +kernel
theorem dX0_nextBegin_28 : decode cX0_nextBegin 28 = .ok (.getfield 9, 3) := by decide +kernel
theorem dX0_nextBegin_31 : decode cX0_nextBegin 31 = .ok (.iload 7, 2) := by decide +kernel
theorem dX0_nextBegin_33 : decode cX0_nextBegin 33 = .ok (.laload, 1) := by decide +kernel
theorem dX0_nextBegin_34 : decode cX0_nextBegin 34 = .ok (.lload 5, 2) := by decide +kernel
theorem dX0_nextBegin_36 : decode cX0_nextBegin 36 = .ok (.lcmp, 1) := by decide +kernel
theorem dX0_nextBegin_37 : decode cX0_nextBegin 37 = .ok (.ifCond .ge 12, 3) := by decide +kernel
theorem dX0_nextBegin_40 : decode cX0_nextBegin 40 = .ok (.aload_n 0, 1) := by decide +kernel
theorem dX0_nextBegin_41 : decode cX0_nextBegin 41 = .ok (.getfield 9, 3) := by decide +kernel
theorem dX0_nextBegin_44 : decode cX0_nextBegin 44 = .ok (.iload 7, 2) := by decide +kernel
theorem dX0_nextBegin_46 : decode cX0_nextBegin 46 = .ok (.laload, 1) := by decide +kernel
theorem dX0_nextBegin_47 : decode cX0_nextBegin 47 = .ok (.lstore 5, 2) := by decide +kernel
theorem dX0_nextBegin_49 : decode cX0_nextBegin 49 = .ok (.iinc 7 1, 3) := by decide +kernel
theorem dX0_nextBegin_52 : decode cX0_nextBegin 52 = .ok (.goto (-46), 3) := by decide +kernel
theorem dX0_nextBegin_55 : decode cX0_nextBegin 55 = .ok (.lload 5, 2) := by decide +kernel
theorem dX0_nextBegin_57 : decode cX0_nextBegin 57 = .ok (.lreturn, 1) := by decide +kernel
theorem dX0_beginsBefore_0 : decode cX0_beginsBefore 0 = .ok (.iconst 0, 1) := by decide +kernel
theorem dX0_beginsBefore_1 : decode cX0_beginsBefore 1 = .ok (.istore_n 3, 1) := by decide +kernel
theorem dX0_beginsBefore_2 : decode cX0_beginsBefore 2 = .ok (.iconst 0, 1) := by decide +kernel
theorem dX0_beginsBefore_3 : decode cX0_beginsBefore 3 = .ok (.istore 4, 2) := by decide +kernel
theorem dX0_beginsBefore_5 : decode cX0_beginsBefore 5 = .ok (.iload 4, 2) := by decide +kernel
theorem dX0_beginsBefore_7 : decode cX0_beginsBefore 7 = .ok (.aload_n 0, 1) := by decide +kernel
theorem dX0_beginsBefore_8 : decode cX0_beginsBefore 8 = .ok (.getfield 22, 3) := by decide +kernel
theorem dX0_beginsBefore_11 : decode cX0_beginsBefore 11 = .ok (.if_icmp .ge 24, 3) := by decide +kernel
theorem dX0_beginsBefore_14 : decode cX0_beginsBefore 14 = .ok (.aload_n 0, 1) := by decide +kernel
theorem dX0_beginsBefore_15 : decode cX0_beginsBefore 15 = .ok (.getfield 9, 3) := by decide +kernel
theorem dX0_beginsBefore_18 : decode cX0_beginsBefore 18 = .ok (.iload 4, 2) := by decide +kernel
theorem dX0_beginsBefore_20 : decode cX0_beginsBefore 20 = .ok (.laload, 1) := by decide +kernel
theorem dX0_beginsBefore_21 : decode cX0_beginsBefore 21 = .ok (.lload_n 1, 1) := by decide +kernel
theorem dX0_beginsBefore_22 : decode cX0_beginsBefore 22 = .ok (.lcmp, 1) := by decide +kernel
theorem dX0_beginsBefore_23 : decode cX0_beginsBefore 23 = .ok (.ifCond .ge 6, 3) := by decide +kernel
theorem dX0_beginsBefore_26 : decode cX0_beginsBefore 26 = .ok (.iinc 3 1, 3) := by decide +kernel
theorem dX0_beginsBefore_29 : decode cX0_beginsBefore 29 = .ok (.iinc 4 1, 3) := by decide +kernel
theorem dX0_beginsBefore_32 : decode cX0_beginsBefore 32 = .ok (.goto (-27), 3) := by decide +kernel
theorem dX0_beginsBefore_35 : decode cX0_beginsBefore 35 = .ok (.iload_n 3, 1) := by decide +kernel
theorem dX0_beginsBefore_36 : decode cX0_beginsBefore 36 = .ok (.ireturn, 1) := by decide +kernel
theorem dX0_endsBefore_0 : decode cX0_endsBefore 0 = .ok (.iconst 0, 1) := by decide +kernel
theorem dX0_endsBefore_1 : decode cX0_endsBefore 1 = .ok (.istore_n 3, 1) := by decide +kernel
theorem dX0_endsBefore_2 : decode cX0_endsBefore 2 = .ok (.iconst 0, 1) := by decide +kernel
theorem dX0_endsBefore_3 : decode cX0_endsBefore 3 = .ok (.istore 4, 2) := by decide +kernel
theorem dX0_endsBefore_5 : decode cX0_endsBefore 5 = .ok (.iload 4, 2) := by decide +kernel
theorem dX0_endsBefore_7 : decode cX0_endsBefore 7 = .ok (.aload_n 0, 1) := by decide +kernel
theorem dX0_endsBefore_8 : decode cX0_endsBefore 8 = .ok (.getfield 22, 3) := by decide +kernel
theorem dX0_endsBefore_11 : decode cX0_endsBefore 11 = .ok (.if_icmp .ge 24, 3) := by decide +kernel
theorem dX0_endsBefore_14 : decode cX0_endsBefore 14 = .ok (.aload_n 0, 1) := by decide +kernel
theorem dX0_endsBefore_15 : decode cX0_endsBefore 15 = .ok (.getfield 15, 3) := by decide +kernel
theorem dX0_endsBefore_18 : decode cX0_endsBefore 18 = .ok (.iload 4, 2) := by decide +kernel
theorem dX0_endsBefore_20 : decode cX0_endsBefore 20 = .ok (.laload, 1) := by decide +kernel
theorem dX0_endsBefore_21 : decode cX0_endsBefore 21 = .ok (.lload_n 1, 1) := by decide +kernel
theorem dX0_endsBefore_22 : decode cX0_endsBefore 22 = .ok (.lcmp, 1) := by decide +kernel
theorem dX0_endsBefore_23 : decode cX0_endsBefore 23 = .ok (.ifCond .ge 6, 3) := by decide +kernel
theorem dX0_endsBefore_26 : decode cX0_endsBefore 26 = .ok (.iinc 3 1, 3) := by decide +kernel
theorem dX0_endsBefore_29 : decode cX0_endsBefore 29 = .ok (.iinc 4 1, 3) := by decide +kernel
theorem dX0_endsBefore_32 : decode cX0_endsBefore 32 = .ok (.goto (-27), 3) := by decide +kernel
theorem dX0_endsBefore_35 : decode cX0_endsBefore 35 = .ok (.iload_n 3, 1) := by decide +kernel
theorem dX0_endsBefore_36 : decode cX0_endsBefore 36 = .ok (.ireturn, 1) := by decide +kernel
theorem dX0_depth_0 : decode cX0_depth 0 = .ok (.iconst 0, 1) := by decide +kernel
theorem dX0_depth_1 : decode cX0_depth 1 = .ok (.istore_n 1, 1) := by decide +kernel
theorem dX0_depth_2 : decode cX0_depth 2 = .ok (.iconst 0, 1) := by decide +kernel
theorem dX0_depth_3 : decode cX0_depth 3 = .ok (.istore_n 2, 1) := by decide +kernel
theorem dX0_depth_4 : decode cX0_depth 4 = .ok (.iload_n 2, 1) := by decide +kernel
theorem dX0_depth_5 : decode cX0_depth 5 = .ok (.aload_n 0, 1) := by decide +kernel
theorem dX0_depth_6 : decode cX0_depth 6 = .ok (.getfield 22, 3) := by decide +kernel
theorem dX0_depth_9 : decode cX0_depth 9 = .ok (.if_icmp .ge 72, 3) := by decide +kernel
theorem dX0_depth_12 : decode cX0_depth 12 = .ok (.iconst 0, 1) := by decide +kernel
theorem dX0_depth_13 : decode cX0_depth 13 = .ok (.istore_n 3, 1) := by decide +kernel
theorem dX0_depth_14 : decode cX0_depth 14 = .ok (.iconst 0, 1) := by decide +kernel
theorem dX0_depth_15 : decode cX0_depth 15 = .ok (.istore 4, 2) := by decide +kernel
theorem dX0_depth_17 : decode cX0_depth 17 = .ok (.iload 4, 2) := by decide +kernel
theorem dX0_depth_19 : decode cX0_depth 19 = .ok (.aload_n 0, 1) := by decide +kernel
theorem dX0_depth_20 : decode cX0_depth 20 = .ok (.getfield 22, 3) := by decide +kernel
theorem dX0_depth_23 : decode cX0_depth 23 = .ok (.if_icmp .ge 46, 3) := by decide +kernel
theorem dX0_depth_26 : decode cX0_depth 26 = .ok (.aload_n 0, 1) := by decide +kernel
theorem dX0_depth_27 : decode cX0_depth 27 = .ok (.getfield 9, 3) := by decide +kernel
theorem dX0_depth_30 : decode cX0_depth 30 = .ok (.iload 4, 2) := by decide +kernel
theorem dX0_depth_32 : decode cX0_depth 32 = .ok (.laload, 1) := by decide +kernel
theorem dX0_depth_33 : decode cX0_depth 33 = .ok (.aload_n 0, 1) := by decide +kernel
theorem dX0_depth_34 : decode cX0_depth 34 = .ok (.getfield 9, 3) := by decide +kernel
theorem dX0_depth_37 : decode cX0_depth 37 = .ok (.iload_n 2, 1) := by decide +kernel
theorem dX0_depth_38 : decode cX0_depth 38 = .ok (.laload, 1) := by decide +kernel
theorem dX0_depth_39 : decode cX0_depth 39 = .ok (.lcmp, 1) := by decide +kernel
theorem dX0_depth_40 : decode cX0_depth 40 = .ok (.ifCond .gt 23, 3) := by decide +kernel
theorem dX0_depth_43 : decode cX0_depth 43 = .ok (.aload_n 0, 1) := by decide +kernel
theorem dX0_depth_44 : decode cX0_depth 44 = .ok (.getfield 9, 3) := by decide +kernel
theorem dX0_depth_47 : decode cX0_depth 47 = .ok (.iload_n 2, 1) := by decide +kernel
theorem dX0_depth_48 : decode cX0_depth 48 = .ok (.laload, 1) := by decide +kernel
theorem dX0_depth_49 : decode cX0_depth 49 = .ok (.aload_n 0, 1) := by decide +kernel
theorem dX0_depth_50 : decode cX0_depth 50 = .ok (.getfield 15, 3) := by decide +kernel
theorem dX0_depth_53 : decode cX0_depth 53 = .ok (.iload 4, 2) := by decide +kernel
theorem dX0_depth_55 : decode cX0_depth 55 = .ok (.laload, 1) := by decide +kernel
theorem dX0_depth_56 : decode cX0_depth 56 = .ok (.lcmp, 1) := by decide +kernel
theorem dX0_depth_57 : decode cX0_depth 57 = .ok (.ifCond .ge 6, 3) := by decide +kernel
theorem dX0_depth_60 : decode cX0_depth 60 = .ok (.iinc 3 1, 3) := by decide +kernel
theorem dX0_depth_63 : decode cX0_depth 63 = .ok (.iinc 4 1, 3) := by decide +kernel
theorem dX0_depth_66 : decode cX0_depth 66 = .ok (.goto (-49), 3) := by decide +kernel
theorem dX0_depth_69 : decode cX0_depth 69 = .ok (.iload_n 1, 1) := by decide +kernel
theorem dX0_depth_70 : decode cX0_depth 70 = .ok (.iload_n 3, 1) := by decide +kernel
theorem dX0_depth_71 : decode cX0_depth 71 = .ok (.invokestatic 38, 3) := by decide +kernel
theorem dX0_depth_74 : decode cX0_depth 74 = .ok (.istore_n 1, 1) := by decide +kernel
theorem dX0_depth_75 : decode cX0_depth 75 = .ok (.iinc 2 1, 3) := by decide +kernel
theorem dX0_depth_78 : decode cX0_depth 78 = .ok (.goto (-74), 3) := by decide +kernel
theorem dX0_depth_81 : decode cX0_depth 81 = .ok (.iload_n 1, 1) := by decide +kernel
theorem dX0_depth_82 : decode cX0_depth 82 = .ok (.ireturn, 1) := by decide +kernel
theorem dX1_isWithin_0 : decode cX1_isWithin 0 = .ok (.iload_n 0, 1) := by decide +kernel
theorem dX1_isWithin_1 : decode cX1_isWithin 1 = .ok (.iload_n 1, 1) := by decide +kernel
theorem dX1_isWithin_2 : decode cX1_isWithin 2 = .ok (.if_icmp .lt 12, 3) := by decide +kernel
theorem dX1_isWithin_5 : decode cX1_isWithin 5 = .ok (.iload_n 0, 1) := by decide +kernel
theorem dX1_isWithin_6 : decode cX1_isWithin 6 = .ok (.iload_n 2, 1) := by decide +kernel
theorem dX1_isWithin_7 : decode cX1_isWithin 7 = .ok (.if_icmp .gt 7, 3) := by decide +kernel
theorem dX1_isWithin_10 : decode cX1_isWithin 10 = .ok (.iconst 1, 1) := by decide +kernel
theorem dX1_isWithin_11 : decode cX1_isWithin 11 = .ok (.goto 4, 3) := by decide +kernel
theorem dX1_isWithin_14 : decode cX1_isWithin 14 = .ok (.iconst 0, 1) := by decide +kernel
theorem dX1_isWithin_15 : decode cX1_isWithin 15 = .ok (.ireturn, 1) := by decide +kernel
theorem dX1_done_0 : decode cX1_done 0 = .ok (.aload_n 0, 1) := by decide +kernel
theorem dX1_done_1 : decode cX1_done 1 = .ok (.dup, 1) := by decide +kernel
theorem dX1_done_2 : decode cX1_done 2 = .ok (.getfield 224, 3) := by decide +kernel
theorem dX1_done_5 : decode cX1_done 5 = .ok (.iconst 1, 1) := by decide +kernel
theorem dX1_done_6 : decode cX1_done 6 = .ok (.iadd, 1) := by decide +kernel
theorem dX1_done_7 : decode cX1_done 7 = .ok (.putfield 224, 3) := by decide +kernel
theorem dX1_done_10 : decode cX1_done 10 = .ok (.iload_n 1, 1) := by decide +kernel
theorem dX1_done_11 : decode cX1_done 11 = .ok (.ireturn, 1) := by decide +kernel
theorem dX1_refuse_0 : decode cX1_refuse 0 = .ok (.aload_n 0, 1) := by decide +kernel
theorem dX1_refuse_1 : decode cX1_refuse 1 = .ok (.dup, 1) := by decide +kernel
theorem dX1_refuse_2 : decode cX1_refuse 2 = .ok (.getfield 228, 3) := by decide +kernel
theorem dX1_refuse_5 : decode cX1_refuse 5 = .ok (.iconst 1, 1) := by decide +kernel
theorem dX1_refuse_6 : decode cX1_refuse 6 = .ok (.iadd, 1) := by decide +kernel
theorem dX1_refuse_7 : decode cX1_refuse 7 = .ok (.putfield 228, 3) := by decide +kernel
theorem dX1_refuse_10 : decode cX1_refuse 10 = .ok (.bipush (-9), 2) := by decide +kernel
theorem dX1_refuse_12 : decode cX1_refuse 12 = .ok (.ireturn, 1) := by decide +kernel
theorem dX1_secondOf_0 : decode cX1_secondOf 0 = .ok (.lload_n 0, 1) := by decide +kernel
theorem dX1_secondOf_1 : decode cX1_secondOf 1 = .ok (.ldc2_w 55, 3) := by decide +kernel
theorem dX1_secondOf_4 : decode cX1_secondOf 4 = .ok (.invokestatic 284, 3) := by decide +kernel
theorem dX1_secondOf_7 : decode cX1_secondOf 7 = .ok (.l2i, 1) := by decide +kernel
theorem dX1_secondOf_8 : decode cX1_secondOf 8 = .ok (.ireturn, 1) := by decide +kernel
theorem dX1_nanoOf_0 : decode cX1_nanoOf 0 = .ok (.lload_n 0, 1) := by decide +kernel
theorem dX1_nanoOf_1 : decode cX1_nanoOf 1 = .ok (.ldc2_w 55, 3) := by decide +kernel
theorem dX1_nanoOf_4 : decode cX1_nanoOf 4 = .ok (.invokestatic 287, 3) := by decide +kernel
theorem dX1_nanoOf_7 : decode cX1_nanoOf 7 = .ok (.l2i, 1) := by decide +kernel
theorem dX1_nanoOf_8 : decode cX1_nanoOf 8 = .ok (.ireturn, 1) := by decide +kernel
theorem dX1_partOf_0 : decode cX1_partOf 0 = .ok (.iload_n 2, 1) := by decide +kernel
theorem dX1_partOf_1 : decode cX1_partOf 1 = .ok (.iconst 1, 1) := by decide +kernel
theorem dX1_partOf_2 : decode cX1_partOf 2 = .ok (.iand, 1) := by decide +kernel
theorem dX1_partOf_3 : decode cX1_partOf 3 = .ok (.ifCond .ne 10, 3) := by decide +kernel
theorem dX1_partOf_6 : decode cX1_partOf 6 = .ok (.lload_n 0, 1) := by decide +kernel
theorem dX1_partOf_7 : decode cX1_partOf 7 = .ok (.invokestatic 65, 3) := by decide +kernel
theorem dX1_partOf_10 : decode cX1_partOf 10 = .ok (.goto 7, 3) := by decide +kernel
theorem dX1_partOf_13 : decode cX1_partOf 13 = .ok (.lload_n 0, 1) := by decide +kernel
theorem dX1_partOf_14 : decode cX1_partOf 14 = .ok (.invokestatic 142, 3) := by decide +kernel
theorem dX1_partOf_17 : decode cX1_partOf 17 = .ok (.ireturn, 1) := by decide +kernel
theorem dX1_partIn_0 : decode cX1_partIn 0 = .ok (.iload_n 2, 1) := by decide +kernel
theorem dX1_partIn_1 : decode cX1_partIn 1 = .ok (.iconst 2, 1) := by decide +kernel
theorem dX1_partIn_2 : decode cX1_partIn 2 = .ok (.if_icmp .ge 11, 3) := by decide +kernel
theorem dX1_partIn_5 : decode cX1_partIn 5 = .ok (.aload_n 0, 1) := by decide +kernel
theorem dX1_partIn_6 : decode cX1_partIn 6 = .ok (.iload_n 1, 1) := by decide +kernel
theorem dX1_partIn_7 : decode cX1_partIn 7 = .ok (.invokevirtual 113, 3) := by decide +kernel
theorem dX1_partIn_10 : decode cX1_partIn 10 = .ok (.goto 8, 3) := by decide +kernel
theorem dX1_partIn_13 : decode cX1_partIn 13 = .ok (.aload_n 0, 1) := by decide +kernel
theorem dX1_partIn_14 : decode cX1_partIn 14 = .ok (.iload_n 1, 1) := by decide +kernel
theorem dX1_partIn_15 : decode cX1_partIn 15 = .ok (.invokevirtual 117, 3) := by decide +kernel
theorem dX1_partIn_18 : decode cX1_partIn 18 = .ok (.iload_n 2, 1) := by decide +kernel
theorem dX1_partIn_19 : decode cX1_partIn 19 = .ok (.invokestatic 159, 3) := by decide +kernel
theorem dX1_partIn_22 : decode cX1_partIn 22 = .ok (.ireturn, 1) := by decide +kernel
theorem dX1_lengthOf_0 : decode cX1_lengthOf 0 = .ok (.iload_n 0, 1) := by decide +kernel
theorem dX1_lengthOf_1 : decode cX1_lengthOf 1 = .ok (.ifCond .ne 10, 3) := by decide +kernel
theorem dX1_lengthOf_4 : decode cX1_lengthOf 4 = .ok (.iload_n 1, 1) := by decide +kernel
theorem dX1_lengthOf_5 : decode cX1_lengthOf 5 = .ok (.i2l, 1) := by decide +kernel
theorem dX1_lengthOf_6 : decode cX1_lengthOf 6 = .ok (.ldc2_w 55, 3) := by decide +kernel
theorem dX1_lengthOf_9 : decode cX1_lengthOf 9 = .ok (.lmul, 1) := by decide +kernel
theorem dX1_lengthOf_10 : decode cX1_lengthOf 10 = .ok (.lreturn, 1) := by decide +kernel
theorem dX1_lengthOf_11 : decode cX1_lengthOf 11 = .ok (.iload_n 1, 1) := by decide +kernel
theorem dX1_lengthOf_12 : decode cX1_lengthOf 12 = .ok (.i2l, 1) := by decide +kernel
theorem dX1_lengthOf_13 : decode cX1_lengthOf 13 = .ok (.iload_n 0, 1) := by decide +kernel
theorem dX1_lengthOf_14 : decode cX1_lengthOf 14 = .ok (.iconst 1, 1) := by decide +kernel
theorem dX1_lengthOf_15 : decode cX1_lengthOf 15 = .ok (.if_icmp .ne 9, 3) := by decide +kernel
theorem dX1_lengthOf_18 : decode cX1_lengthOf 18 = .ok (.ldc2_w 290, 3) := by decide +kernel
theorem dX1_lengthOf_21 : decode cX1_lengthOf 21 = .ok (.goto 4, 3) := by decide +kernel
theorem dX1_lengthOf_24 : decode cX1_lengthOf 24 = .ok (.lconst 1, 1) := by decide +kernel
theorem dX1_lengthOf_25 : decode cX1_lengthOf 25 = .ok (.lmul, 1) := by decide +kernel
theorem dX1_lengthOf_26 : decode cX1_lengthOf 26 = .ok (.lreturn, 1) := by decide +kernel
theorem dX1_sideOf_0 : decode cX1_sideOf 0 = .ok (.lload_n 0, 1) := by decide +kernel
theorem dX1_sideOf_1 : decode cX1_sideOf 1 = .ok (.lload_n 2, 1) := by decide +kernel
theorem dX1_sideOf_2 : decode cX1_sideOf 2 = .ok (.lcmp, 1) := by decide +kernel
theorem dX1_sideOf_3 : decode cX1_sideOf 3 = .ok (.ifCond .ne 5, 3) := by decide +kernel
theorem dX1_sideOf_6 : decode cX1_sideOf 6 = .ok (.iconst 0, 1) := by decide +kernel
theorem dX1_sideOf_7 : decode cX1_sideOf 7 = .ok (.ireturn, 1) := by decide +kernel
theorem dX1_sideOf_8 : decode cX1_sideOf 8 = .ok (.lload_n 0, 1) := by decide +kernel
theorem dX1_sideOf_9 : decode cX1_sideOf 9 = .ok (.lload_n 2, 1) := by decide +kernel
theorem dX1_sideOf_10 : decode cX1_sideOf 10 = .ok (.lcmp, 1) := by decide +kernel
theorem dX1_sideOf_11 : decode cX1_sideOf 11 = .ok (.ifCond .ge 7, 3) := by decide +kernel
theorem dX1_sideOf_14 : decode cX1_sideOf 14 = .ok (.iconst (-1), 1) := by decide +kernel
theorem dX1_sideOf_15 : decode cX1_sideOf 15 = .ok (.goto 4, 3) := by decide +kernel
theorem dX1_sideOf_18 : decode cX1_sideOf 18 = .ok (.iconst 1, 1) := by decide +kernel
theorem dX1_sideOf_19 : decode cX1_sideOf 19 = .ok (.ireturn, 1) := by decide +kernel
theorem dX1_bring_0 : decode cX1_bring 0 = .ok (.aload_n 0, 1) := by decide +kernel
theorem dX1_bring_1 : decode cX1_bring 1 = .ok (.getfield 9, 3) := by decide +kernel
theorem dX1_bring_4 : decode cX1_bring 4 = .ok (.iload_n 3, 1) := by decide +kernel
theorem dX1_bring_5 : decode cX1_bring 5 = .ok (.laload, 1) := by decide +kernel
theorem dX1_bring_6 : decode cX1_bring 6 = .ok (.lload_n 1, 1) := by decide +kernel
theorem dX1_bring_7 : decode cX1_bring 7 = .ok (.lcmp, 1) := by decide +kernel
theorem dX1_bring_8 : decode cX1_bring 8 = .ok (.ifCond .ne 7, 3) := by decide +kernel
theorem dX1_bring_11 : decode cX1_bring 11 = .ok (.iconst 0, 1) := by decide +kernel
theorem dX1_bring_12 : decode cX1_bring 12 = .ok (.goto 4, 3) := by decide +kernel
theorem dX1_bring_15 : decode cX1_bring 15 = .ok (.iconst 1, 1) := by decide +kernel
theorem dX1_bring_16 : decode cX1_bring 16 = .ok (.istore 4, 2) := by decide +kernel
theorem dX1_bring_18 : decode cX1_bring 18 = .ok (.aload_n 0, 1) := by decide +kernel
theorem dX1_bring_19 : decode cX1_bring 19 = .ok (.getfield 9, 3) := by decide +kernel
theorem dX1_bring_22 : decode cX1_bring 22 = .ok (.iload_n 3, 1) := by decide +kernel
theorem dX1_bring_23 : decode cX1_bring 23 = .ok (.lload_n 1, 1) := by decide +kernel
theorem dX1_bring_24 : decode cX1_bring 24 = .ok (.lastore, 1) := by decide +kernel
theorem dX1_bring_25 : decode cX1_bring 25 = .ok (.iload 4, 2) := by decide +kernel
theorem dX1_bring_27 : decode cX1_bring 27 = .ok (.ireturn, 1) := by decide +kernel
theorem dX1_isAllLetAfter_0 : decode cX1_isAllLetAfter 0 = .ok (.iconst 0, 1) := by decide +kernel
theorem dX1_isAllLetAfter_1 : decode cX1_isAllLetAfter 1 = .ok (.istore_n 3, 1) := by decide +kernel
theorem dX1_isAllLetAfter_2 : decode cX1_isAllLetAfter 2 = .ok (.iload_n 3, 1) := by decide +kernel
theorem dX1_isAllLetAfter_3 : decode cX1_isAllLetAfter 3 = .ok (.iconst 4, 1) := by decide +kernel
theorem dX1_isAllLetAfter_4 : decode cX1_isAllLetAfter 4 = .ok (.if_icmp .ge 25, 3) := by decide +kernel
theorem dX1_isAllLetAfter_7 : decode cX1_isAllLetAfter 7 = .ok (.aload_n 0, 1) := by decide +kernel
theorem dX1_isAllLetAfter_8 : decode cX1_isAllLetAfter 8 = .ok (.getfield 9, 3) := by decide +kernel
theorem dX1_isAllLetAfter_11 : decode cX1_isAllLetAfter 11 = .ok (.iload_n 3, 1) := by decide +kernel
theorem dX1_isAllLetAfter_12 : decode cX1_isAllLetAfter 12 = .ok (.laload, 1) := by decide +kernel
theorem dX1_isAllLetAfter_13 : decode cX1_isAllLetAfter 13 = .ok (.lload_n 1, 1) := by decide +kernel
theorem dX1_isAllLetAfter_14 : decode cX1_isAllLetAfter 14 = .ok (.ladd, 1) := by decide +kernel
theorem dX1_isAllLetAfter_15 : decode cX1_isAllLetAfter 15 = .ok (.invokestatic 57, 3) := by decide +kernel
theorem dX1_isAllLetAfter_18 : decode cX1_isAllLetAfter 18 = .ok (.ifCond .ne 5, 3) := by decide +kernel
theorem dX1_isAllLetAfter_21 : decode cX1_isAllLetAfter 21 = .ok (.iconst 0, 1) := by decide +kernel
theorem dX1_isAllLetAfter_22 : decode cX1_isAllLetAfter 22 = .ok (.ireturn, 1) := by decide +kernel
theorem dX1_isAllLetAfter_23 : decode cX1_isAllLetAfter 23 = .ok (.iinc 3 1, 3) := by decide +kernel
theorem dX1_isAllLetAfter_26 : decode cX1_isAllLetAfter 26 = .ok (.goto (-24), 3) := by decide +kernel
theorem dX1_isAllLetAfter_29 : decode cX1_isAllLetAfter 29 = .ok (.aload_n 0, 1) := by decide +kernel
theorem dX1_isAllLetAfter_30 : decode cX1_isAllLetAfter 30 = .ok (.getfield 13, 3) := by decide +kernel
theorem dX1_isAllLetAfter_33 : decode cX1_isAllLetAfter 33 = .ok (.lload_n 1, 1) := by decide +kernel
theorem dX1_isAllLetAfter_34 : decode cX1_isAllLetAfter 34 = .ok (.ladd, 1) := by decide +kernel
theorem dX1_isAllLetAfter_35 : decode cX1_isAllLetAfter 35 = .ok (.invokestatic 57, 3) := by decide +kernel
theorem dX1_isAllLetAfter_38 : decode cX1_isAllLetAfter 38 = .ok (.ifCond .eq 41, 3) := by decide +kernel
theorem dX1_isAllLetAfter_41 : decode cX1_isAllLetAfter 41 = .ok (.aload_n 0, 1) := by decide +kernel
theorem dX1_isAllLetAfter_42 : decode cX1_isAllLetAfter 42 = .ok (.getfield 19, 3) := by decide +kernel
theorem dX1_isAllLetAfter_45 : decode cX1_isAllLetAfter 45 = .ok (.lload_n 1, 1) := by decide +kernel
theorem dX1_isAllLetAfter_46 : decode cX1_isAllLetAfter 46 = .ok (.ladd, 1) := by decide +kernel
theorem dX1_isAllLetAfter_47 : decode cX1_isAllLetAfter 47 = .ok (.invokestatic 57, 3) := by decide +kernel
theorem dX1_isAllLetAfter_50 : decode cX1_isAllLetAfter 50 = .ok (.ifCond .eq 29, 3) := by decide +kernel
theorem dX1_isAllLetAfter_53 : decode cX1_isAllLetAfter 53 = .ok (.aload_n 0, 1) := by decide +kernel
theorem dX1_isAllLetAfter_54 : decode cX1_isAllLetAfter 54 = .ok (.getfield 25, 3) := by decide +kernel
theorem dX1_isAllLetAfter_57 : decode cX1_isAllLetAfter 57 = .ok (.lload_n 1, 1) := by decide +kernel
theorem dX1_isAllLetAfter_58 : decode cX1_isAllLetAfter 58 = .ok (.invokevirtual 292, 3) := by decide +kernel
theorem dX1_isAllLetAfter_61 : decode cX1_isAllLetAfter 61 = .ok (.ifCond .eq 18, 3) := by decide +kernel
theorem dX1_isAllLetAfter_64 : decode cX1_isAllLetAfter 64 = .ok (.aload_n 0, 1) := by decide +kernel
theorem dX1_isAllLetAfter_65 : decode cX1_isAllLetAfter 65 = .ok (.getfield 29, 3) := by decide +kernel
theorem dX1_isAllLetAfter_68 : decode cX1_isAllLetAfter 68 = .ok (.lload_n 1, 1) := by decide +kernel
theorem dX1_isAllLetAfter_69 : decode cX1_isAllLetAfter 69 = .ok (.invokevirtual 292, 3) := by decide +kernel
theorem dX1_isAllLetAfter_72 : decode cX1_isAllLetAfter 72 = .ok (.ifCond .eq 7, 3) := by decide +kernel
theorem dX1_isAllLetAfter_75 : decode cX1_isAllLetAfter 75 = .ok (.iconst 1, 1) := by decide +kernel
theorem dX1_isAllLetAfter_76 : decode cX1_isAllLetAfter 76 = .ok (.goto 4, 3) := by decide +kernel
theorem dX1_isAllLetAfter_79 : decode cX1_isAllLetAfter 79 = .ok (.iconst 0, 1) := by decide +kernel
theorem dX1_isAllLetAfter_80 : decode cX1_isAllLetAfter 80 = .ok (.ireturn, 1) := by decide +kernel
theorem dX1_isInCalendar_0 : decode cX1_isInCalendar 0 = .ok (.lload_n 1, 1) := by decide +kernel
theorem dX1_isInCalendar_1 : decode cX1_isInCalendar 1 = .ok (.aload_n 0, 1) := by decide +kernel
theorem dX1_isInCalendar_2 : decode cX1_isInCalendar 2 = .ok (.getfield 13, 3) := by decide +kernel
theorem dX1_isInCalendar_5 : decode cX1_isInCalendar 5 = .ok (.lcmp, 1) := by decide +kernel
theorem dX1_isInCalendar_6 : decode cX1_isInCalendar 6 = .ok (.ifCond .lt 16, 3) := by decide +kernel
theorem dX1_isInCalendar_9 : decode cX1_isInCalendar 9 = .ok (.lload_n 3, 1) := by decide +kernel
theorem dX1_isInCalendar_10 : decode cX1_isInCalendar 10 = .ok (.aload_n 0, 1) := by decide +kernel
theorem dX1_isInCalendar_11 : decode cX1_isInCalendar 11 = .ok (.getfield 19, 3) := by decide +kernel
theorem dX1_isInCalendar_14 : decode cX1_isInCalendar 14 = .ok (.lcmp, 1) := by decide +kernel
theorem dX1_isInCalendar_15 : decode cX1_isInCalendar 15 = .ok (.ifCond .gt 7, 3) := by decide +kernel
theorem dX1_isInCalendar_18 : decode cX1_isInCalendar 18 = .ok (.iconst 1, 1) := by decide +kernel
theorem dX1_isInCalendar_19 : decode cX1_isInCalendar 19 = .ok (.goto 4, 3) := by decide +kernel
theorem dX1_isInCalendar_22 : decode cX1_isInCalendar 22 = .ok (.iconst 0, 1) := by decide +kernel
theorem dX1_isInCalendar_23 : decode cX1_isInCalendar 23 = .ok (.ireturn, 1) := by decide +kernel
theorem dX1_addSpan_0 : decode cX1_addSpan 0 = .ok (.lload_n 1, 1) := by decide +kernel
theorem dX1_addSpan_1 : decode cX1_addSpan 1 = .ok (.lload_n 3, 1) := by decide +kernel
theorem dX1_addSpan_2 : decode cX1_addSpan 2 = .ok (.lcmp, 1) := by decide +kernel
theorem dX1_addSpan_3 : decode cX1_addSpan 3 = .ok (.ifCond .ge 24, 3) := by decide +kernel
theorem dX1_addSpan_6 : decode cX1_addSpan 6 = .ok (.aload_n 0, 1) := by decide +kernel
theorem dX1_addSpan_7 : decode cX1_addSpan 7 = .ok (.lload_n 1, 1) := by decide +kernel
theorem dX1_addSpan_8 : decode cX1_addSpan 8 = .ok (.lload_n 3, 1) := by decide +kernel
theorem dX1_addSpan_9 : decode cX1_addSpan 9 = .ok (.invokevirtual 180, 3) := by decide +kernel
theorem dX1_addSpan_12 : decode cX1_addSpan 12 = .ok (.ifCond .eq 15, 3) := by decide +kernel
theorem dX1_addSpan_15 : decode cX1_addSpan 15 = .ok (.aload_n 0, 1) := by decide +kernel
theorem dX1_addSpan_16 : decode cX1_addSpan 16 = .ok (.getfield 25, 3) := by decide +kernel
theorem dX1_addSpan_19 : decode cX1_addSpan 19 = .ok (.invokevirtual 96, 3) := by decide +kernel
theorem dX1_addSpan_22 : decode cX1_addSpan 22 = .ok (.bipush 10, 2) := by decide +kernel
theorem dX1_addSpan_24 : decode cX1_addSpan 24 = .ok (.if_icmp .lt 5, 3) := by decide +kernel
theorem dX1_addSpan_27 : decode cX1_addSpan 27 = .ok (.iconst (-1), 1) := by decide +kernel
theorem dX1_addSpan_28 : decode cX1_addSpan 28 = .ok (.ireturn, 1) := by decide +kernel
theorem dX1_addSpan_29 : decode cX1_addSpan 29 = .ok (.iload 5, 2) := by decide +kernel
theorem dX1_addSpan_31 : decode cX1_addSpan 31 = .ok (.ifCond .ne 19, 3) := by decide +kernel
theorem dX1_addSpan_34 : decode cX1_addSpan 34 = .ok (.aload_n 0, 1) := by decide +kernel
theorem dX1_addSpan_35 : decode cX1_addSpan 35 = .ok (.getfield 25, 3) := by decide +kernel
theorem dX1_addSpan_38 : decode cX1_addSpan 38 = .ok (.lload_n 1, 1) := by decide +kernel
theorem dX1_addSpan_39 : decode cX1_addSpan 39 = .ok (.lload_n 3, 1) := by decide +kernel
theorem dX1_addSpan_40 : decode cX1_addSpan 40 = .ok (.iconst (-1), 1) := by decide +kernel
theorem dX1_addSpan_41 : decode cX1_addSpan 41 = .ok (.invokevirtual 184, 3) := by decide +kernel
theorem dX1_addSpan_44 : decode cX1_addSpan 44 = .ok (.iconst (-1), 1) := by decide +kernel
theorem dX1_addSpan_45 : decode cX1_addSpan 45 = .ok (.if_icmp .eq 5, 3) := by decide +kernel
theorem dX1_addSpan_48 : decode cX1_addSpan 48 = .ok (.iconst (-1), 1) := by decide +kernel
theorem dX1_addSpan_49 : decode cX1_addSpan 49 = .ok (.ireturn, 1) := by decide +kernel
theorem dX1_addSpan_50 : decode cX1_addSpan 50 = .ok (.aload_n 0, 1) := by decide +kernel
theorem dX1_addSpan_51 : decode cX1_addSpan 51 = .ok (.getfield 25, 3) := by decide +kernel
theorem dX1_addSpan_54 : decode cX1_addSpan 54 = .ok (.lload_n 1, 1) := by decide +kernel
theorem dX1_addSpan_55 : decode cX1_addSpan 55 = .ok (.lload_n 3, 1) := by decide +kernel
theorem dX1_addSpan_56 : decode cX1_addSpan 56 = .ok (.iload 5, 2) := by decide +kernel
theorem dX1_addSpan_58 : decode cX1_addSpan 58 = .ok (.invokevirtual 139, 3) := by decide +kernel
theorem dX1_addSpan_61 : decode cX1_addSpan 61 = .ok (.ireturn, 1) := by decide +kernel
theorem dX1_changeSpan_0 : decode cX1_changeSpan 0 = .ok (.lload_n 2, 1) := by decide +kernel
theorem dX1_changeSpan_1 : decode cX1_changeSpan 1 = .ok (.lload 4, 2) := by decide +kernel
theorem dX1_changeSpan_3 : decode cX1_changeSpan 3 = .ok (.lcmp, 1) := by decide +kernel
theorem dX1_changeSpan_4 : decode cX1_changeSpan 4 = .ok (.ifCond .ge 28, 3) := by decide +kernel
theorem dX1_changeSpan_7 : decode cX1_changeSpan 7 = .ok (.aload_n 0, 1) := by decide +kernel
theorem dX1_changeSpan_8 : decode cX1_changeSpan 8 = .ok (.lload_n 2, 1) := by decide +kernel
theorem dX1_changeSpan_9 : decode cX1_changeSpan 9 = .ok (.lload 4, 2) := by decide +kernel
theorem dX1_changeSpan_11 : decode cX1_changeSpan 11 = .ok (.invokevirtual 180, 3) := by decide +kernel
theorem dX1_changeSpan_14 : decode cX1_changeSpan 14 = .ok (.ifCond .eq 18, 3) := by decide +kernel
theorem dX1_changeSpan_17 : decode cX1_changeSpan 17 = .ok (.aload_n 0, 1) := by decide +kernel
theorem dX1_changeSpan_18 : decode cX1_changeSpan 18 = .ok (.getfield 25, 3) := by decide +kernel
theorem dX1_changeSpan_21 : decode cX1_changeSpan 21 = .ok (.lload_n 2, 1) := by decide +kernel
theorem dX1_changeSpan_22 : decode cX1_changeSpan 22 = .ok (.lload 4, 2) := by decide +kernel
theorem dX1_changeSpan_24 : decode cX1_changeSpan 24 = .ok (.iload_n 1, 1) := by decide +kernel
theorem dX1_changeSpan_25 : decode cX1_changeSpan 25 = .ok (.invokevirtual 184, 3) := by decide +kernel
theorem dX1_changeSpan_28 : decode cX1_changeSpan 28 = .ok (.iconst (-1), 1) := by decide +kernel
theorem dX1_changeSpan_29 : decode cX1_changeSpan 29 = .ok (.if_icmp .eq 5, 3) := by decide +kernel
theorem dX1_changeSpan_32 : decode cX1_changeSpan 32 = .ok (.iconst 0, 1) := by decide +kernel
theorem dX1_changeSpan_33 : decode cX1_changeSpan 33 = .ok (.ireturn, 1) := by decide +kernel
theorem dX1_changeSpan_34 : decode cX1_changeSpan 34 = .ok (.aload_n 0, 1) := by decide +kernel
theorem dX1_changeSpan_35 : decode cX1_changeSpan 35 = .ok (.getfield 25, 3) := by decide +kernel
theorem dX1_changeSpan_38 : decode cX1_changeSpan 38 = .ok (.iload_n 1, 1) := by decide +kernel
theorem dX1_changeSpan_39 : decode cX1_changeSpan 39 = .ok (.lload_n 2, 1) := by decide +kernel
theorem dX1_changeSpan_40 : decode cX1_changeSpan 40 = .ok (.lload 4, 2) := by decide +kernel
theorem dX1_changeSpan_42 : decode cX1_changeSpan 42 = .ok (.invokevirtual 295, 3) := by decide +kernel
theorem dX1_changeSpan_45 : decode cX1_changeSpan 45 = .ok (.iconst 1, 1) := by decide +kernel
theorem dX1_changeSpan_46 : decode cX1_changeSpan 46 = .ok (.ireturn, 1) := by decide +kernel
theorem dX1_firstWithoutSpan_0 : decode cX1_firstWithoutSpan 0 = .ok (.lload_n 1, 1) := by decide +kernel
theorem dX1_firstWithoutSpan_1 : decode cX1_firstWithoutSpan 1 = .ok (.lstore 5, 2) := by decide +kernel
theorem dX1_firstWithoutSpan_3 : decode cX1_firstWithoutSpan 3 = .ok (.iconst 0, 1) := by decide +kernel
theorem dX1_firstWithoutSpan_4 : decode cX1_firstWithoutSpan 4 = .ok (.istore 7, 2) := by decide +kernel
theorem dX1_firstWithoutSpan_6 : decode cX1_firstWithoutSpan 6 = .ok (.iload 7, 2) := by decide +kernel
theorem dX1_firstWithoutSpan_8 : decode cX1_firstWithoutSpan 8 = .ok (.aload_n 0, 1) := by decide +kernel
theorem dX1_firstWithoutSpan_9 : decode cX1_firstWithoutSpan 9 = .ok (.getfield 25, 3) := by decide +kernel
theorem dX1_firstWithoutSpan_12 : decode cX1_firstWithoutSpan 12 = .ok (.invokevirtual 96, 3) := by decide +kernel
theorem dX1_firstWithoutSpan_15 : decode cX1_firstWithoutSpan 15 = .ok (.if_icmp .ge 45, 3) := by decide +kernel
theorem dX1_firstWithoutSpan_18 : decode cX1_firstWithoutSpan 18 = .ok (.aload_n 0, 1) := by decide +kernel
theorem dX1_firstWithoutSpan_19 : decode cX1_firstWithoutSpan 19 = .ok (.getfield 25, 3) := by decide +kernel
theorem dX1_firstWithoutSpan_22 : decode cX1_firstWithoutSpan 22 = .ok (.lload 5, 2) := by decide +kernel
theorem dX1_firstWithoutSpan_24 : decode cX1_firstWithoutSpan 24 = .ok (.lload 5, 2) := by decide +kernel
theorem dX1_firstWithoutSpan_26 : decode cX1_firstWithoutSpan 26 = .ok (.lload_n 3, 1) := by decide +kernel
theorem dX1_firstWithoutSpan_27 : decode cX1_firstWithoutSpan 27 = .ok (.ladd, 1) := by decide +kernel
theorem dX1_firstWithoutSpan_28 : decode cX1_firstWithoutSpan 28 = .ok (.iconst (-1), 1) := by decide +kernel
theorem dX1_firstWithoutSpan_29 : decode cX1_firstWithoutSpan 29 = .ok (.invokevirtual 184, 3) := by decide +kernel
theorem dX1_firstWithoutSpan_32 : decode cX1_firstWithoutSpan 32 = .ok (.istore 8, 2) := by decide +kernel
theorem dX1_firstWithoutSpan_34 : decode cX1_firstWithoutSpan 34 = .ok (.iload 8, 2) := by decide +kernel
theorem dX1_firstWithoutSpan_36 : decode cX1_firstWithoutSpan 36 = .ok (.iconst (-1), 1) := by decide +kernel
theorem dX1_firstWithoutSpan_37 : decode cX1_firstWithoutSpan 37 = .ok (.if_icmp .ne 6, 3) := by decide +kernel
theorem dX1_firstWithoutSpan_40 : decode cX1_firstWithoutSpan 40 = .ok (.lload 5, 2) := by decide +kernel
theorem dX1_firstWithoutSpan_42 : decode cX1_firstWithoutSpan 42 = .ok (.lreturn, 1) := by decide +kernel
theorem dX1_firstWithoutSpan_43 : decode cX1_firstWithoutSpan 43 = .ok (.aload_n 0, 1) := by decide +kernel
theorem dX1_firstWithoutSpan_44 : decode cX1_firstWithoutSpan 44 = .ok (.getfield 25, 3) := by decide +kernel
theorem dX1_firstWithoutSpan_47 : decode cX1_firstWithoutSpan 47 = .ok (.iload 8, 2) := by decide +kernel
theorem dX1_firstWithoutSpan_49 : decode cX1_firstWithoutSpan 49 = .ok (.invokevirtual 117, 3) := by decide +kernel
theorem dX1_firstWithoutSpan_52 : decode cX1_firstWithoutSpan 52 = .ok (.lstore 5, 2) := by decide +kernel
theorem dX1_firstWithoutSpan_54 : decode cX1_firstWithoutSpan 54 = .ok (.iinc 7 1, 3) := by decide +kernel
theorem dX1_firstWithoutSpan_57 : decode cX1_firstWithoutSpan 57 = .ok (.goto (-51), 3) := by decide +kernel
theorem dX1_firstWithoutSpan_60 : decode cX1_firstWithoutSpan 60 = .ok (.lload 5, 2) := by decide +kernel
theorem dX1_firstWithoutSpan_62 : decode cX1_firstWithoutSpan 62 = .ok (.lreturn, 1) := by decide +kernel
theorem dX1_firstTaken_0 : decode cX1_firstTaken 0 = .ok (.aload_n 0, 1) := by decide +kernel
theorem dX1_firstTaken_1 : decode cX1_firstTaken 1 = .ok (.getfield 25, 3) := by decide +kernel
theorem dX1_firstTaken_4 : decode cX1_firstTaken 4 = .ok (.lload_n 1, 1) := by decide +kernel
theorem dX1_firstTaken_5 : decode cX1_firstTaken 5 = .ok (.invokevirtual 174, 3) := by decide +kernel
theorem dX1_firstTaken_8 : decode cX1_firstTaken 8 = .ok (.iconst (-1), 1) := by decide +kernel
theorem dX1_firstTaken_9 : decode cX1_firstTaken 9 = .ok (.if_icmp .ne 18, 3) := by decide +kernel
theorem dX1_firstTaken_12 : decode cX1_firstTaken 12 = .ok (.aload_n 0, 1) := by decide +kernel
theorem dX1_firstTaken_13 : decode cX1_firstTaken 13 = .ok (.getfield 25, 3) := by decide +kernel
theorem dX1_firstTaken_16 : decode cX1_firstTaken 16 = .ok (.lload_n 1, 1) := by decide +kernel
theorem dX1_firstTaken_17 : decode cX1_firstTaken 17 = .ok (.aload_n 0, 1) := by decide +kernel
theorem dX1_firstTaken_18 : decode cX1_firstTaken 18 = .ok (.getfield 19, 3) := by decide +kernel
theorem dX1_firstTaken_21 : decode cX1_firstTaken 21 = .ok (.invokevirtual 299, 3) := by decide +kernel
theorem dX1_firstTaken_24 : decode cX1_firstTaken 24 = .ok (.goto 4, 3) := by decide +kernel
theorem dX1_firstTaken_27 : decode cX1_firstTaken 27 = .ok (.lload_n 1, 1) := by decide +kernel
theorem dX1_firstTaken_28 : decode cX1_firstTaken 28 = .ok (.lreturn, 1) := by decide +kernel
theorem dX1_findFrees_0 : decode cX1_findFrees 0 = .ok (.aload_n 0, 1) := by decide +kernel
theorem dX1_findFrees_1 : decode cX1_findFrees 1 = .ok (.getfield 32, 3) := by decide +kernel
theorem dX1_findFrees_4 : decode cX1_findFrees 4 = .ok (.invokevirtual 99, 3) := by decide +kernel
theorem dX1_findFrees_7 : decode cX1_findFrees 7 = .ok (.pop, 1) := by decide +kernel
theorem dX1_findFrees_8 : decode cX1_findFrees 8 = .ok (.aload_n 0, 1) := by decide +kernel
theorem dX1_findFrees_9 : decode cX1_findFrees 9 = .ok (.getfield 13, 3) := by decide +kernel
theorem dX1_findFrees_12 : decode cX1_findFrees 12 = .ok (.lstore_n 1, 1) := by decide +kernel
theorem dX1_findFrees_13 : decode cX1_findFrees 13 = .ok (.iconst 0, 1) := by decide +kernel
theorem dX1_findFrees_14 : decode cX1_findFrees 14 = .ok (.istore_n 3, 1) := by decide +kernel
theorem dX1_findFrees_15 : decode cX1_findFrees 15 = .ok (.iload_n 3, 1) := by decide +kernel
theorem dX1_findFrees_16 : decode cX1_findFrees 16 = .ok (.aload_n 0, 1) := by decide +kernel
theorem dX1_findFrees_17 : decode cX1_findFrees 17 = .ok (.getfield 25, 3) := by decide +kernel
theorem dX1_findFrees_20 : decode cX1_findFrees 20 = .ok (.invokevirtual 96, 3) := by decide +kernel
theorem dX1_findFrees_23 : decode cX1_findFrees 23 = .ok (.if_icmp .gt 52, 3) := by decide +kernel
theorem dX1_findFrees_26 : decode cX1_findFrees 26 = .ok (.lload_n 1, 1) := by decide +kernel
theorem dX1_findFrees_27 : decode cX1_findFrees 27 = .ok (.aload_n 0, 1) := by decide +kernel
theorem dX1_findFrees_28 : decode cX1_findFrees 28 = .ok (.getfield 19, 3) := by decide +kernel
theorem dX1_findFrees_31 : decode cX1_findFrees 31 = .ok (.lcmp, 1) := by decide +kernel
theorem dX1_findFrees_32 : decode cX1_findFrees 32 = .ok (.ifCond .ge 43, 3) := by decide +kernel
theorem dX1_findFrees_35 : decode cX1_findFrees 35 = .ok (.aload_n 0, 1) := by decide +kernel
theorem dX1_findFrees_36 : decode cX1_findFrees 36 = .ok (.lload_n 1, 1) := by decide +kernel
theorem dX1_findFrees_37 : decode cX1_findFrees 37 = .ok (.lconst 1, 1) := by decide +kernel
theorem dX1_findFrees_38 : decode cX1_findFrees 38 = .ok (.invokevirtual 136, 3) := by decide +kernel
theorem dX1_findFrees_41 : decode cX1_findFrees 41 = .ok (.lstore 4, 2) := by decide +kernel
theorem dX1_findFrees_43 : decode cX1_findFrees 43 = .ok (.aload_n 0, 1) := by decide +kernel
theorem dX1_findFrees_44 : decode cX1_findFrees 44 = .ok (.lload 4, 2) := by decide +kernel
theorem dX1_findFrees_46 : decode cX1_findFrees 46 = .ok (.invokevirtual 302, 3) := by decide +kernel
theorem dX1_findFrees_49 : decode cX1_findFrees 49 = .ok (.lstore_n 1, 1) := by decide +kernel
theorem dX1_findFrees_50 : decode cX1_findFrees 50 = .ok (.lload 4, 2) := by decide +kernel
theorem dX1_findFrees_52 : decode cX1_findFrees 52 = .ok (.lload_n 1, 1) := by decide +kernel
theorem dX1_findFrees_53 : decode cX1_findFrees 53 = .ok (.lcmp, 1) := by decide +kernel
theorem dX1_findFrees_54 : decode cX1_findFrees 54 = .ok (.ifCond .ge 15, 3) := by decide +kernel
theorem dX1_findFrees_57 : decode cX1_findFrees 57 = .ok (.aload_n 0, 1) := by decide +kernel
theorem dX1_findFrees_58 : decode cX1_findFrees 58 = .ok (.getfield 32, 3) := by decide +kernel
theorem dX1_findFrees_61 : decode cX1_findFrees 61 = .ok (.lload 4, 2) := by decide +kernel
theorem dX1_findFrees_63 : decode cX1_findFrees 63 = .ok (.lload_n 1, 1) := by decide +kernel
theorem dX1_findFrees_64 : decode cX1_findFrees 64 = .ok (.iconst 0, 1) := by decide +kernel
theorem dX1_findFrees_65 : decode cX1_findFrees 65 = .ok (.invokevirtual 139, 3) := by decide +kernel
theorem dX1_findFrees_68 : decode cX1_findFrees 68 = .ok (.pop, 1) := by decide +kernel
theorem dX1_findFrees_69 : decode cX1_findFrees 69 = .ok (.iinc 3 1, 3) := by decide +kernel
theorem dX1_findFrees_72 : decode cX1_findFrees 72 = .ok (.goto (-57), 3) := by decide +kernel
theorem dX1_findFrees_75 : decode cX1_findFrees 75 = .ok (.return_, 1) := by decide +kernel
theorem dX1_freeLength_0 : decode cX1_freeLength 0 = .ok (.lconst 0, 1) := by decide +kernel
theorem dX1_freeLength_1 : decode cX1_freeLength 1 = .ok (.lstore_n 1, 1) := by decide +kernel
theorem dX1_freeLength_2 : decode cX1_freeLength 2 = .ok (.iconst 0, 1) := by decide +kernel
theorem dX1_freeLength_3 : decode cX1_freeLength 3 = .ok (.istore_n 3, 1) := by decide +kernel
theorem dX1_freeLength_4 : decode cX1_freeLength 4 = .ok (.iload_n 3, 1) := by decide +kernel
theorem dX1_freeLength_5 : decode cX1_freeLength 5 = .ok (.aload_n 0, 1) := by decide +kernel
theorem dX1_freeLength_6 : decode cX1_freeLength 6 = .ok (.getfield 32, 3) := by decide +kernel
theorem dX1_freeLength_9 : decode cX1_freeLength 9 = .ok (.invokevirtual 96, 3) := by decide +kernel
theorem dX1_freeLength_12 : decode cX1_freeLength 12 = .ok (.if_icmp .ge 29, 3) := by decide +kernel
theorem dX1_freeLength_15 : decode cX1_freeLength 15 = .ok (.lload_n 1, 1) := by decide +kernel
theorem dX1_freeLength_16 : decode cX1_freeLength 16 = .ok (.aload_n 0, 1) := by decide +kernel
theorem dX1_freeLength_17 : decode cX1_freeLength 17 = .ok (.getfield 32, 3) := by decide +kernel
theorem dX1_freeLength_20 : decode cX1_freeLength 20 = .ok (.iload_n 3, 1) := by decide +kernel
theorem dX1_freeLength_21 : decode cX1_freeLength 21 = .ok (.invokevirtual 117, 3) := by decide +kernel
theorem dX1_freeLength_24 : decode cX1_freeLength 24 = .ok (.aload_n 0, 1) := by decide +kernel
theorem dX1_freeLength_25 : decode cX1_freeLength 25 = .ok (.getfield 32, 3) := by decide +kernel
theorem dX1_freeLength_28 : decode cX1_freeLength 28 = .ok (.iload_n 3, 1) := by decide +kernel
theorem dX1_freeLength_29 : decode cX1_freeLength 29 = .ok (.invokevirtual 113, 3) := by decide +kernel
theorem dX1_freeLength_32 : decode cX1_freeLength 32 = .ok (.lsub, 1) := by decide +kernel
theorem dX1_freeLength_33 : decode cX1_freeLength 33 = .ok (.ladd, 1) := by decide +kernel
theorem dX1_freeLength_34 : decode cX1_freeLength 34 = .ok (.lstore_n 1, 1) := by decide +kernel
theorem dX1_freeLength_35 : decode cX1_freeLength 35 = .ok (.iinc 3 1, 3) := by decide +kernel
theorem dX1_freeLength_38 : decode cX1_freeLength 38 = .ok (.goto (-34), 3) := by decide +kernel
theorem dX1_freeLength_41 : decode cX1_freeLength 41 = .ok (.lload_n 1, 1) := by decide +kernel
theorem dX1_freeLength_42 : decode cX1_freeLength 42 = .ok (.lreturn, 1) := by decide +kernel
theorem dX1_takenLength_0 : decode cX1_takenLength 0 = .ok (.lconst 0, 1) := by decide +kernel
theorem dX1_takenLength_1 : decode cX1_takenLength 1 = .ok (.lstore_n 1, 1) := by decide +kernel
theorem dX1_takenLength_2 : decode cX1_takenLength 2 = .ok (.aload_n 0, 1) := by decide +kernel
theorem dX1_takenLength_3 : decode cX1_takenLength 3 = .ok (.getfield 13, 3) := by decide +kernel
theorem dX1_takenLength_6 : decode cX1_takenLength 6 = .ok (.lstore_n 3, 1) := by decide +kernel
theorem dX1_takenLength_7 : decode cX1_takenLength 7 = .ok (.iconst 0, 1) := by decide +kernel
theorem dX1_takenLength_8 : decode cX1_takenLength 8 = .ok (.istore 5, 2) := by decide +kernel
theorem dX1_takenLength_10 : decode cX1_takenLength 10 = .ok (.iload 5, 2) := by decide +kernel
theorem dX1_takenLength_12 : decode cX1_takenLength 12 = .ok (.aload_n 0, 1) := by decide +kernel
theorem dX1_takenLength_13 : decode cX1_takenLength 13 = .ok (.getfield 25, 3) := by decide +kernel
theorem dX1_takenLength_16 : decode cX1_takenLength 16 = .ok (.invokevirtual 96, 3) := by decide +kernel
theorem dX1_takenLength_19 : decode cX1_takenLength 19 = .ok (.if_icmp .gt 40, 3) := by decide +kernel
theorem dX1_takenLength_22 : decode cX1_takenLength 22 = .ok (.lload_n 3, 1) := by decide +kernel
theorem dX1_takenLength_23 : decode cX1_takenLength 23 = .ok (.aload_n 0, 1) := by decide +kernel
theorem dX1_takenLength_24 : decode cX1_takenLength 24 = .ok (.getfield 19, 3) := by decide +kernel
theorem dX1_takenLength_27 : decode cX1_takenLength 27 = .ok (.lcmp, 1) := by decide +kernel
theorem dX1_takenLength_28 : decode cX1_takenLength 28 = .ok (.ifCond .ge 31, 3) := by decide +kernel
theorem dX1_takenLength_31 : decode cX1_takenLength 31 = .ok (.aload_n 0, 1) := by decide +kernel
theorem dX1_takenLength_32 : decode cX1_takenLength 32 = .ok (.lload_n 3, 1) := by decide +kernel
theorem dX1_takenLength_33 : decode cX1_takenLength 33 = .ok (.invokevirtual 302, 3) := by decide +kernel
theorem dX1_takenLength_36 : decode cX1_takenLength 36 = .ok (.lstore 6, 2) := by decide +kernel
theorem dX1_takenLength_38 : decode cX1_takenLength 38 = .ok (.aload_n 0, 1) := by decide +kernel
theorem dX1_takenLength_39 : decode cX1_takenLength 39 = .ok (.lload 6, 2) := by decide +kernel
theorem dX1_takenLength_41 : decode cX1_takenLength 41 = .ok (.lconst 1, 1) := by decide +kernel
theorem dX1_takenLength_42 : decode cX1_takenLength 42 = .ok (.invokevirtual 136, 3) := by decide +kernel
theorem dX1_takenLength_45 : decode cX1_takenLength 45 = .ok (.lstore_n 3, 1) := by decide +kernel
theorem dX1_takenLength_46 : decode cX1_takenLength 46 = .ok (.lload_n 1, 1) := by decide +kernel
theorem dX1_takenLength_47 : decode cX1_takenLength 47 = .ok (.lload_n 3, 1) := by decide +kernel
theorem dX1_takenLength_48 : decode cX1_takenLength 48 = .ok (.lload 6, 2) := by decide +kernel
theorem dX1_takenLength_50 : decode cX1_takenLength 50 = .ok (.lsub, 1) := by decide +kernel
theorem dX1_takenLength_51 : decode cX1_takenLength 51 = .ok (.ladd, 1) := by decide +kernel
theorem dX1_takenLength_52 : decode cX1_takenLength 52 = .ok (.lstore_n 1, 1) := by decide +kernel
theorem dX1_takenLength_53 : decode cX1_takenLength 53 = .ok (.iinc 5 1, 3) := by decide +kernel
theorem dX1_takenLength_56 : decode cX1_takenLength 56 = .ok (.goto (-46), 3) := by decide +kernel
theorem dX1_takenLength_59 : decode cX1_takenLength 59 = .ok (.lload_n 1, 1) := by decide +kernel
theorem dX1_takenLength_60 : decode cX1_takenLength 60 = .ok (.lreturn, 1) := by decide +kernel
theorem dX1_setOfAllWishes_0 : decode cX1_setOfAllWishes 0 = .ok (.iconst 1, 1) := by decide +kernel
theorem dX1_setOfAllWishes_1 : decode cX1_setOfAllWishes 1 = .ok (.aload_n 0, 1) := by decide +kernel
theorem dX1_setOfAllWishes_2 : decode cX1_setOfAllWishes 2 = .ok (.getfield 29, 3) := by decide +kernel
theorem dX1_setOfAllWishes_5 : decode cX1_setOfAllWishes 5 = .ok (.invokevirtual 96, 3) := by decide +kernel
theorem dX1_setOfAllWishes_8 : decode cX1_setOfAllWishes 8 = .ok (.ishl, 1) := by decide +kernel
theorem dX1_setOfAllWishes_9 : decode cX1_setOfAllWishes 9 = .ok (.iconst 1, 1) := by decide +kernel
theorem dX1_setOfAllWishes_10 : decode cX1_setOfAllWishes 10 = .ok (.isub, 1) := by decide +kernel
theorem dX1_setOfAllWishes_11 : decode cX1_setOfAllWishes 11 = .ok (.ireturn, 1) := by decide +kernel
theorem dX1_meetsOneOf_0 : decode cX1_meetsOneOf 0 = .ok (.iconst 0, 1) := by decide +kernel
theorem dX1_meetsOneOf_1 : decode cX1_meetsOneOf 1 = .ok (.istore_n 3, 1) := by decide +kernel
theorem dX1_meetsOneOf_2 : decode cX1_meetsOneOf 2 = .ok (.iload_n 3, 1) := by decide +kernel
theorem dX1_meetsOneOf_3 : decode cX1_meetsOneOf 3 = .ok (.aload_n 0, 1) := by decide +kernel
theorem dX1_meetsOneOf_4 : decode cX1_meetsOneOf 4 = .ok (.getfield 29, 3) := by decide +kernel
theorem dX1_meetsOneOf_7 : decode cX1_meetsOneOf 7 = .ok (.invokevirtual 96, 3) := by decide +kernel
theorem dX1_meetsOneOf_10 : decode cX1_meetsOneOf 10 = .ok (.if_icmp .ge 32, 3) := by decide +kernel
theorem dX1_meetsOneOf_13 : decode cX1_meetsOneOf 13 = .ok (.iload_n 2, 1) := by decide +kernel
theorem dX1_meetsOneOf_14 : decode cX1_meetsOneOf 14 = .ok (.iload_n 3, 1) := by decide +kernel
theorem dX1_meetsOneOf_15 : decode cX1_meetsOneOf 15 = .ok (.ishr, 1) := by decide +kernel
theorem dX1_meetsOneOf_16 : decode cX1_meetsOneOf 16 = .ok (.iconst 1, 1) := by decide +kernel
theorem dX1_meetsOneOf_17 : decode cX1_meetsOneOf 17 = .ok (.iand, 1) := by decide +kernel
theorem dX1_meetsOneOf_18 : decode cX1_meetsOneOf 18 = .ok (.iconst 1, 1) := by decide +kernel
theorem dX1_meetsOneOf_19 : decode cX1_meetsOneOf 19 = .ok (.if_icmp .ne 17, 3) := by decide +kernel
theorem dX1_meetsOneOf_22 : decode cX1_meetsOneOf 22 = .ok (.aload_n 0, 1) := by decide +kernel
theorem dX1_meetsOneOf_23 : decode cX1_meetsOneOf 23 = .ok (.getfield 29, 3) := by decide +kernel
theorem dX1_meetsOneOf_26 : decode cX1_meetsOneOf 26 = .ok (.iload_n 1, 1) := by decide +kernel
theorem dX1_meetsOneOf_27 : decode cX1_meetsOneOf 27 = .ok (.iload_n 3, 1) := by decide +kernel
theorem dX1_meetsOneOf_28 : decode cX1_meetsOneOf 28 = .ok (.invokevirtual 170, 3) := by decide +kernel
theorem dX1_meetsOneOf_31 : decode cX1_meetsOneOf 31 = .ok (.ifCond .eq 5, 3) := by decide +kernel
theorem dX1_meetsOneOf_34 : decode cX1_meetsOneOf 34 = .ok (.iconst 1, 1) := by decide +kernel
theorem dX1_meetsOneOf_35 : decode cX1_meetsOneOf 35 = .ok (.ireturn, 1) := by decide +kernel
theorem dX1_meetsOneOf_36 : decode cX1_meetsOneOf 36 = .ok (.iinc 3 1, 3) := by decide +kernel
theorem dX1_meetsOneOf_39 : decode cX1_meetsOneOf 39 = .ok (.goto (-37), 3) := by decide +kernel
theorem dX1_meetsOneOf_42 : decode cX1_meetsOneOf 42 = .ok (.iconst 0, 1) := by decide +kernel
theorem dX1_meetsOneOf_43 : decode cX1_meetsOneOf 43 = .ok (.ireturn, 1) := by decide +kernel
theorem dX1_isWithoutMeeting_0 : decode cX1_isWithoutMeeting 0 = .ok (.iconst 0, 1) := by decide +kernel
theorem dX1_isWithoutMeeting_1 : decode cX1_isWithoutMeeting 1 = .ok (.istore_n 2, 1) := by decide +kernel
theorem dX1_isWithoutMeeting_2 : decode cX1_isWithoutMeeting 2 = .ok (.iload_n 2, 1) := by decide +kernel
theorem dX1_isWithoutMeeting_3 : decode cX1_isWithoutMeeting 3 = .ok (.aload_n 0, 1) := by decide +kernel
theorem dX1_isWithoutMeeting_4 : decode cX1_isWithoutMeeting 4 = .ok (.getfield 29, 3) := by decide +kernel
theorem dX1_isWithoutMeeting_7 : decode cX1_isWithoutMeeting 7 = .ok (.invokevirtual 96, 3) := by decide +kernel
theorem dX1_isWithoutMeeting_10 : decode cX1_isWithoutMeeting 10 = .ok (.if_icmp .ge 32, 3) := by decide +kernel
theorem dX1_isWithoutMeeting_13 : decode cX1_isWithoutMeeting 13 = .ok (.iconst 1, 1) := by decide +kernel
theorem dX1_isWithoutMeeting_14 : decode cX1_isWithoutMeeting 14 = .ok (.iload_n 2, 1) := by decide +kernel
theorem dX1_isWithoutMeeting_15 : decode cX1_isWithoutMeeting 15 = .ok (.ishl, 1) := by decide +kernel
theorem dX1_isWithoutMeeting_16 : decode cX1_isWithoutMeeting 16 = .ok (.istore_n 3, 1) := by decide +kernel
theorem dX1_isWithoutMeeting_17 : decode cX1_isWithoutMeeting 17 = .ok (.iload_n 1, 1) := by decide +kernel
theorem dX1_isWithoutMeeting_18 : decode cX1_isWithoutMeeting 18 = .ok (.iload_n 3, 1) := by decide +kernel
theorem dX1_isWithoutMeeting_19 : decode cX1_isWithoutMeeting 19 = .ok (.iand, 1) := by decide +kernel
theorem dX1_isWithoutMeeting_20 : decode cX1_isWithoutMeeting 20 = .ok (.ifCond .eq 16, 3) := by decide +kernel
theorem dX1_isWithoutMeeting_23 : decode cX1_isWithoutMeeting 23 = .ok (.aload_n 0, 1) := by decide +kernel
theorem dX1_isWithoutMeeting_24 : decode cX1_isWithoutMeeting 24 = .ok (.iload_n 2, 1) := by decide +kernel
theorem dX1_isWithoutMeeting_25 : decode cX1_isWithoutMeeting 25 = .ok (.iload_n 1, 1) := by decide +kernel
theorem dX1_isWithoutMeeting_26 : decode cX1_isWithoutMeeting 26 = .ok (.iload_n 3, 1) := by decide +kernel
theorem dX1_isWithoutMeeting_27 : decode cX1_isWithoutMeeting 27 = .ok (.isub, 1) := by decide +kernel
theorem dX1_isWithoutMeeting_28 : decode cX1_isWithoutMeeting 28 = .ok (.invokevirtual 305, 3) := by decide +kernel
theorem dX1_isWithoutMeeting_31 : decode cX1_isWithoutMeeting 31 = .ok (.ifCond .eq 5, 3) := by decide +kernel
theorem dX1_isWithoutMeeting_34 : decode cX1_isWithoutMeeting 34 = .ok (.iconst 0, 1) := by decide +kernel
theorem dX1_isWithoutMeeting_35 : decode cX1_isWithoutMeeting 35 = .ok (.ireturn, 1) := by decide +kernel
theorem dX1_isWithoutMeeting_36 : decode cX1_isWithoutMeeting 36 = .ok (.iinc 2 1, 3) := by decide +kernel
theorem dX1_isWithoutMeeting_39 : decode cX1_isWithoutMeeting 39 = .ok (.goto (-37), 3) := by decide +kernel
theorem dX1_isWithoutMeeting_42 : decode cX1_isWithoutMeeting 42 = .ok (.iconst 1, 1) := by decide +kernel
theorem dX1_isWithoutMeeting_43 : decode cX1_isWithoutMeeting 43 = .ok (.ireturn, 1) := by decide +kernel
theorem dX1_nextChosen_0 : decode cX1_nextChosen 0 = .ok (.iconst (-1), 1) := by decide +kernel
theorem dX1_nextChosen_1 : decode cX1_nextChosen 1 = .ok (.istore_n 2, 1) := by decide +kernel
theorem dX1_nextChosen_2 : decode cX1_nextChosen 2 = .ok (.iconst 0, 1) := by decide +kernel
theorem dX1_nextChosen_3 : decode cX1_nextChosen 3 = .ok (.istore_n 3, 1) := by decide +kernel
theorem dX1_nextChosen_4 : decode cX1_nextChosen 4 = .ok (.iload_n 3, 1) := by decide +kernel
theorem dX1_nextChosen_5 : decode cX1_nextChosen 5 = .ok (.aload_n 0, 1) := by decide +kernel
theorem dX1_nextChosen_6 : decode cX1_nextChosen 6 = .ok (.getfield 29, 3) := by decide +kernel
theorem dX1_nextChosen_9 : decode cX1_nextChosen 9 = .ok (.invokevirtual 96, 3) := by decide +kernel
theorem dX1_nextChosen_12 : decode cX1_nextChosen 12 = .ok (.if_icmp .ge 45, 3) := by decide +kernel
theorem dX1_nextChosen_15 : decode cX1_nextChosen 15 = .ok (.aload_n 0, 1) := by decide +kernel
theorem dX1_nextChosen_16 : decode cX1_nextChosen 16 = .ok (.iload_n 3, 1) := by decide +kernel
theorem dX1_nextChosen_17 : decode cX1_nextChosen 17 = .ok (.iload_n 1, 1) := by decide +kernel
theorem dX1_nextChosen_18 : decode cX1_nextChosen 18 = .ok (.invokevirtual 305, 3) := by decide +kernel
theorem dX1_nextChosen_21 : decode cX1_nextChosen 21 = .ok (.ifCond .ne 30, 3) := by decide +kernel
theorem dX1_nextChosen_24 : decode cX1_nextChosen 24 = .ok (.iload_n 2, 1) := by decide +kernel
theorem dX1_nextChosen_25 : decode cX1_nextChosen 25 = .ok (.iconst (-1), 1) := by decide +kernel
theorem dX1_nextChosen_26 : decode cX1_nextChosen 26 = .ok (.if_icmp .eq 23, 3) := by decide +kernel
theorem dX1_nextChosen_29 : decode cX1_nextChosen 29 = .ok (.aload_n 0, 1) := by decide +kernel
theorem dX1_nextChosen_30 : decode cX1_nextChosen 30 = .ok (.getfield 29, 3) := by decide +kernel
theorem dX1_nextChosen_33 : decode cX1_nextChosen 33 = .ok (.iload_n 3, 1) := by decide +kernel
theorem dX1_nextChosen_34 : decode cX1_nextChosen 34 = .ok (.invokevirtual 117, 3) := by decide +kernel
theorem dX1_nextChosen_37 : decode cX1_nextChosen 37 = .ok (.aload_n 0, 1) := by decide +kernel
theorem dX1_nextChosen_38 : decode cX1_nextChosen 38 = .ok (.getfield 29, 3) := by decide +kernel
theorem dX1_nextChosen_41 : decode cX1_nextChosen 41 = .ok (.iload_n 2, 1) := by decide +kernel
theorem dX1_nextChosen_42 : decode cX1_nextChosen 42 = .ok (.invokevirtual 117, 3) := by decide +kernel
theorem dX1_nextChosen_45 : decode cX1_nextChosen 45 = .ok (.lcmp, 1) := by decide +kernel
theorem dX1_nextChosen_46 : decode cX1_nextChosen 46 = .ok (.ifCond .ge 5, 3) := by decide +kernel
theorem dX1_nextChosen_49 : decode cX1_nextChosen 49 = .ok (.iload_n 3, 1) := by decide +kernel
theorem dX1_nextChosen_50 : decode cX1_nextChosen 50 = .ok (.istore_n 2, 1) := by decide +kernel
theorem dX1_nextChosen_51 : decode cX1_nextChosen 51 = .ok (.iinc 3 1, 3) := by decide +kernel
theorem dX1_nextChosen_54 : decode cX1_nextChosen 54 = .ok (.goto (-50), 3) := by decide +kernel
theorem dX1_nextChosen_57 : decode cX1_nextChosen 57 = .ok (.iload_n 2, 1) := by decide +kernel
theorem dX1_nextChosen_58 : decode cX1_nextChosen 58 = .ok (.ireturn, 1) := by decide +kernel
theorem dX1_mostOfAllSets_0 : decode cX1_mostOfAllSets 0 = .ok (.iconst 0, 1) := by decide +kernel
theorem dX1_mostOfAllSets_1 : decode cX1_mostOfAllSets 1 = .ok (.istore_n 1, 1) := by decide +kernel
theorem dX1_mostOfAllSets_2 : decode cX1_mostOfAllSets 2 = .ok (.aload_n 0, 1) := by decide +kernel
theorem dX1_mostOfAllSets_3 : decode cX1_mostOfAllSets 3 = .ok (.invokevirtual 198, 3) := by decide +kernel
theorem dX1_mostOfAllSets_6 : decode cX1_mostOfAllSets 6 = .ok (.istore_n 2, 1) := by decide +kernel
theorem dX1_mostOfAllSets_7 : decode cX1_mostOfAllSets 7 = .ok (.iconst 0, 1) := by decide +kernel
theorem dX1_mostOfAllSets_8 : decode cX1_mostOfAllSets 8 = .ok (.istore_n 3, 1) := by decide +kernel
theorem dX1_mostOfAllSets_9 : decode cX1_mostOfAllSets 9 = .ok (.iload_n 3, 1) := by decide +kernel
theorem dX1_mostOfAllSets_10 : decode cX1_mostOfAllSets 10 = .ok (.iload_n 2, 1) := by decide +kernel
theorem dX1_mostOfAllSets_11 : decode cX1_mostOfAllSets 11 = .ok (.if_icmp .gt 32, 3) := by decide +kernel
theorem dX1_mostOfAllSets_14 : decode cX1_mostOfAllSets 14 = .ok (.iload_n 3, 1) := by decide +kernel
theorem dX1_mostOfAllSets_15 : decode cX1_mostOfAllSets 15 = .ok (.invokestatic 210, 3) := by decide +kernel
theorem dX1_mostOfAllSets_18 : decode cX1_mostOfAllSets 18 = .ok (.istore 4, 2) := by decide +kernel
theorem dX1_mostOfAllSets_20 : decode cX1_mostOfAllSets 20 = .ok (.iload 4, 2) := by decide +kernel
theorem dX1_mostOfAllSets_22 : decode cX1_mostOfAllSets 22 = .ok (.iload_n 1, 1) := by decide +kernel
theorem dX1_mostOfAllSets_23 : decode cX1_mostOfAllSets 23 = .ok (.if_icmp .le 14, 3) := by decide +kernel
theorem dX1_mostOfAllSets_26 : decode cX1_mostOfAllSets 26 = .ok (.aload_n 0, 1) := by decide +kernel
theorem dX1_mostOfAllSets_27 : decode cX1_mostOfAllSets 27 = .ok (.iload_n 3, 1) := by decide +kernel
theorem dX1_mostOfAllSets_28 : decode cX1_mostOfAllSets 28 = .ok (.invokevirtual 201, 3) := by decide +kernel
theorem dX1_mostOfAllSets_31 : decode cX1_mostOfAllSets 31 = .ok (.ifCond .eq 6, 3) := by decide +kernel
theorem dX1_mostOfAllSets_34 : decode cX1_mostOfAllSets 34 = .ok (.iload 4, 2) := by decide +kernel
theorem dX1_mostOfAllSets_36 : decode cX1_mostOfAllSets 36 = .ok (.istore_n 1, 1) := by decide +kernel
theorem dX1_mostOfAllSets_37 : decode cX1_mostOfAllSets 37 = .ok (.iinc 3 1, 3) := by decide +kernel
theorem dX1_mostOfAllSets_40 : decode cX1_mostOfAllSets 40 = .ok (.goto (-31), 3) := by decide +kernel
theorem dX1_mostOfAllSets_43 : decode cX1_mostOfAllSets 43 = .ok (.iload_n 1, 1) := by decide +kernel
theorem dX1_mostOfAllSets_44 : decode cX1_mostOfAllSets 44 = .ok (.ireturn, 1) := by decide +kernel
theorem dX1_firstWithoutRoom_0 : decode cX1_firstWithoutRoom 0 = .ok (.iconst (-1), 1) := by decide +kernel
theorem dX1_firstWithoutRoom_1 : decode cX1_firstWithoutRoom 1 = .ok (.istore_n 1, 1) := by decide +kernel
theorem dX1_firstWithoutRoom_2 : decode cX1_firstWithoutRoom 2 = .ok (.iconst 0, 1) := by decide +kernel
theorem dX1_firstWithoutRoom_3 : decode cX1_firstWithoutRoom 3 = .ok (.istore_n 2, 1) := by decide +kernel
theorem dX1_firstWithoutRoom_4 : decode cX1_firstWithoutRoom 4 = .ok (.iload_n 2, 1) := by decide +kernel
theorem dX1_firstWithoutRoom_5 : decode cX1_firstWithoutRoom 5 = .ok (.aload_n 0, 1) := by decide +kernel
theorem dX1_firstWithoutRoom_6 : decode cX1_firstWithoutRoom 6 = .ok (.getfield 29, 3) := by decide +kernel
theorem dX1_firstWithoutRoom_9 : decode cX1_firstWithoutRoom 9 = .ok (.invokevirtual 96, 3) := by decide +kernel
theorem dX1_firstWithoutRoom_12 : decode cX1_firstWithoutRoom 12 = .ok (.if_icmp .ge 46, 3) := by decide +kernel
theorem dX1_firstWithoutRoom_15 : decode cX1_firstWithoutRoom 15 = .ok (.aload_n 0, 1) := by decide +kernel
theorem dX1_firstWithoutRoom_16 : decode cX1_firstWithoutRoom 16 = .ok (.getfield 35, 3) := by decide +kernel
theorem dX1_firstWithoutRoom_19 : decode cX1_firstWithoutRoom 19 = .ok (.iload_n 2, 1) := by decide +kernel
theorem dX1_firstWithoutRoom_20 : decode cX1_firstWithoutRoom 20 = .ok (.iaload, 1) := by decide +kernel
theorem dX1_firstWithoutRoom_21 : decode cX1_firstWithoutRoom 21 = .ok (.iconst (-1), 1) := by decide +kernel
theorem dX1_firstWithoutRoom_22 : decode cX1_firstWithoutRoom 22 = .ok (.if_icmp .ne 30, 3) := by decide +kernel
theorem dX1_firstWithoutRoom_25 : decode cX1_firstWithoutRoom 25 = .ok (.iload_n 1, 1) := by decide +kernel
theorem dX1_firstWithoutRoom_26 : decode cX1_firstWithoutRoom 26 = .ok (.iconst (-1), 1) := by decide +kernel
theorem dX1_firstWithoutRoom_27 : decode cX1_firstWithoutRoom 27 = .ok (.if_icmp .eq 23, 3) := by decide +kernel
theorem dX1_firstWithoutRoom_30 : decode cX1_firstWithoutRoom 30 = .ok (.aload_n 0, 1) := by decide +kernel
theorem dX1_firstWithoutRoom_31 : decode cX1_firstWithoutRoom 31 = .ok (.getfield 29, 3) := by decide +kernel
theorem dX1_firstWithoutRoom_34 : decode cX1_firstWithoutRoom 34 = .ok (.iload_n 2, 1) := by decide +kernel
theorem dX1_firstWithoutRoom_35 : decode cX1_firstWithoutRoom 35 = .ok (.invokevirtual 113, 3) := by decide +kernel
theorem dX1_firstWithoutRoom_38 : decode cX1_firstWithoutRoom 38 = .ok (.aload_n 0, 1) := by decide +kernel
theorem dX1_firstWithoutRoom_39 : decode cX1_firstWithoutRoom 39 = .ok (.getfield 29, 3) := by decide +kernel
theorem dX1_firstWithoutRoom_42 : decode cX1_firstWithoutRoom 42 = .ok (.iload_n 1, 1) := by decide +kernel
theorem dX1_firstWithoutRoom_43 : decode cX1_firstWithoutRoom 43 = .ok (.invokevirtual 113, 3) := by decide +kernel
theorem dX1_firstWithoutRoom_46 : decode cX1_firstWithoutRoom 46 = .ok (.lcmp, 1) := by decide +kernel
theorem dX1_firstWithoutRoom_47 : decode cX1_firstWithoutRoom 47 = .ok (.ifCond .ge 5, 3) := by decide +kernel
theorem dX1_firstWithoutRoom_50 : decode cX1_firstWithoutRoom 50 = .ok (.iload_n 2, 1) := by decide +kernel
theorem dX1_firstWithoutRoom_51 : decode cX1_firstWithoutRoom 51 = .ok (.istore_n 1, 1) := by decide +kernel
theorem dX1_firstWithoutRoom_52 : decode cX1_firstWithoutRoom 52 = .ok (.iinc 2 1, 3) := by decide +kernel
theorem dX1_firstWithoutRoom_55 : decode cX1_firstWithoutRoom 55 = .ok (.goto (-51), 3) := by decide +kernel
theorem dX1_firstWithoutRoom_58 : decode cX1_firstWithoutRoom 58 = .ok (.iload_n 1, 1) := by decide +kernel
theorem dX1_firstWithoutRoom_59 : decode cX1_firstWithoutRoom 59 = .ok (.ireturn, 1) := by decide +kernel
theorem dX1_smallestRoom_0 : decode cX1_smallestRoom 0 = .ok (.iconst 0, 1) := by decide +kernel
theorem dX1_smallestRoom_1 : decode cX1_smallestRoom 1 = .ok (.istore_n 2, 1) := by decide +kernel
theorem dX1_smallestRoom_2 : decode cX1_smallestRoom 2 = .ok (.iconst 0, 1) := by decide +kernel
theorem dX1_smallestRoom_3 : decode cX1_smallestRoom 3 = .ok (.istore_n 3, 1) := by decide +kernel
theorem dX1_smallestRoom_4 : decode cX1_smallestRoom 4 = .ok (.iload_n 3, 1) := by decide +kernel
theorem dX1_smallestRoom_5 : decode cX1_smallestRoom 5 = .ok (.aload_n 0, 1) := by decide +kernel
theorem dX1_smallestRoom_6 : decode cX1_smallestRoom 6 = .ok (.getfield 29, 3) := by decide +kernel
theorem dX1_smallestRoom_9 : decode cX1_smallestRoom 9 = .ok (.invokevirtual 96, 3) := by decide +kernel
theorem dX1_smallestRoom_12 : decode cX1_smallestRoom 12 = .ok (.if_icmp .ge 42, 3) := by decide +kernel
theorem dX1_smallestRoom_15 : decode cX1_smallestRoom 15 = .ok (.aload_n 0, 1) := by decide +kernel
theorem dX1_smallestRoom_16 : decode cX1_smallestRoom 16 = .ok (.getfield 35, 3) := by decide +kernel
theorem dX1_smallestRoom_19 : decode cX1_smallestRoom 19 = .ok (.iload_n 3, 1) := by decide +kernel
theorem dX1_smallestRoom_20 : decode cX1_smallestRoom 20 = .ok (.iaload, 1) := by decide +kernel
theorem dX1_smallestRoom_21 : decode cX1_smallestRoom 21 = .ok (.iconst (-1), 1) := by decide +kernel
theorem dX1_smallestRoom_22 : decode cX1_smallestRoom 22 = .ok (.if_icmp .eq 26, 3) := by decide +kernel
theorem dX1_smallestRoom_25 : decode cX1_smallestRoom 25 = .ok (.aload_n 0, 1) := by decide +kernel
theorem dX1_smallestRoom_26 : decode cX1_smallestRoom 26 = .ok (.getfield 29, 3) := by decide +kernel
theorem dX1_smallestRoom_29 : decode cX1_smallestRoom 29 = .ok (.iload_n 1, 1) := by decide +kernel
theorem dX1_smallestRoom_30 : decode cX1_smallestRoom 30 = .ok (.iload_n 3, 1) := by decide +kernel
theorem dX1_smallestRoom_31 : decode cX1_smallestRoom 31 = .ok (.invokevirtual 170, 3) := by decide +kernel
theorem dX1_smallestRoom_34 : decode cX1_smallestRoom 34 = .ok (.ifCond .eq 14, 3) := by decide +kernel
theorem dX1_smallestRoom_37 : decode cX1_smallestRoom 37 = .ok (.iload_n 2, 1) := by decide +kernel
theorem dX1_smallestRoom_38 : decode cX1_smallestRoom 38 = .ok (.iconst 1, 1) := by decide +kernel
theorem dX1_smallestRoom_39 : decode cX1_smallestRoom 39 = .ok (.aload_n 0, 1) := by decide +kernel
theorem dX1_smallestRoom_40 : decode cX1_smallestRoom 40 = .ok (.getfield 35, 3) := by decide +kernel
theorem dX1_smallestRoom_43 : decode cX1_smallestRoom 43 = .ok (.iload_n 3, 1) := by decide +kernel
theorem dX1_smallestRoom_44 : decode cX1_smallestRoom 44 = .ok (.iaload, 1) := by decide +kernel
theorem dX1_smallestRoom_45 : decode cX1_smallestRoom 45 = .ok (.ishl, 1) := by decide +kernel
theorem dX1_smallestRoom_46 : decode cX1_smallestRoom 46 = .ok (.ior, 1) := by decide +kernel
theorem dX1_smallestRoom_47 : decode cX1_smallestRoom 47 = .ok (.istore_n 2, 1) := by decide +kernel
theorem dX1_smallestRoom_48 : decode cX1_smallestRoom 48 = .ok (.iinc 3 1, 3) := by decide +kernel
theorem dX1_smallestRoom_51 : decode cX1_smallestRoom 51 = .ok (.goto (-47), 3) := by decide +kernel
theorem dX1_smallestRoom_54 : decode cX1_smallestRoom 54 = .ok (.iconst 0, 1) := by decide +kernel
theorem dX1_smallestRoom_55 : decode cX1_smallestRoom 55 = .ok (.istore_n 3, 1) := by decide +kernel
theorem dX1_smallestRoom_56 : decode cX1_smallestRoom 56 = .ok (.iload_n 3, 1) := by decide +kernel
theorem dX1_smallestRoom_57 : decode cX1_smallestRoom 57 = .ok (.bipush 8, 2) := by decide +kernel
theorem dX1_smallestRoom_59 : decode cX1_smallestRoom 59 = .ok (.if_icmp .ge 18, 3) := by decide +kernel
theorem dX1_smallestRoom_62 : decode cX1_smallestRoom 62 = .ok (.iload_n 2, 1) := by decide +kernel
theorem dX1_smallestRoom_63 : decode cX1_smallestRoom 63 = .ok (.iload_n 3, 1) := by decide +kernel
theorem dX1_smallestRoom_64 : decode cX1_smallestRoom 64 = .ok (.ishr, 1) := by decide +kernel
theorem dX1_smallestRoom_65 : decode cX1_smallestRoom 65 = .ok (.iconst 1, 1) := by decide +kernel
theorem dX1_smallestRoom_66 : decode cX1_smallestRoom 66 = .ok (.iand, 1) := by decide +kernel
theorem dX1_smallestRoom_67 : decode cX1_smallestRoom 67 = .ok (.iconst 1, 1) := by decide +kernel
theorem dX1_smallestRoom_68 : decode cX1_smallestRoom 68 = .ok (.if_icmp .ne 9, 3) := by decide +kernel
theorem dX1_smallestRoom_71 : decode cX1_smallestRoom 71 = .ok (.iinc 3 1, 3) := by decide +kernel
theorem dX1_smallestRoom_74 : decode cX1_smallestRoom 74 = .ok (.goto (-18), 3) := by decide +kernel
theorem dX1_smallestRoom_77 : decode cX1_smallestRoom 77 = .ok (.iload_n 3, 1) := by decide +kernel
theorem dX1_smallestRoom_78 : decode cX1_smallestRoom 78 = .ok (.ireturn, 1) := by decide +kernel
theorem dX1_findRooms_0 : decode cX1_findRooms 0 = .ok (.iconst 0, 1) := by decide +kernel
theorem dX1_findRooms_1 : decode cX1_findRooms 1 = .ok (.istore_n 1, 1) := by decide +kernel
theorem dX1_findRooms_2 : decode cX1_findRooms 2 = .ok (.iload_n 1, 1) := by decide +kernel
theorem dX1_findRooms_3 : decode cX1_findRooms 3 = .ok (.bipush 11, 2) := by decide +kernel
theorem dX1_findRooms_5 : decode cX1_findRooms 5 = .ok (.if_icmp .ge 16, 3) := by decide +kernel
theorem dX1_findRooms_8 : decode cX1_findRooms 8 = .ok (.aload_n 0, 1) := by decide +kernel
theorem dX1_findRooms_9 : decode cX1_findRooms 9 = .ok (.getfield 35, 3) := by decide +kernel
theorem dX1_findRooms_12 : decode cX1_findRooms 12 = .ok (.iload_n 1, 1) := by decide +kernel
theorem dX1_findRooms_13 : decode cX1_findRooms 13 = .ok (.iconst (-1), 1) := by decide +kernel
theorem dX1_findRooms_14 : decode cX1_findRooms 14 = .ok (.iastore, 1) := by decide +kernel
theorem dX1_findRooms_15 : decode cX1_findRooms 15 = .ok (.iinc 1 1, 3) := by decide +kernel
theorem dX1_findRooms_18 : decode cX1_findRooms 18 = .ok (.goto (-16), 3) := by decide +kernel
theorem dX1_findRooms_21 : decode cX1_findRooms 21 = .ok (.iconst 0, 1) := by decide +kernel
theorem dX1_findRooms_22 : decode cX1_findRooms 22 = .ok (.istore_n 1, 1) := by decide +kernel
theorem dX1_findRooms_23 : decode cX1_findRooms 23 = .ok (.iload_n 1, 1) := by decide +kernel
theorem dX1_findRooms_24 : decode cX1_findRooms 24 = .ok (.aload_n 0, 1) := by decide +kernel
theorem dX1_findRooms_25 : decode cX1_findRooms 25 = .ok (.getfield 29, 3) := by decide +kernel
theorem dX1_findRooms_28 : decode cX1_findRooms 28 = .ok (.invokevirtual 96, 3) := by decide +kernel
theorem dX1_findRooms_31 : decode cX1_findRooms 31 = .ok (.if_icmp .ge 30, 3) := by decide +kernel
theorem dX1_findRooms_34 : decode cX1_findRooms 34 = .ok (.aload_n 0, 1) := by decide +kernel
theorem dX1_findRooms_35 : decode cX1_findRooms 35 = .ok (.invokevirtual 308, 3) := by decide +kernel
theorem dX1_findRooms_38 : decode cX1_findRooms 38 = .ok (.istore_n 2, 1) := by decide +kernel
theorem dX1_findRooms_39 : decode cX1_findRooms 39 = .ok (.iload_n 2, 1) := by decide +kernel
theorem dX1_findRooms_40 : decode cX1_findRooms 40 = .ok (.iconst (-1), 1) := by decide +kernel
theorem dX1_findRooms_41 : decode cX1_findRooms 41 = .ok (.if_icmp .eq 14, 3) := by decide +kernel
theorem dX1_findRooms_44 : decode cX1_findRooms 44 = .ok (.aload_n 0, 1) := by decide +kernel
theorem dX1_findRooms_45 : decode cX1_findRooms 45 = .ok (.getfield 35, 3) := by decide +kernel
theorem dX1_findRooms_48 : decode cX1_findRooms 48 = .ok (.iload_n 2, 1) := by decide +kernel
theorem dX1_findRooms_49 : decode cX1_findRooms 49 = .ok (.aload_n 0, 1) := by decide +kernel
theorem dX1_findRooms_50 : decode cX1_findRooms 50 = .ok (.iload_n 2, 1) := by decide +kernel
theorem dX1_findRooms_51 : decode cX1_findRooms 51 = .ok (.invokevirtual 311, 3) := by decide +kernel
theorem dX1_findRooms_54 : decode cX1_findRooms 54 = .ok (.iastore, 1) := by decide +kernel
theorem dX1_findRooms_55 : decode cX1_findRooms 55 = .ok (.iinc 1 1, 3) := by decide +kernel
theorem dX1_findRooms_58 : decode cX1_findRooms 58 = .ok (.goto (-35), 3) := by decide +kernel
theorem dX1_findRooms_61 : decode cX1_findRooms 61 = .ok (.return_, 1) := by decide +kernel
theorem dX1_roomCount_0 : decode cX1_roomCount 0 = .ok (.iconst 0, 1) := by decide +kernel
theorem dX1_roomCount_1 : decode cX1_roomCount 1 = .ok (.istore_n 1, 1) := by decide +kernel
theorem dX1_roomCount_2 : decode cX1_roomCount 2 = .ok (.iconst 0, 1) := by decide +kernel
theorem dX1_roomCount_3 : decode cX1_roomCount 3 = .ok (.istore_n 2, 1) := by decide +kernel
theorem dX1_roomCount_4 : decode cX1_roomCount 4 = .ok (.iload_n 2, 1) := by decide +kernel
theorem dX1_roomCount_5 : decode cX1_roomCount 5 = .ok (.aload_n 0, 1) := by decide +kernel
theorem dX1_roomCount_6 : decode cX1_roomCount 6 = .ok (.getfield 29, 3) := by decide +kernel
theorem dX1_roomCount_9 : decode cX1_roomCount 9 = .ok (.invokevirtual 96, 3) := by decide +kernel
theorem dX1_roomCount_12 : decode cX1_roomCount 12 = .ok (.if_icmp .ge 22, 3) := by decide +kernel
theorem dX1_roomCount_15 : decode cX1_roomCount 15 = .ok (.iload_n 1, 1) := by decide +kernel
theorem dX1_roomCount_16 : decode cX1_roomCount 16 = .ok (.aload_n 0, 1) := by decide +kernel
theorem dX1_roomCount_17 : decode cX1_roomCount 17 = .ok (.getfield 35, 3) := by decide +kernel
theorem dX1_roomCount_20 : decode cX1_roomCount 20 = .ok (.iload_n 2, 1) := by decide +kernel
theorem dX1_roomCount_21 : decode cX1_roomCount 21 = .ok (.iaload, 1) := by decide +kernel
theorem dX1_roomCount_22 : decode cX1_roomCount 22 = .ok (.iconst 1, 1) := by decide +kernel
theorem dX1_roomCount_23 : decode cX1_roomCount 23 = .ok (.iadd, 1) := by decide +kernel
theorem dX1_roomCount_24 : decode cX1_roomCount 24 = .ok (.invokestatic 314, 3) := by decide +kernel
theorem dX1_roomCount_27 : decode cX1_roomCount 27 = .ok (.istore_n 1, 1) := by decide +kernel
theorem dX1_roomCount_28 : decode cX1_roomCount 28 = .ok (.iinc 2 1, 3) := by decide +kernel
theorem dX1_roomCount_31 : decode cX1_roomCount 31 = .ok (.goto (-27), 3) := by decide +kernel
theorem dX1_roomCount_34 : decode cX1_roomCount 34 = .ok (.iload_n 1, 1) := by decide +kernel
theorem dX1_roomCount_35 : decode cX1_roomCount 35 = .ok (.ireturn, 1) := by decide +kernel
theorem dX1_needCell_0 : decode cX1_needCell 0 = .ok (.iload_n 0, 1) := by decide +kernel
theorem dX1_needCell_1 : decode cX1_needCell 1 = .ok (.iconst 0, 1) := by decide +kernel
theorem dX1_needCell_2 : decode cX1_needCell 2 = .ok (.iconst 3, 1) := by decide +kernel
theorem dX1_needCell_3 : decode cX1_needCell 3 = .ok (.invokestatic 45, 3) := by decide +kernel
theorem dX1_needCell_6 : decode cX1_needCell 6 = .ok (.ifCond .ne 14, 3) := by decide +kernel
theorem dX1_needCell_9 : decode cX1_needCell 9 = .ok (.new 266, 3) := by decide +kernel
theorem dX1_needCell_12 : decode cX1_needCell 12 = .ok (.dup, 1) := by decide +kernel
theorem dX1_needCell_13 : decode cX1_needCell 13 = .ok (.ldc_w 268, 3) := by decide +kernel
theorem dX1_needCell_16 : decode cX1_needCell 16 = .ok (.invokespecial 270, 3) := by decide +kernel
theorem dX1_needCell_19 : decode cX1_needCell 19 = .ok (.athrow, 1) := by decide +kernel
theorem dX1_needCell_20 : decode cX1_needCell 20 = .ok (.return_, 1) := by decide +kernel
theorem dX1_needNumberIn_0 : decode cX1_needNumberIn 0 = .ok (.iload_n 1, 1) := by decide +kernel
theorem dX1_needNumberIn_1 : decode cX1_needNumberIn 1 = .ok (.iconst 0, 1) := by decide +kernel
theorem dX1_needNumberIn_2 : decode cX1_needNumberIn 2 = .ok (.aload_n 0, 1) := by decide +kernel
theorem dX1_needNumberIn_3 : decode cX1_needNumberIn 3 = .ok (.invokevirtual 96, 3) := by decide +kernel
theorem dX1_needNumberIn_6 : decode cX1_needNumberIn 6 = .ok (.iconst 1, 1) := by decide +kernel
theorem dX1_needNumberIn_7 : decode cX1_needNumberIn 7 = .ok (.isub, 1) := by decide +kernel
theorem dX1_needNumberIn_8 : decode cX1_needNumberIn 8 = .ok (.invokestatic 45, 3) := by decide +kernel
theorem dX1_needNumberIn_11 : decode cX1_needNumberIn 11 = .ok (.ifCond .ne 14, 3) := by decide +kernel
theorem dX1_needNumberIn_14 : decode cX1_needNumberIn 14 = .ok (.new 266, 3) := by decide +kernel
theorem dX1_needNumberIn_17 : decode cX1_needNumberIn 17 = .ok (.dup, 1) := by decide +kernel
theorem dX1_needNumberIn_18 : decode cX1_needNumberIn 18 = .ok (.ldc_w 273, 3) := by decide +kernel
theorem dX1_needNumberIn_21 : decode cX1_needNumberIn 21 = .ok (.invokespecial 270, 3) := by decide +kernel
theorem dX1_needNumberIn_24 : decode cX1_needNumberIn 24 = .ok (.athrow, 1) := by decide +kernel
theorem dX1_needNumberIn_25 : decode cX1_needNumberIn 25 = .ok (.return_, 1) := by decide +kernel
theorem dX1_needThat_0 : decode cX1_needThat 0 = .ok (.iload_n 0, 1) := by decide +kernel
theorem dX1_needThat_1 : decode cX1_needThat 1 = .ok (.ifCond .ne 14, 3) := by decide +kernel
theorem dX1_needThat_4 : decode cX1_needThat 4 = .ok (.new 275, 3) := by decide +kernel
theorem dX1_needThat_7 : decode cX1_needThat 7 = .ok (.dup, 1) := by decide +kernel
theorem dX1_needThat_8 : decode cX1_needThat 8 = .ok (.ldc_w 277, 3) := by decide +kernel
theorem dX1_needThat_11 : decode cX1_needThat 11 = .ok (.invokespecial 279, 3) := by decide +kernel
theorem dX1_needThat_14 : decode cX1_needThat 14 = .ok (.athrow, 1) := by decide +kernel
theorem dX1_needThat_15 : decode cX1_needThat 15 = .ok (.return_, 1) := by decide +kernel
theorem dX1_needUnits_0 : decode cX1_needUnits 0 = .ok (.iload_n 0, 1) := by decide +kernel
theorem dX1_needUnits_1 : decode cX1_needUnits 1 = .ok (.iconst 0, 1) := by decide +kernel
theorem dX1_needUnits_2 : decode cX1_needUnits 2 = .ok (.iconst 2, 1) := by decide +kernel
theorem dX1_needUnits_3 : decode cX1_needUnits 3 = .ok (.invokestatic 45, 3) := by decide +kernel
theorem dX1_needUnits_6 : decode cX1_needUnits 6 = .ok (.ifCond .eq 17, 3) := by decide +kernel
theorem dX1_needUnits_9 : decode cX1_needUnits 9 = .ok (.iload_n 1, 1) := by decide +kernel
theorem dX1_needUnits_10 : decode cX1_needUnits 10 = .ok (.iload_n 2, 1) := by decide +kernel
theorem dX1_needUnits_11 : decode cX1_needUnits 11 = .ok (.ldc 50, 2) := by decide +kernel
theorem dX1_needUnits_13 : decode cX1_needUnits 13 = .ok (.invokestatic 45, 3) := by decide +kernel
theorem dX1_needUnits_16 : decode cX1_needUnits 16 = .ok (.ifCond .eq 7, 3) := by decide +kernel
theorem dX1_needUnits_19 : decode cX1_needUnits 19 = .ok (.iconst 1, 1) := by decide +kernel
theorem dX1_needUnits_20 : decode cX1_needUnits 20 = .ok (.goto 4, 3) := by decide +kernel
theorem dX1_needUnits_23 : decode cX1_needUnits 23 = .ok (.iconst 0, 1) := by decide +kernel
theorem dX1_needUnits_24 : decode cX1_needUnits 24 = .ok (.invokestatic 51, 3) := by decide +kernel
theorem dX1_needUnits_27 : decode cX1_needUnits 27 = .ok (.return_, 1) := by decide +kernel
theorem dX1_set_0 : decode cX1_set 0 = .ok (.iload_n 1, 1) := by decide +kernel
theorem dX1_set_1 : decode cX1_set 1 = .ok (.invokestatic 39, 3) := by decide +kernel
theorem dX1_set_4 : decode cX1_set 4 = .ok (.iload_n 2, 1) := by decide +kernel
theorem dX1_set_5 : decode cX1_set 5 = .ok (.ldc 43, 2) := by decide +kernel
theorem dX1_set_7 : decode cX1_set 7 = .ok (.ldc 44, 2) := by decide +kernel
theorem dX1_set_9 : decode cX1_set 9 = .ok (.invokestatic 45, 3) := by decide +kernel
theorem dX1_set_12 : decode cX1_set 12 = .ok (.ifCond .eq 18, 3) := by decide +kernel
theorem dX1_set_15 : decode cX1_set 15 = .ok (.iload_n 3, 1) := by decide +kernel
theorem dX1_set_16 : decode cX1_set 16 = .ok (.ldc 49, 2) := by decide +kernel
theorem dX1_set_18 : decode cX1_set 18 = .ok (.ldc 50, 2) := by decide +kernel
theorem dX1_set_20 : decode cX1_set 20 = .ok (.invokestatic 45, 3) := by decide +kernel
theorem dX1_set_23 : decode cX1_set 23 = .ok (.ifCond .eq 7, 3) := by decide +kernel
theorem dX1_set_26 : decode cX1_set 26 = .ok (.iconst 1, 1) := by decide +kernel
theorem dX1_set_27 : decode cX1_set 27 = .ok (.goto 4, 3) := by decide +kernel
theorem dX1_set_30 : decode cX1_set 30 = .ok (.iconst 0, 1) := by decide +kernel
theorem dX1_set_31 : decode cX1_set 31 = .ok (.invokestatic 51, 3) := by decide +kernel
theorem dX1_set_34 : decode cX1_set 34 = .ok (.iload_n 2, 1) := by decide +kernel
theorem dX1_set_35 : decode cX1_set 35 = .ok (.i2l, 1) := by decide +kernel
theorem dX1_set_36 : decode cX1_set 36 = .ok (.ldc2_w 55, 3) := by decide +kernel
theorem dX1_set_39 : decode cX1_set 39 = .ok (.lmul, 1) := by decide +kernel
theorem dX1_set_40 : decode cX1_set 40 = .ok (.iload_n 3, 1) := by decide +kernel
theorem dX1_set_41 : decode cX1_set 41 = .ok (.i2l, 1) := by decide +kernel
theorem dX1_set_42 : decode cX1_set 42 = .ok (.ladd, 1) := by decide +kernel
theorem dX1_set_43 : decode cX1_set 43 = .ok (.lstore 4, 2) := by decide +kernel
theorem dX1_set_45 : decode cX1_set 45 = .ok (.lload 4, 2) := by decide +kernel
theorem dX1_set_47 : decode cX1_set 47 = .ok (.invokestatic 57, 3) := by decide +kernel
theorem dX1_set_50 : decode cX1_set 50 = .ok (.ifCond .ne 8, 3) := by decide +kernel
theorem dX1_set_53 : decode cX1_set 53 = .ok (.aload_n 0, 1) := by decide +kernel
theorem dX1_set_54 : decode cX1_set 54 = .ok (.invokevirtual 61, 3) := by decide +kernel
theorem dX1_set_57 : decode cX1_set 57 = .ok (.ireturn, 1) := by decide +kernel
theorem dX1_set_58 : decode cX1_set 58 = .ok (.aload_n 0, 1) := by decide +kernel
theorem dX1_set_59 : decode cX1_set 59 = .ok (.getfield 9, 3) := by decide +kernel
theorem dX1_set_62 : decode cX1_set 62 = .ok (.iload_n 1, 1) := by decide +kernel
theorem dX1_set_63 : decode cX1_set 63 = .ok (.lload 4, 2) := by decide +kernel
theorem dX1_set_65 : decode cX1_set 65 = .ok (.lastore, 1) := by decide +kernel
theorem dX1_set_66 : decode cX1_set 66 = .ok (.aload_n 0, 1) := by decide +kernel
theorem dX1_set_67 : decode cX1_set 67 = .ok (.lload 4, 2) := by decide +kernel
theorem dX1_set_69 : decode cX1_set 69 = .ok (.invokestatic 65, 3) := by decide +kernel
theorem dX1_set_72 : decode cX1_set 72 = .ok (.iload_n 2, 1) := by decide +kernel
theorem dX1_set_73 : decode cX1_set 73 = .ok (.isub, 1) := by decide +kernel
theorem dX1_set_74 : decode cX1_set 74 = .ok (.invokevirtual 69, 3) := by decide +kernel
theorem dX1_set_77 : decode cX1_set 77 = .ok (.ireturn, 1) := by decide +kernel
theorem dX1_go_0 : decode cX1_go 0 = .ok (.iload_n 1, 1) := by decide +kernel
theorem dX1_go_1 : decode cX1_go 1 = .ok (.invokestatic 39, 3) := by decide +kernel
theorem dX1_go_4 : decode cX1_go 4 = .ok (.iload_n 2, 1) := by decide +kernel
theorem dX1_go_5 : decode cX1_go 5 = .ok (.iload_n 3, 1) := by decide +kernel
theorem dX1_go_6 : decode cX1_go 6 = .ok (.ldc 49, 2) := by decide +kernel
theorem dX1_go_8 : decode cX1_go 8 = .ok (.invokestatic 73, 3) := by decide +kernel
theorem dX1_go_11 : decode cX1_go 11 = .ok (.iload_n 2, 1) := by decide +kernel
theorem dX1_go_12 : decode cX1_go 12 = .ok (.iload_n 3, 1) := by decide +kernel
theorem dX1_go_13 : decode cX1_go 13 = .ok (.invokestatic 77, 3) := by decide +kernel
theorem dX1_go_16 : decode cX1_go 16 = .ok (.lstore 5, 2) := by decide +kernel
theorem dX1_go_18 : decode cX1_go 18 = .ok (.iload 4, 2) := by decide +kernel
theorem dX1_go_20 : decode cX1_go 20 = .ok (.ifCond .eq 15, 3) := by decide +kernel
theorem dX1_go_23 : decode cX1_go 23 = .ok (.aload_n 0, 1) := by decide +kernel
theorem dX1_go_24 : decode cX1_go 24 = .ok (.getfield 9, 3) := by decide +kernel
theorem dX1_go_27 : decode cX1_go 27 = .ok (.iload_n 1, 1) := by decide +kernel
theorem dX1_go_28 : decode cX1_go 28 = .ok (.laload, 1) := by decide +kernel
theorem dX1_go_29 : decode cX1_go 29 = .ok (.lload 5, 2) := by decide +kernel
theorem dX1_go_31 : decode cX1_go 31 = .ok (.lsub, 1) := by decide +kernel
theorem dX1_go_32 : decode cX1_go 32 = .ok (.goto 12, 3) := by decide +kernel
theorem dX1_go_35 : decode cX1_go 35 = .ok (.aload_n 0, 1) := by decide +kernel
theorem dX1_go_36 : decode cX1_go 36 = .ok (.getfield 9, 3) := by decide +kernel
theorem dX1_go_39 : decode cX1_go 39 = .ok (.iload_n 1, 1) := by decide +kernel
theorem dX1_go_40 : decode cX1_go 40 = .ok (.laload, 1) := by decide +kernel
theorem dX1_go_41 : decode cX1_go 41 = .ok (.lload 5, 2) := by decide +kernel
theorem dX1_go_43 : decode cX1_go 43 = .ok (.ladd, 1) := by decide +kernel
theorem dX1_go_44 : decode cX1_go 44 = .ok (.lstore 7, 2) := by decide +kernel
theorem dX1_go_46 : decode cX1_go 46 = .ok (.lload 7, 2) := by decide +kernel
theorem dX1_go_48 : decode cX1_go 48 = .ok (.invokestatic 57, 3) := by decide +kernel
theorem dX1_go_51 : decode cX1_go 51 = .ok (.ifCond .ne 8, 3) := by decide +kernel
theorem dX1_go_54 : decode cX1_go 54 = .ok (.aload_n 0, 1) := by decide +kernel
theorem dX1_go_55 : decode cX1_go 55 = .ok (.invokevirtual 61, 3) := by decide +kernel
theorem dX1_go_58 : decode cX1_go 58 = .ok (.ireturn, 1) := by decide +kernel
theorem dX1_go_59 : decode cX1_go 59 = .ok (.lload 7, 2) := by decide +kernel
theorem dX1_go_61 : decode cX1_go 61 = .ok (.aload_n 0, 1) := by decide +kernel
theorem dX1_go_62 : decode cX1_go 62 = .ok (.getfield 9, 3) := by decide +kernel
theorem dX1_go_65 : decode cX1_go 65 = .ok (.iload_n 1, 1) := by decide +kernel
theorem dX1_go_66 : decode cX1_go 66 = .ok (.laload, 1) := by decide +kernel
theorem dX1_go_67 : decode cX1_go 67 = .ok (.invokestatic 81, 3) := by decide +kernel
theorem dX1_go_70 : decode cX1_go 70 = .ok (.istore 9, 2) := by decide +kernel
theorem dX1_go_72 : decode cX1_go 72 = .ok (.aload_n 0, 1) := by decide +kernel
theorem dX1_go_73 : decode cX1_go 73 = .ok (.getfield 9, 3) := by decide +kernel
theorem dX1_go_76 : decode cX1_go 76 = .ok (.iload_n 1, 1) := by decide +kernel
theorem dX1_go_77 : decode cX1_go 77 = .ok (.lload 7, 2) := by decide +kernel
theorem dX1_go_79 : decode cX1_go 79 = .ok (.lastore, 1) := by decide +kernel
theorem dX1_go_80 : decode cX1_go 80 = .ok (.aload_n 0, 1) := by decide +kernel
theorem dX1_go_81 : decode cX1_go 81 = .ok (.iload 9, 2) := by decide +kernel
theorem dX1_go_83 : decode cX1_go 83 = .ok (.invokevirtual 69, 3) := by decide +kernel
theorem dX1_go_86 : decode cX1_go 86 = .ok (.ireturn, 1) := by decide +kernel
theorem dX1_copy_0 : decode cX1_copy 0 = .ok (.iload_n 1, 1) := by decide +kernel
theorem dX1_copy_1 : decode cX1_copy 1 = .ok (.invokestatic 39, 3) := by decide +kernel
theorem dX1_copy_4 : decode cX1_copy 4 = .ok (.iload_n 2, 1) := by decide +kernel
theorem dX1_copy_5 : decode cX1_copy 5 = .ok (.invokestatic 39, 3) := by decide +kernel
theorem dX1_copy_8 : decode cX1_copy 8 = .ok (.aload_n 0, 1) := by decide +kernel
theorem dX1_copy_9 : decode cX1_copy 9 = .ok (.aload_n 0, 1) := by decide +kernel
theorem dX1_copy_10 : decode cX1_copy 10 = .ok (.aload_n 0, 1) := by decide +kernel
theorem dX1_copy_11 : decode cX1_copy 11 = .ok (.getfield 9, 3) := by decide +kernel
theorem dX1_copy_14 : decode cX1_copy 14 = .ok (.iload_n 1, 1) := by decide +kernel
theorem dX1_copy_15 : decode cX1_copy 15 = .ok (.laload, 1) := by decide +kernel
theorem dX1_copy_16 : decode cX1_copy 16 = .ok (.iload_n 2, 1) := by decide +kernel
theorem dX1_copy_17 : decode cX1_copy 17 = .ok (.invokevirtual 85, 3) := by decide +kernel
theorem dX1_copy_20 : decode cX1_copy 20 = .ok (.invokevirtual 69, 3) := by decide +kernel
theorem dX1_copy_23 : decode cX1_copy 23 = .ok (.ireturn, 1) := by decide +kernel
theorem dX1_swap_0 : decode cX1_swap 0 = .ok (.iload_n 1, 1) := by decide +kernel
theorem dX1_swap_1 : decode cX1_swap 1 = .ok (.invokestatic 39, 3) := by decide +kernel
theorem dX1_swap_4 : decode cX1_swap 4 = .ok (.iload_n 2, 1) := by decide +kernel
theorem dX1_swap_5 : decode cX1_swap 5 = .ok (.invokestatic 39, 3) := by decide +kernel
theorem dX1_swap_8 : decode cX1_swap 8 = .ok (.aload_n 0, 1) := by decide +kernel
theorem dX1_swap_9 : decode cX1_swap 9 = .ok (.getfield 9, 3) := by decide +kernel
theorem dX1_swap_12 : decode cX1_swap 12 = .ok (.iload_n 2, 1) := by decide +kernel
theorem dX1_swap_13 : decode cX1_swap 13 = .ok (.laload, 1) := by decide +kernel
theorem dX1_swap_14 : decode cX1_swap 14 = .ok (.lstore_n 3, 1) := by decide +kernel
theorem dX1_swap_15 : decode cX1_swap 15 = .ok (.aload_n 0, 1) := by decide +kernel
theorem dX1_swap_16 : decode cX1_swap 16 = .ok (.aload_n 0, 1) := by decide +kernel
theorem dX1_swap_17 : decode cX1_swap 17 = .ok (.getfield 9, 3) := by decide +kernel
theorem dX1_swap_20 : decode cX1_swap 20 = .ok (.iload_n 1, 1) := by decide +kernel
theorem dX1_swap_21 : decode cX1_swap 21 = .ok (.laload, 1) := by decide +kernel
theorem dX1_swap_22 : decode cX1_swap 22 = .ok (.iload_n 2, 1) := by decide +kernel
theorem dX1_swap_23 : decode cX1_swap 23 = .ok (.invokevirtual 85, 3) := by decide +kernel
theorem dX1_swap_26 : decode cX1_swap 26 = .ok (.istore 5, 2) := by decide +kernel
theorem dX1_swap_28 : decode cX1_swap 28 = .ok (.aload_n 0, 1) := by decide +kernel
theorem dX1_swap_29 : decode cX1_swap 29 = .ok (.getfield 9, 3) := by decide +kernel
theorem dX1_swap_32 : decode cX1_swap 32 = .ok (.iload_n 1, 1) := by decide +kernel
theorem dX1_swap_33 : decode cX1_swap 33 = .ok (.lload_n 3, 1) := by decide +kernel
theorem dX1_swap_34 : decode cX1_swap 34 = .ok (.lastore, 1) := by decide +kernel
theorem dX1_swap_35 : decode cX1_swap 35 = .ok (.aload_n 0, 1) := by decide +kernel
theorem dX1_swap_36 : decode cX1_swap 36 = .ok (.iload 5, 2) := by decide +kernel
theorem dX1_swap_38 : decode cX1_swap 38 = .ok (.invokevirtual 69, 3) := by decide +kernel
theorem dX1_swap_41 : decode cX1_swap 41 = .ok (.ireturn, 1) := by decide +kernel
theorem dX1_pick_0 : decode cX1_pick 0 = .ok (.iload_n 2, 1) := by decide +kernel
theorem dX1_pick_1 : decode cX1_pick 1 = .ok (.invokestatic 39, 3) := by decide +kernel
theorem dX1_pick_4 : decode cX1_pick 4 = .ok (.iconst 0, 1) := by decide +kernel
theorem dX1_pick_5 : decode cX1_pick 5 = .ok (.istore_n 3, 1) := by decide +kernel
theorem dX1_pick_6 : decode cX1_pick 6 = .ok (.iconst 1, 1) := by decide +kernel
theorem dX1_pick_7 : decode cX1_pick 7 = .ok (.istore 4, 2) := by decide +kernel
theorem dX1_pick_9 : decode cX1_pick 9 = .ok (.iload 4, 2) := by decide +kernel
theorem dX1_pick_11 : decode cX1_pick 11 = .ok (.iconst 4, 1) := by decide +kernel
theorem dX1_pick_12 : decode cX1_pick 12 = .ok (.if_icmp .ge 70, 3) := by decide +kernel
theorem dX1_pick_15 : decode cX1_pick 15 = .ok (.iload_n 1, 1) := by decide +kernel
theorem dX1_pick_16 : decode cX1_pick 16 = .ok (.ifCond .eq 28, 3) := by decide +kernel
theorem dX1_pick_19 : decode cX1_pick 19 = .ok (.aload_n 0, 1) := by decide +kernel
theorem dX1_pick_20 : decode cX1_pick 20 = .ok (.getfield 9, 3) := by decide +kernel
theorem dX1_pick_23 : decode cX1_pick 23 = .ok (.iload 4, 2) := by decide +kernel
theorem dX1_pick_25 : decode cX1_pick 25 = .ok (.laload, 1) := by decide +kernel
theorem dX1_pick_26 : decode cX1_pick 26 = .ok (.aload_n 0, 1) := by decide +kernel
theorem dX1_pick_27 : decode cX1_pick 27 = .ok (.getfield 9, 3) := by decide +kernel
theorem dX1_pick_30 : decode cX1_pick 30 = .ok (.iload_n 3, 1) := by decide +kernel
theorem dX1_pick_31 : decode cX1_pick 31 = .ok (.laload, 1) := by decide +kernel
theorem dX1_pick_32 : decode cX1_pick 32 = .ok (.lcmp, 1) := by decide +kernel
theorem dX1_pick_33 : decode cX1_pick 33 = .ok (.ifCond .le 7, 3) := by decide +kernel
theorem dX1_pick_36 : decode cX1_pick 36 = .ok (.iconst 1, 1) := by decide +kernel
theorem dX1_pick_37 : decode cX1_pick 37 = .ok (.goto 29, 3) := by decide +kernel
theorem dX1_pick_40 : decode cX1_pick 40 = .ok (.iconst 0, 1) := by decide +kernel
theorem dX1_pick_41 : decode cX1_pick 41 = .ok (.goto 25, 3) := by decide +kernel
theorem dX1_pick_44 : decode cX1_pick 44 = .ok (.aload_n 0, 1) := by decide +kernel
theorem dX1_pick_45 : decode cX1_pick 45 = .ok (.getfield 9, 3) := by decide +kernel
theorem dX1_pick_48 : decode cX1_pick 48 = .ok (.iload 4, 2) := by decide +kernel
theorem dX1_pick_50 : decode cX1_pick 50 = .ok (.laload, 1) := by decide +kernel
theorem dX1_pick_51 : decode cX1_pick 51 = .ok (.aload_n 0, 1) := by decide +kernel
theorem dX1_pick_52 : decode cX1_pick 52 = .ok (.getfield 9, 3) := by decide +kernel
theorem dX1_pick_55 : decode cX1_pick 55 = .ok (.iload_n 3, 1) := by decide +kernel
theorem dX1_pick_56 : decode cX1_pick 56 = .ok (.laload, 1) := by decide +kernel
theorem dX1_pick_57 : decode cX1_pick 57 = .ok (.lcmp, 1) := by decide +kernel
theorem dX1_pick_58 : decode cX1_pick 58 = .ok (.ifCond .ge 7, 3) := by decide +kernel
theorem dX1_pick_61 : decode cX1_pick 61 = .ok (.iconst 1, 1) := by decide +kernel
theorem dX1_pick_62 : decode cX1_pick 62 = .ok (.goto 4, 3) := by decide +kernel
theorem dX1_pick_65 : decode cX1_pick 65 = .ok (.iconst 0, 1) := by decide +kernel
theorem dX1_pick_66 : decode cX1_pick 66 = .ok (.istore 5, 2) := by decide +kernel
theorem dX1_pick_68 : decode cX1_pick 68 = .ok (.iload 5, 2) := by decide +kernel
theorem dX1_pick_70 : decode cX1_pick 70 = .ok (.ifCond .eq 6, 3) := by decide +kernel
theorem dX1_pick_73 : decode cX1_pick 73 = .ok (.iload 4, 2) := by decide +kernel
theorem dX1_pick_75 : decode cX1_pick 75 = .ok (.istore_n 3, 1) := by decide +kernel
theorem dX1_pick_76 : decode cX1_pick 76 = .ok (.iinc 4 1, 3) := by decide +kernel
theorem dX1_pick_79 : decode cX1_pick 79 = .ok (.goto (-70), 3) := by decide +kernel
theorem dX1_pick_82 : decode cX1_pick 82 = .ok (.aload_n 0, 1) := by decide +kernel
theorem dX1_pick_83 : decode cX1_pick 83 = .ok (.getfield 9, 3) := by decide +kernel
theorem dX1_pick_86 : decode cX1_pick 86 = .ok (.iload_n 2, 1) := by decide +kernel
theorem dX1_pick_87 : decode cX1_pick 87 = .ok (.aload_n 0, 1) := by decide +kernel
theorem dX1_pick_88 : decode cX1_pick 88 = .ok (.getfield 9, 3) := by decide +kernel
theorem dX1_pick_91 : decode cX1_pick 91 = .ok (.iload_n 3, 1) := by decide +kernel
theorem dX1_pick_92 : decode cX1_pick 92 = .ok (.laload, 1) := by decide +kernel
theorem dX1_pick_93 : decode cX1_pick 93 = .ok (.lastore, 1) := by decide +kernel
theorem dX1_pick_94 : decode cX1_pick 94 = .ok (.aload_n 0, 1) := by decide +kernel
theorem dX1_pick_95 : decode cX1_pick 95 = .ok (.iload_n 3, 1) := by decide +kernel
theorem dX1_pick_96 : decode cX1_pick 96 = .ok (.invokevirtual 69, 3) := by decide +kernel
theorem dX1_pick_99 : decode cX1_pick 99 = .ok (.ireturn, 1) := by decide +kernel
theorem dX1_shift_0 : decode cX1_shift 0 = .ok (.iload_n 1, 1) := by decide +kernel
theorem dX1_shift_1 : decode cX1_shift 1 = .ok (.iload_n 2, 1) := by decide +kernel
theorem dX1_shift_2 : decode cX1_shift 2 = .ok (.ldc 49, 2) := by decide +kernel
theorem dX1_shift_4 : decode cX1_shift 4 = .ok (.invokestatic 73, 3) := by decide +kernel
theorem dX1_shift_7 : decode cX1_shift 7 = .ok (.iload_n 1, 1) := by decide +kernel
theorem dX1_shift_8 : decode cX1_shift 8 = .ok (.iload_n 2, 1) := by decide +kernel
theorem dX1_shift_9 : decode cX1_shift 9 = .ok (.invokestatic 77, 3) := by decide +kernel
theorem dX1_shift_12 : decode cX1_shift 12 = .ok (.lstore_n 3, 1) := by decide +kernel
theorem dX1_shift_13 : decode cX1_shift 13 = .ok (.aload_n 0, 1) := by decide +kernel
theorem dX1_shift_14 : decode cX1_shift 14 = .ok (.lload_n 3, 1) := by decide +kernel
theorem dX1_shift_15 : decode cX1_shift 15 = .ok (.invokevirtual 89, 3) := by decide +kernel
theorem dX1_shift_18 : decode cX1_shift 18 = .ok (.ifCond .ne 8, 3) := by decide +kernel
theorem dX1_shift_21 : decode cX1_shift 21 = .ok (.aload_n 0, 1) := by decide +kernel
theorem dX1_shift_22 : decode cX1_shift 22 = .ok (.invokevirtual 61, 3) := by decide +kernel
theorem dX1_shift_25 : decode cX1_shift 25 = .ok (.ireturn, 1) := by decide +kernel
theorem dX1_shift_26 : decode cX1_shift 26 = .ok (.iconst 0, 1) := by decide +kernel
theorem dX1_shift_27 : decode cX1_shift 27 = .ok (.istore 5, 2) := by decide +kernel
theorem dX1_shift_29 : decode cX1_shift 29 = .ok (.iload 5, 2) := by decide +kernel
theorem dX1_shift_31 : decode cX1_shift 31 = .ok (.iconst 4, 1) := by decide +kernel
theorem dX1_shift_32 : decode cX1_shift 32 = .ok (.if_icmp .ge 20, 3) := by decide +kernel
theorem dX1_shift_35 : decode cX1_shift 35 = .ok (.aload_n 0, 1) := by decide +kernel
theorem dX1_shift_36 : decode cX1_shift 36 = .ok (.getfield 9, 3) := by decide +kernel
theorem dX1_shift_39 : decode cX1_shift 39 = .ok (.iload 5, 2) := by decide +kernel
theorem dX1_shift_41 : decode cX1_shift 41 = .ok (.dup2, 1) := by decide +kernel
theorem dX1_shift_42 : decode cX1_shift 42 = .ok (.laload, 1) := by decide +kernel
theorem dX1_shift_43 : decode cX1_shift 43 = .ok (.lload_n 3, 1) := by decide +kernel
theorem dX1_shift_44 : decode cX1_shift 44 = .ok (.ladd, 1) := by decide +kernel
theorem dX1_shift_45 : decode cX1_shift 45 = .ok (.lastore, 1) := by decide +kernel
theorem dX1_shift_46 : decode cX1_shift 46 = .ok (.iinc 5 1, 3) := by decide +kernel
theorem dX1_shift_49 : decode cX1_shift 49 = .ok (.goto (-20), 3) := by decide +kernel
theorem dX1_shift_52 : decode cX1_shift 52 = .ok (.aload_n 0, 1) := by decide +kernel
theorem dX1_shift_53 : decode cX1_shift 53 = .ok (.dup, 1) := by decide +kernel
theorem dX1_shift_54 : decode cX1_shift 54 = .ok (.getfield 13, 3) := by decide +kernel
theorem dX1_shift_57 : decode cX1_shift 57 = .ok (.lload_n 3, 1) := by decide +kernel
theorem dX1_shift_58 : decode cX1_shift 58 = .ok (.ladd, 1) := by decide +kernel
theorem dX1_shift_59 : decode cX1_shift 59 = .ok (.putfield 13, 3) := by decide +kernel
theorem dX1_shift_62 : decode cX1_shift 62 = .ok (.aload_n 0, 1) := by decide +kernel
theorem dX1_shift_63 : decode cX1_shift 63 = .ok (.dup, 1) := by decide +kernel
theorem dX1_shift_64 : decode cX1_shift 64 = .ok (.getfield 19, 3) := by decide +kernel
theorem dX1_shift_67 : decode cX1_shift 67 = .ok (.lload_n 3, 1) := by decide +kernel
theorem dX1_shift_68 : decode cX1_shift 68 = .ok (.ladd, 1) := by decide +kernel
theorem dX1_shift_69 : decode cX1_shift 69 = .ok (.putfield 19, 3) := by decide +kernel
theorem dX1_shift_72 : decode cX1_shift 72 = .ok (.aload_n 0, 1) := by decide +kernel
theorem dX1_shift_73 : decode cX1_shift 73 = .ok (.getfield 25, 3) := by decide +kernel
theorem dX1_shift_76 : decode cX1_shift 76 = .ok (.lload_n 3, 1) := by decide +kernel
theorem dX1_shift_77 : decode cX1_shift 77 = .ok (.invokevirtual 92, 3) := by decide +kernel
theorem dX1_shift_80 : decode cX1_shift 80 = .ok (.aload_n 0, 1) := by decide +kernel
theorem dX1_shift_81 : decode cX1_shift 81 = .ok (.getfield 29, 3) := by decide +kernel
theorem dX1_shift_84 : decode cX1_shift 84 = .ok (.lload_n 3, 1) := by decide +kernel
theorem dX1_shift_85 : decode cX1_shift 85 = .ok (.invokevirtual 92, 3) := by decide +kernel
theorem dX1_shift_88 : decode cX1_shift 88 = .ok (.aload_n 0, 1) := by decide +kernel
theorem dX1_shift_89 : decode cX1_shift 89 = .ok (.bipush 6, 2) := by decide +kernel
theorem dX1_shift_91 : decode cX1_shift 91 = .ok (.iconst 2, 1) := by decide +kernel
theorem dX1_shift_92 : decode cX1_shift 92 = .ok (.aload_n 0, 1) := by decide +kernel
theorem dX1_shift_93 : decode cX1_shift 93 = .ok (.getfield 25, 3) := by decide +kernel
theorem dX1_shift_96 : decode cX1_shift 96 = .ok (.invokevirtual 96, 3) := by decide +kernel
theorem dX1_shift_99 : decode cX1_shift 99 = .ok (.imul, 1) := by decide +kernel
theorem dX1_shift_100 : decode cX1_shift 100 = .ok (.iadd, 1) := by decide +kernel
theorem dX1_shift_101 : decode cX1_shift 101 = .ok (.iconst 2, 1) := by decide +kernel
theorem dX1_shift_102 : decode cX1_shift 102 = .ok (.aload_n 0, 1) := by decide +kernel
theorem dX1_shift_103 : decode cX1_shift 103 = .ok (.getfield 29, 3) := by decide +kernel
theorem dX1_shift_106 : decode cX1_shift 106 = .ok (.invokevirtual 96, 3) := by decide +kernel
theorem dX1_shift_109 : decode cX1_shift 109 = .ok (.imul, 1) := by decide +kernel
theorem dX1_shift_110 : decode cX1_shift 110 = .ok (.iadd, 1) := by decide +kernel
theorem dX1_shift_111 : decode cX1_shift 111 = .ok (.invokevirtual 69, 3) := by decide +kernel
theorem dX1_shift_114 : decode cX1_shift 114 = .ok (.ireturn, 1) := by decide +kernel
theorem dX1_open_0 : decode cX1_open 0 = .ok (.iload_n 1, 1) := by decide +kernel
theorem dX1_open_1 : decode cX1_open 1 = .ok (.invokestatic 39, 3) := by decide +kernel
theorem dX1_open_4 : decode cX1_open 4 = .ok (.iload_n 2, 1) := by decide +kernel
theorem dX1_open_5 : decode cX1_open 5 = .ok (.invokestatic 39, 3) := by decide +kernel
theorem dX1_open_8 : decode cX1_open 8 = .ok (.aload_n 0, 1) := by decide +kernel
theorem dX1_open_9 : decode cX1_open 9 = .ok (.getfield 9, 3) := by decide +kernel
theorem dX1_open_12 : decode cX1_open 12 = .ok (.iload_n 1, 1) := by decide +kernel
theorem dX1_open_13 : decode cX1_open 13 = .ok (.laload, 1) := by decide +kernel
theorem dX1_open_14 : decode cX1_open 14 = .ok (.aload_n 0, 1) := by decide +kernel
theorem dX1_open_15 : decode cX1_open 15 = .ok (.getfield 9, 3) := by decide +kernel
theorem dX1_open_18 : decode cX1_open 18 = .ok (.iload_n 2, 1) := by decide +kernel
theorem dX1_open_19 : decode cX1_open 19 = .ok (.laload, 1) := by decide +kernel
theorem dX1_open_20 : decode cX1_open 20 = .ok (.lcmp, 1) := by decide +kernel
theorem dX1_open_21 : decode cX1_open 21 = .ok (.ifCond .lt 8, 3) := by decide +kernel
theorem dX1_open_24 : decode cX1_open 24 = .ok (.aload_n 0, 1) := by decide +kernel
theorem dX1_open_25 : decode cX1_open 25 = .ok (.invokevirtual 61, 3) := by decide +kernel
theorem dX1_open_28 : decode cX1_open 28 = .ok (.ireturn, 1) := by decide +kernel
theorem dX1_open_29 : decode cX1_open 29 = .ok (.aload_n 0, 1) := by decide +kernel
theorem dX1_open_30 : decode cX1_open 30 = .ok (.aload_n 0, 1) := by decide +kernel
theorem dX1_open_31 : decode cX1_open 31 = .ok (.getfield 9, 3) := by decide +kernel
theorem dX1_open_34 : decode cX1_open 34 = .ok (.iload_n 1, 1) := by decide +kernel
theorem dX1_open_35 : decode cX1_open 35 = .ok (.laload, 1) := by decide +kernel
theorem dX1_open_36 : decode cX1_open 36 = .ok (.putfield 13, 3) := by decide +kernel
theorem dX1_open_39 : decode cX1_open 39 = .ok (.aload_n 0, 1) := by decide +kernel
theorem dX1_open_40 : decode cX1_open 40 = .ok (.aload_n 0, 1) := by decide +kernel
theorem dX1_open_41 : decode cX1_open 41 = .ok (.getfield 9, 3) := by decide +kernel
theorem dX1_open_44 : decode cX1_open 44 = .ok (.iload_n 2, 1) := by decide +kernel
theorem dX1_open_45 : decode cX1_open 45 = .ok (.laload, 1) := by decide +kernel
theorem dX1_open_46 : decode cX1_open 46 = .ok (.putfield 19, 3) := by decide +kernel
theorem dX1_open_49 : decode cX1_open 49 = .ok (.aload_n 0, 1) := by decide +kernel
theorem dX1_open_50 : decode cX1_open 50 = .ok (.aload_n 0, 1) := by decide +kernel
theorem dX1_open_51 : decode cX1_open 51 = .ok (.getfield 25, 3) := by decide +kernel
theorem dX1_open_54 : decode cX1_open 54 = .ok (.invokevirtual 99, 3) := by decide +kernel
theorem dX1_open_57 : decode cX1_open 57 = .ok (.invokevirtual 69, 3) := by decide +kernel
theorem dX1_open_60 : decode cX1_open 60 = .ok (.ireturn, 1) := by decide +kernel
theorem dX1_book_0 : decode cX1_book 0 = .ok (.iload_n 1, 1) := by decide +kernel
theorem dX1_book_1 : decode cX1_book 1 = .ok (.invokestatic 39, 3) := by decide +kernel
theorem dX1_book_4 : decode cX1_book 4 = .ok (.iload_n 2, 1) := by decide +kernel
theorem dX1_book_5 : decode cX1_book 5 = .ok (.invokestatic 39, 3) := by decide +kernel
theorem dX1_book_8 : decode cX1_book 8 = .ok (.aload_n 0, 1) := by decide +kernel
theorem dX1_book_9 : decode cX1_book 9 = .ok (.aload_n 0, 1) := by decide +kernel
theorem dX1_book_10 : decode cX1_book 10 = .ok (.getfield 9, 3) := by decide +kernel
theorem dX1_book_13 : decode cX1_book 13 = .ok (.iload_n 1, 1) := by decide +kernel
theorem dX1_book_14 : decode cX1_book 14 = .ok (.laload, 1) := by decide +kernel
theorem dX1_book_15 : decode cX1_book 15 = .ok (.aload_n 0, 1) := by decide +kernel
theorem dX1_book_16 : decode cX1_book 16 = .ok (.getfield 9, 3) := by decide +kernel
theorem dX1_book_19 : decode cX1_book 19 = .ok (.iload_n 2, 1) := by decide +kernel
theorem dX1_book_20 : decode cX1_book 20 = .ok (.laload, 1) := by decide +kernel
theorem dX1_book_21 : decode cX1_book 21 = .ok (.iload_n 3, 1) := by decide +kernel
theorem dX1_book_22 : decode cX1_book 22 = .ok (.invokevirtual 102, 3) := by decide +kernel
theorem dX1_book_25 : decode cX1_book 25 = .ok (.istore 4, 2) := by decide +kernel
theorem dX1_book_27 : decode cX1_book 27 = .ok (.iload 4, 2) := by decide +kernel
theorem dX1_book_29 : decode cX1_book 29 = .ok (.iconst (-1), 1) := by decide +kernel
theorem dX1_book_30 : decode cX1_book 30 = .ok (.if_icmp .ne 10, 3) := by decide +kernel
theorem dX1_book_33 : decode cX1_book 33 = .ok (.aload_n 0, 1) := by decide +kernel
theorem dX1_book_34 : decode cX1_book 34 = .ok (.invokevirtual 61, 3) := by decide +kernel
theorem dX1_book_37 : decode cX1_book 37 = .ok (.goto 9, 3) := by decide +kernel
theorem dX1_book_40 : decode cX1_book 40 = .ok (.aload_n 0, 1) := by decide +kernel
theorem dX1_book_41 : decode cX1_book 41 = .ok (.iload 4, 2) := by decide +kernel
theorem dX1_book_43 : decode cX1_book 43 = .ok (.invokevirtual 69, 3) := by decide +kernel
theorem dX1_book_46 : decode cX1_book 46 = .ok (.ireturn, 1) := by decide +kernel
theorem dX1_unbook_0 : decode cX1_unbook 0 = .ok (.aload_n 0, 1) := by decide +kernel
theorem dX1_unbook_1 : decode cX1_unbook 1 = .ok (.getfield 25, 3) := by decide +kernel
theorem dX1_unbook_4 : decode cX1_unbook 4 = .ok (.iload_n 1, 1) := by decide +kernel
theorem dX1_unbook_5 : decode cX1_unbook 5 = .ok (.invokestatic 106, 3) := by decide +kernel
theorem dX1_unbook_8 : decode cX1_unbook 8 = .ok (.aload_n 0, 1) := by decide +kernel
theorem dX1_unbook_9 : decode cX1_unbook 9 = .ok (.aload_n 0, 1) := by decide +kernel
theorem dX1_unbook_10 : decode cX1_unbook 10 = .ok (.getfield 25, 3) := by decide +kernel
theorem dX1_unbook_13 : decode cX1_unbook 13 = .ok (.iload_n 1, 1) := by decide +kernel
theorem dX1_unbook_14 : decode cX1_unbook 14 = .ok (.invokevirtual 110, 3) := by decide +kernel
theorem dX1_unbook_17 : decode cX1_unbook 17 = .ok (.invokevirtual 69, 3) := by decide +kernel
theorem dX1_unbook_20 : decode cX1_unbook 20 = .ok (.ireturn, 1) := by decide +kernel
theorem dX1_empty_0 : decode cX1_empty 0 = .ok (.aload_n 0, 1) := by decide +kernel
theorem dX1_empty_1 : decode cX1_empty 1 = .ok (.aload_n 0, 1) := by decide +kernel
theorem dX1_empty_2 : decode cX1_empty 2 = .ok (.getfield 25, 3) := by decide +kernel
theorem dX1_empty_5 : decode cX1_empty 5 = .ok (.invokevirtual 99, 3) := by decide +kernel
theorem dX1_empty_8 : decode cX1_empty 8 = .ok (.invokevirtual 69, 3) := by decide +kernel
theorem dX1_empty_11 : decode cX1_empty 11 = .ok (.ireturn, 1) := by decide +kernel
theorem dX1_move_0 : decode cX1_move 0 = .ok (.aload_n 0, 1) := by decide +kernel
theorem dX1_move_1 : decode cX1_move 1 = .ok (.getfield 25, 3) := by decide +kernel
theorem dX1_move_4 : decode cX1_move 4 = .ok (.iload_n 1, 1) := by decide +kernel
theorem dX1_move_5 : decode cX1_move 5 = .ok (.invokestatic 106, 3) := by decide +kernel
theorem dX1_move_8 : decode cX1_move 8 = .ok (.iload_n 2, 1) := by decide +kernel
theorem dX1_move_9 : decode cX1_move 9 = .ok (.iload_n 3, 1) := by decide +kernel
theorem dX1_move_10 : decode cX1_move 10 = .ok (.ldc 49, 2) := by decide +kernel
theorem dX1_move_12 : decode cX1_move 12 = .ok (.invokestatic 73, 3) := by decide +kernel
theorem dX1_move_15 : decode cX1_move 15 = .ok (.iload_n 2, 1) := by decide +kernel
theorem dX1_move_16 : decode cX1_move 16 = .ok (.iload_n 3, 1) := by decide +kernel
theorem dX1_move_17 : decode cX1_move 17 = .ok (.invokestatic 77, 3) := by decide +kernel
theorem dX1_move_20 : decode cX1_move 20 = .ok (.lstore 4, 2) := by decide +kernel
theorem dX1_move_22 : decode cX1_move 22 = .ok (.aload_n 0, 1) := by decide +kernel
theorem dX1_move_23 : decode cX1_move 23 = .ok (.iload_n 1, 1) := by decide +kernel
theorem dX1_move_24 : decode cX1_move 24 = .ok (.aload_n 0, 1) := by decide +kernel
theorem dX1_move_25 : decode cX1_move 25 = .ok (.getfield 25, 3) := by decide +kernel
theorem dX1_move_28 : decode cX1_move 28 = .ok (.iload_n 1, 1) := by decide +kernel
theorem dX1_move_29 : decode cX1_move 29 = .ok (.invokevirtual 113, 3) := by decide +kernel
theorem dX1_move_32 : decode cX1_move 32 = .ok (.lload 4, 2) := by decide +kernel
theorem dX1_move_34 : decode cX1_move 34 = .ok (.ladd, 1) := by decide +kernel
theorem dX1_move_35 : decode cX1_move 35 = .ok (.aload_n 0, 1) := by decide +kernel
theorem dX1_move_36 : decode cX1_move 36 = .ok (.getfield 25, 3) := by decide +kernel
theorem dX1_move_39 : decode cX1_move 39 = .ok (.iload_n 1, 1) := by decide +kernel
theorem dX1_move_40 : decode cX1_move 40 = .ok (.invokevirtual 117, 3) := by decide +kernel
theorem dX1_move_43 : decode cX1_move 43 = .ok (.lload 4, 2) := by decide +kernel
theorem dX1_move_45 : decode cX1_move 45 = .ok (.ladd, 1) := by decide +kernel
theorem dX1_move_46 : decode cX1_move 46 = .ok (.invokevirtual 120, 3) := by decide +kernel
theorem dX1_move_49 : decode cX1_move 49 = .ok (.ifCond .ne 8, 3) := by decide +kernel
theorem dX1_move_52 : decode cX1_move 52 = .ok (.aload_n 0, 1) := by decide +kernel
theorem dX1_move_53 : decode cX1_move 53 = .ok (.invokevirtual 61, 3) := by decide +kernel
theorem dX1_move_56 : decode cX1_move 56 = .ok (.ireturn, 1) := by decide +kernel
theorem dX1_move_57 : decode cX1_move 57 = .ok (.aload_n 0, 1) := by decide +kernel
theorem dX1_move_58 : decode cX1_move 58 = .ok (.aload_n 0, 1) := by decide +kernel
theorem dX1_move_59 : decode cX1_move 59 = .ok (.getfield 25, 3) := by decide +kernel
theorem dX1_move_62 : decode cX1_move 62 = .ok (.aload_n 0, 1) := by decide +kernel
theorem dX1_move_63 : decode cX1_move 63 = .ok (.getfield 25, 3) := by decide +kernel
theorem dX1_move_66 : decode cX1_move 66 = .ok (.iload_n 1, 1) := by decide +kernel
theorem dX1_move_67 : decode cX1_move 67 = .ok (.invokevirtual 113, 3) := by decide +kernel
theorem dX1_move_70 : decode cX1_move 70 = .ok (.invokevirtual 124, 3) := by decide +kernel
theorem dX1_move_73 : decode cX1_move 73 = .ok (.invokevirtual 69, 3) := by decide +kernel
theorem dX1_move_76 : decode cX1_move 76 = .ok (.ireturn, 1) := by decide +kernel
theorem dX1_stretch_0 : decode cX1_stretch 0 = .ok (.aload_n 0, 1) := by decide +kernel
theorem dX1_stretch_1 : decode cX1_stretch 1 = .ok (.getfield 25, 3) := by decide +kernel
theorem dX1_stretch_4 : decode cX1_stretch 4 = .ok (.iload_n 1, 1) := by decide +kernel
theorem dX1_stretch_5 : decode cX1_stretch 5 = .ok (.invokestatic 106, 3) := by decide +kernel
theorem dX1_stretch_8 : decode cX1_stretch 8 = .ok (.iload_n 2, 1) := by decide +kernel
theorem dX1_stretch_9 : decode cX1_stretch 9 = .ok (.iload_n 3, 1) := by decide +kernel
theorem dX1_stretch_10 : decode cX1_stretch 10 = .ok (.ldc 49, 2) := by decide +kernel
theorem dX1_stretch_12 : decode cX1_stretch 12 = .ok (.invokestatic 73, 3) := by decide +kernel
theorem dX1_stretch_15 : decode cX1_stretch 15 = .ok (.aload_n 0, 1) := by decide +kernel
theorem dX1_stretch_16 : decode cX1_stretch 16 = .ok (.iload_n 1, 1) := by decide +kernel
theorem dX1_stretch_17 : decode cX1_stretch 17 = .ok (.aload_n 0, 1) := by decide +kernel
theorem dX1_stretch_18 : decode cX1_stretch 18 = .ok (.getfield 25, 3) := by decide +kernel
theorem dX1_stretch_21 : decode cX1_stretch 21 = .ok (.iload_n 1, 1) := by decide +kernel
theorem dX1_stretch_22 : decode cX1_stretch 22 = .ok (.invokevirtual 113, 3) := by decide +kernel
theorem dX1_stretch_25 : decode cX1_stretch 25 = .ok (.aload_n 0, 1) := by decide +kernel
theorem dX1_stretch_26 : decode cX1_stretch 26 = .ok (.getfield 25, 3) := by decide +kernel
theorem dX1_stretch_29 : decode cX1_stretch 29 = .ok (.iload_n 1, 1) := by decide +kernel
theorem dX1_stretch_30 : decode cX1_stretch 30 = .ok (.invokevirtual 117, 3) := by decide +kernel
theorem dX1_stretch_33 : decode cX1_stretch 33 = .ok (.iload_n 2, 1) := by decide +kernel
theorem dX1_stretch_34 : decode cX1_stretch 34 = .ok (.iload_n 3, 1) := by decide +kernel
theorem dX1_stretch_35 : decode cX1_stretch 35 = .ok (.invokestatic 77, 3) := by decide +kernel
theorem dX1_stretch_38 : decode cX1_stretch 38 = .ok (.ladd, 1) := by decide +kernel
theorem dX1_stretch_39 : decode cX1_stretch 39 = .ok (.invokevirtual 120, 3) := by decide +kernel
theorem dX1_stretch_42 : decode cX1_stretch 42 = .ok (.ifCond .ne 8, 3) := by decide +kernel
theorem dX1_stretch_45 : decode cX1_stretch 45 = .ok (.aload_n 0, 1) := by decide +kernel
theorem dX1_stretch_46 : decode cX1_stretch 46 = .ok (.invokevirtual 61, 3) := by decide +kernel
theorem dX1_stretch_49 : decode cX1_stretch 49 = .ok (.ireturn, 1) := by decide +kernel
theorem dX1_stretch_50 : decode cX1_stretch 50 = .ok (.aload_n 0, 1) := by decide +kernel
theorem dX1_stretch_51 : decode cX1_stretch 51 = .ok (.aload_n 0, 1) := by decide +kernel
theorem dX1_stretch_52 : decode cX1_stretch 52 = .ok (.getfield 25, 3) := by decide +kernel
theorem dX1_stretch_55 : decode cX1_stretch 55 = .ok (.aload_n 0, 1) := by decide +kernel
theorem dX1_stretch_56 : decode cX1_stretch 56 = .ok (.getfield 25, 3) := by decide +kernel
theorem dX1_stretch_59 : decode cX1_stretch 59 = .ok (.iload_n 1, 1) := by decide +kernel
theorem dX1_stretch_60 : decode cX1_stretch 60 = .ok (.invokevirtual 117, 3) := by decide +kernel
theorem dX1_stretch_63 : decode cX1_stretch 63 = .ok (.invokevirtual 127, 3) := by decide +kernel
theorem dX1_stretch_66 : decode cX1_stretch 66 = .ok (.invokevirtual 69, 3) := by decide +kernel
theorem dX1_stretch_69 : decode cX1_stretch 69 = .ok (.ireturn, 1) := by decide +kernel
theorem dX1_fit_0 : decode cX1_fit 0 = .ok (.iload_n 1, 1) := by decide +kernel
theorem dX1_fit_1 : decode cX1_fit 1 = .ok (.invokestatic 39, 3) := by decide +kernel
theorem dX1_fit_4 : decode cX1_fit 4 = .ok (.iload 4, 2) := by decide +kernel
theorem dX1_fit_6 : decode cX1_fit 6 = .ok (.invokestatic 39, 3) := by decide +kernel
theorem dX1_fit_9 : decode cX1_fit 9 = .ok (.iload_n 2, 1) := by decide +kernel
theorem dX1_fit_10 : decode cX1_fit 10 = .ok (.iload_n 3, 1) := by decide +kernel
theorem dX1_fit_11 : decode cX1_fit 11 = .ok (.iconst 1, 1) := by decide +kernel
theorem dX1_fit_12 : decode cX1_fit 12 = .ok (.invokestatic 73, 3) := by decide +kernel
theorem dX1_fit_15 : decode cX1_fit 15 = .ok (.iload_n 2, 1) := by decide +kernel
theorem dX1_fit_16 : decode cX1_fit 16 = .ok (.iload_n 3, 1) := by decide +kernel
theorem dX1_fit_17 : decode cX1_fit 17 = .ok (.invokestatic 77, 3) := by decide +kernel
theorem dX1_fit_20 : decode cX1_fit 20 = .ok (.lstore 5, 2) := by decide +kernel
theorem dX1_fit_22 : decode cX1_fit 22 = .ok (.aload_n 0, 1) := by decide +kernel
theorem dX1_fit_23 : decode cX1_fit 23 = .ok (.aload_n 0, 1) := by decide +kernel
theorem dX1_fit_24 : decode cX1_fit 24 = .ok (.getfield 9, 3) := by decide +kernel
theorem dX1_fit_27 : decode cX1_fit 27 = .ok (.iload_n 1, 1) := by decide +kernel
theorem dX1_fit_28 : decode cX1_fit 28 = .ok (.laload, 1) := by decide +kernel
theorem dX1_fit_29 : decode cX1_fit 29 = .ok (.aload_n 0, 1) := by decide +kernel
theorem dX1_fit_30 : decode cX1_fit 30 = .ok (.getfield 13, 3) := by decide +kernel
theorem dX1_fit_33 : decode cX1_fit 33 = .ok (.invokestatic 130, 3) := by decide +kernel
theorem dX1_fit_36 : decode cX1_fit 36 = .ok (.lload 5, 2) := by decide +kernel
theorem dX1_fit_38 : decode cX1_fit 38 = .ok (.invokevirtual 136, 3) := by decide +kernel
theorem dX1_fit_41 : decode cX1_fit 41 = .ok (.lstore 7, 2) := by decide +kernel
theorem dX1_fit_43 : decode cX1_fit 43 = .ok (.lload 7, 2) := by decide +kernel
theorem dX1_fit_45 : decode cX1_fit 45 = .ok (.lload 5, 2) := by decide +kernel
theorem dX1_fit_47 : decode cX1_fit 47 = .ok (.ladd, 1) := by decide +kernel
theorem dX1_fit_48 : decode cX1_fit 48 = .ok (.aload_n 0, 1) := by decide +kernel
theorem dX1_fit_49 : decode cX1_fit 49 = .ok (.getfield 19, 3) := by decide +kernel
theorem dX1_fit_52 : decode cX1_fit 52 = .ok (.lcmp, 1) := by decide +kernel
theorem dX1_fit_53 : decode cX1_fit 53 = .ok (.ifCond .le 8, 3) := by decide +kernel
theorem dX1_fit_56 : decode cX1_fit 56 = .ok (.aload_n 0, 1) := by decide +kernel
theorem dX1_fit_57 : decode cX1_fit 57 = .ok (.invokevirtual 61, 3) := by decide +kernel
theorem dX1_fit_60 : decode cX1_fit 60 = .ok (.ireturn, 1) := by decide +kernel
theorem dX1_fit_61 : decode cX1_fit 61 = .ok (.aload_n 0, 1) := by decide +kernel
theorem dX1_fit_62 : decode cX1_fit 62 = .ok (.aload_n 0, 1) := by decide +kernel
theorem dX1_fit_63 : decode cX1_fit 63 = .ok (.lload 7, 2) := by decide +kernel
theorem dX1_fit_65 : decode cX1_fit 65 = .ok (.iload 4, 2) := by decide +kernel
theorem dX1_fit_67 : decode cX1_fit 67 = .ok (.invokevirtual 85, 3) := by decide +kernel
theorem dX1_fit_70 : decode cX1_fit 70 = .ok (.invokevirtual 69, 3) := by decide +kernel
theorem dX1_fit_73 : decode cX1_fit 73 = .ok (.ireturn, 1) := by decide +kernel
theorem dX1_wish_0 : decode cX1_wish 0 = .ok (.iload_n 1, 1) := by decide +kernel
theorem dX1_wish_1 : decode cX1_wish 1 = .ok (.invokestatic 39, 3) := by decide +kernel
theorem dX1_wish_4 : decode cX1_wish 4 = .ok (.iload_n 2, 1) := by decide +kernel
theorem dX1_wish_5 : decode cX1_wish 5 = .ok (.invokestatic 39, 3) := by decide +kernel
theorem dX1_wish_8 : decode cX1_wish 8 = .ok (.aload_n 0, 1) := by decide +kernel
theorem dX1_wish_9 : decode cX1_wish 9 = .ok (.getfield 9, 3) := by decide +kernel
theorem dX1_wish_12 : decode cX1_wish 12 = .ok (.iload_n 1, 1) := by decide +kernel
theorem dX1_wish_13 : decode cX1_wish 13 = .ok (.laload, 1) := by decide +kernel
theorem dX1_wish_14 : decode cX1_wish 14 = .ok (.aload_n 0, 1) := by decide +kernel
theorem dX1_wish_15 : decode cX1_wish 15 = .ok (.getfield 9, 3) := by decide +kernel
theorem dX1_wish_18 : decode cX1_wish 18 = .ok (.iload_n 2, 1) := by decide +kernel
theorem dX1_wish_19 : decode cX1_wish 19 = .ok (.laload, 1) := by decide +kernel
theorem dX1_wish_20 : decode cX1_wish 20 = .ok (.lcmp, 1) := by decide +kernel
theorem dX1_wish_21 : decode cX1_wish 21 = .ok (.ifCond .ge 15, 3) := by decide +kernel
theorem dX1_wish_24 : decode cX1_wish 24 = .ok (.aload_n 0, 1) := by decide +kernel
theorem dX1_wish_25 : decode cX1_wish 25 = .ok (.getfield 29, 3) := by decide +kernel
theorem dX1_wish_28 : decode cX1_wish 28 = .ok (.invokevirtual 96, 3) := by decide +kernel
theorem dX1_wish_31 : decode cX1_wish 31 = .ok (.bipush 8, 2) := by decide +kernel
theorem dX1_wish_33 : decode cX1_wish 33 = .ok (.if_icmp .lt 8, 3) := by decide +kernel
theorem dX1_wish_36 : decode cX1_wish 36 = .ok (.aload_n 0, 1) := by decide +kernel
theorem dX1_wish_37 : decode cX1_wish 37 = .ok (.invokevirtual 61, 3) := by decide +kernel
theorem dX1_wish_40 : decode cX1_wish 40 = .ok (.ireturn, 1) := by decide +kernel
theorem dX1_wish_41 : decode cX1_wish 41 = .ok (.aload_n 0, 1) := by decide +kernel
theorem dX1_wish_42 : decode cX1_wish 42 = .ok (.aload_n 0, 1) := by decide +kernel
theorem dX1_wish_43 : decode cX1_wish 43 = .ok (.getfield 29, 3) := by decide +kernel
theorem dX1_wish_46 : decode cX1_wish 46 = .ok (.aload_n 0, 1) := by decide +kernel
theorem dX1_wish_47 : decode cX1_wish 47 = .ok (.getfield 9, 3) := by decide +kernel
theorem dX1_wish_50 : decode cX1_wish 50 = .ok (.iload_n 1, 1) := by decide +kernel
theorem dX1_wish_51 : decode cX1_wish 51 = .ok (.laload, 1) := by decide +kernel
theorem dX1_wish_52 : decode cX1_wish 52 = .ok (.aload_n 0, 1) := by decide +kernel
theorem dX1_wish_53 : decode cX1_wish 53 = .ok (.getfield 9, 3) := by decide +kernel
theorem dX1_wish_56 : decode cX1_wish 56 = .ok (.iload_n 2, 1) := by decide +kernel
theorem dX1_wish_57 : decode cX1_wish 57 = .ok (.laload, 1) := by decide +kernel
theorem dX1_wish_58 : decode cX1_wish 58 = .ok (.iconst 0, 1) := by decide +kernel
theorem dX1_wish_59 : decode cX1_wish 59 = .ok (.invokevirtual 139, 3) := by decide +kernel
theorem dX1_wish_62 : decode cX1_wish 62 = .ok (.invokevirtual 69, 3) := by decide +kernel
theorem dX1_wish_65 : decode cX1_wish 65 = .ok (.ireturn, 1) := by decide +kernel
theorem dX1_unwish_0 : decode cX1_unwish 0 = .ok (.aload_n 0, 1) := by decide +kernel
theorem dX1_unwish_1 : decode cX1_unwish 1 = .ok (.getfield 29, 3) := by decide +kernel
theorem dX1_unwish_4 : decode cX1_unwish 4 = .ok (.iload_n 1, 1) := by decide +kernel
theorem dX1_unwish_5 : decode cX1_unwish 5 = .ok (.invokestatic 106, 3) := by decide +kernel
theorem dX1_unwish_8 : decode cX1_unwish 8 = .ok (.aload_n 0, 1) := by decide +kernel
theorem dX1_unwish_9 : decode cX1_unwish 9 = .ok (.aload_n 0, 1) := by decide +kernel
theorem dX1_unwish_10 : decode cX1_unwish 10 = .ok (.getfield 29, 3) := by decide +kernel
theorem dX1_unwish_13 : decode cX1_unwish 13 = .ok (.iload_n 1, 1) := by decide +kernel
theorem dX1_unwish_14 : decode cX1_unwish 14 = .ok (.invokevirtual 110, 3) := by decide +kernel
theorem dX1_unwish_17 : decode cX1_unwish 17 = .ok (.invokevirtual 69, 3) := by decide +kernel
theorem dX1_unwish_20 : decode cX1_unwish 20 = .ok (.ireturn, 1) := by decide +kernel
theorem dX1_grant_0 : decode cX1_grant 0 = .ok (.aload_n 0, 1) := by decide +kernel
theorem dX1_grant_1 : decode cX1_grant 1 = .ok (.getfield 29, 3) := by decide +kernel
theorem dX1_grant_4 : decode cX1_grant 4 = .ok (.iload_n 1, 1) := by decide +kernel
theorem dX1_grant_5 : decode cX1_grant 5 = .ok (.invokestatic 106, 3) := by decide +kernel
theorem dX1_grant_8 : decode cX1_grant 8 = .ok (.aload_n 0, 1) := by decide +kernel
theorem dX1_grant_9 : decode cX1_grant 9 = .ok (.aload_n 0, 1) := by decide +kernel
theorem dX1_grant_10 : decode cX1_grant 10 = .ok (.getfield 29, 3) := by decide +kernel
theorem dX1_grant_13 : decode cX1_grant 13 = .ok (.iload_n 1, 1) := by decide +kernel
theorem dX1_grant_14 : decode cX1_grant 14 = .ok (.invokevirtual 113, 3) := by decide +kernel
theorem dX1_grant_17 : decode cX1_grant 17 = .ok (.aload_n 0, 1) := by decide +kernel
theorem dX1_grant_18 : decode cX1_grant 18 = .ok (.getfield 29, 3) := by decide +kernel
theorem dX1_grant_21 : decode cX1_grant 21 = .ok (.iload_n 1, 1) := by decide +kernel
theorem dX1_grant_22 : decode cX1_grant 22 = .ok (.invokevirtual 117, 3) := by decide +kernel
theorem dX1_grant_25 : decode cX1_grant 25 = .ok (.iconst 0, 1) := by decide +kernel
theorem dX1_grant_26 : decode cX1_grant 26 = .ok (.invokevirtual 102, 3) := by decide +kernel
theorem dX1_grant_29 : decode cX1_grant 29 = .ok (.istore_n 2, 1) := by decide +kernel
theorem dX1_grant_30 : decode cX1_grant 30 = .ok (.iload_n 2, 1) := by decide +kernel
theorem dX1_grant_31 : decode cX1_grant 31 = .ok (.iconst (-1), 1) := by decide +kernel
theorem dX1_grant_32 : decode cX1_grant 32 = .ok (.if_icmp .ne 8, 3) := by decide +kernel
theorem dX1_grant_35 : decode cX1_grant 35 = .ok (.aload_n 0, 1) := by decide +kernel
theorem dX1_grant_36 : decode cX1_grant 36 = .ok (.invokevirtual 61, 3) := by decide +kernel
theorem dX1_grant_39 : decode cX1_grant 39 = .ok (.ireturn, 1) := by decide +kernel
theorem dX1_grant_40 : decode cX1_grant 40 = .ok (.aload_n 0, 1) := by decide +kernel
theorem dX1_grant_41 : decode cX1_grant 41 = .ok (.getfield 29, 3) := by decide +kernel
theorem dX1_grant_44 : decode cX1_grant 44 = .ok (.iload_n 1, 1) := by decide +kernel
theorem dX1_grant_45 : decode cX1_grant 45 = .ok (.invokevirtual 110, 3) := by decide +kernel
theorem dX1_grant_48 : decode cX1_grant 48 = .ok (.pop, 1) := by decide +kernel
theorem dX1_grant_49 : decode cX1_grant 49 = .ok (.aload_n 0, 1) := by decide +kernel
theorem dX1_grant_50 : decode cX1_grant 50 = .ok (.iload_n 2, 1) := by decide +kernel
theorem dX1_grant_51 : decode cX1_grant 51 = .ok (.invokevirtual 69, 3) := by decide +kernel
theorem dX1_grant_54 : decode cX1_grant 54 = .ok (.ireturn, 1) := by decide +kernel
theorem dX1_second_0 : decode cX1_second 0 = .ok (.iload_n 1, 1) := by decide +kernel
theorem dX1_second_1 : decode cX1_second 1 = .ok (.invokestatic 39, 3) := by decide +kernel
theorem dX1_second_4 : decode cX1_second 4 = .ok (.aload_n 0, 1) := by decide +kernel
theorem dX1_second_5 : decode cX1_second 5 = .ok (.getfield 9, 3) := by decide +kernel
theorem dX1_second_8 : decode cX1_second 8 = .ok (.iload_n 1, 1) := by decide +kernel
theorem dX1_second_9 : decode cX1_second 9 = .ok (.laload, 1) := by decide +kernel
theorem dX1_second_10 : decode cX1_second 10 = .ok (.invokestatic 65, 3) := by decide +kernel
theorem dX1_second_13 : decode cX1_second 13 = .ok (.ireturn, 1) := by decide +kernel
theorem dX1_nano_0 : decode cX1_nano 0 = .ok (.iload_n 1, 1) := by decide +kernel
theorem dX1_nano_1 : decode cX1_nano 1 = .ok (.invokestatic 39, 3) := by decide +kernel
theorem dX1_nano_4 : decode cX1_nano 4 = .ok (.aload_n 0, 1) := by decide +kernel
theorem dX1_nano_5 : decode cX1_nano 5 = .ok (.getfield 9, 3) := by decide +kernel
theorem dX1_nano_8 : decode cX1_nano 8 = .ok (.iload_n 1, 1) := by decide +kernel
theorem dX1_nano_9 : decode cX1_nano 9 = .ok (.laload, 1) := by decide +kernel
theorem dX1_nano_10 : decode cX1_nano 10 = .ok (.invokestatic 142, 3) := by decide +kernel
theorem dX1_nano_13 : decode cX1_nano 13 = .ok (.ireturn, 1) := by decide +kernel
theorem dX1_order_0 : decode cX1_order 0 = .ok (.iload_n 1, 1) := by decide +kernel
theorem dX1_order_1 : decode cX1_order 1 = .ok (.invokestatic 39, 3) := by decide +kernel
theorem dX1_order_4 : decode cX1_order 4 = .ok (.iload_n 2, 1) := by decide +kernel
theorem dX1_order_5 : decode cX1_order 5 = .ok (.invokestatic 39, 3) := by decide +kernel
theorem dX1_order_8 : decode cX1_order 8 = .ok (.aload_n 0, 1) := by decide +kernel
theorem dX1_order_9 : decode cX1_order 9 = .ok (.getfield 9, 3) := by decide +kernel
theorem dX1_order_12 : decode cX1_order 12 = .ok (.iload_n 1, 1) := by decide +kernel
theorem dX1_order_13 : decode cX1_order 13 = .ok (.laload, 1) := by decide +kernel
theorem dX1_order_14 : decode cX1_order 14 = .ok (.aload_n 0, 1) := by decide +kernel
theorem dX1_order_15 : decode cX1_order 15 = .ok (.getfield 9, 3) := by decide +kernel
theorem dX1_order_18 : decode cX1_order 18 = .ok (.iload_n 2, 1) := by decide +kernel
theorem dX1_order_19 : decode cX1_order 19 = .ok (.laload, 1) := by decide +kernel
theorem dX1_order_20 : decode cX1_order 20 = .ok (.invokestatic 81, 3) := by decide +kernel
theorem dX1_order_23 : decode cX1_order 23 = .ok (.ireturn, 1) := by decide +kernel
theorem dX1_isBefore_0 : decode cX1_isBefore 0 = .ok (.iload_n 1, 1) := by decide +kernel
theorem dX1_isBefore_1 : decode cX1_isBefore 1 = .ok (.invokestatic 39, 3) := by decide +kernel
theorem dX1_isBefore_4 : decode cX1_isBefore 4 = .ok (.iload_n 2, 1) := by decide +kernel
theorem dX1_isBefore_5 : decode cX1_isBefore 5 = .ok (.invokestatic 39, 3) := by decide +kernel
theorem dX1_isBefore_8 : decode cX1_isBefore 8 = .ok (.aload_n 0, 1) := by decide +kernel
theorem dX1_isBefore_9 : decode cX1_isBefore 9 = .ok (.getfield 9, 3) := by decide +kernel
theorem dX1_isBefore_12 : decode cX1_isBefore 12 = .ok (.iload_n 1, 1) := by decide +kernel
theorem dX1_isBefore_13 : decode cX1_isBefore 13 = .ok (.laload, 1) := by decide +kernel
theorem dX1_isBefore_14 : decode cX1_isBefore 14 = .ok (.aload_n 0, 1) := by decide +kernel
theorem dX1_isBefore_15 : decode cX1_isBefore 15 = .ok (.getfield 9, 3) := by decide +kernel
theorem dX1_isBefore_18 : decode cX1_isBefore 18 = .ok (.iload_n 2, 1) := by decide +kernel
theorem dX1_isBefore_19 : decode cX1_isBefore 19 = .ok (.laload, 1) := by decide +kernel
theorem dX1_isBefore_20 : decode cX1_isBefore 20 = .ok (.lcmp, 1) := by decide +kernel
theorem dX1_isBefore_21 : decode cX1_isBefore 21 = .ok (.ifCond .ge 7, 3) := by decide +kernel
theorem dX1_isBefore_24 : decode cX1_isBefore 24 = .ok (.iconst 1, 1) := by decide +kernel
theorem dX1_isBefore_25 : decode cX1_isBefore 25 = .ok (.goto 4, 3) := by decide +kernel
theorem dX1_isBefore_28 : decode cX1_isBefore 28 = .ok (.iconst 0, 1) := by decide +kernel
theorem dX1_isBefore_29 : decode cX1_isBefore 29 = .ok (.ireturn, 1) := by decide +kernel
theorem dX1_isAfter_0 : decode cX1_isAfter 0 = .ok (.iload_n 1, 1) := by decide +kernel
theorem dX1_isAfter_1 : decode cX1_isAfter 1 = .ok (.invokestatic 39, 3) := by decide +kernel
theorem dX1_isAfter_4 : decode cX1_isAfter 4 = .ok (.iload_n 2, 1) := by decide +kernel
theorem dX1_isAfter_5 : decode cX1_isAfter 5 = .ok (.invokestatic 39, 3) := by decide +kernel
theorem dX1_isAfter_8 : decode cX1_isAfter 8 = .ok (.aload_n 0, 1) := by decide +kernel
theorem dX1_isAfter_9 : decode cX1_isAfter 9 = .ok (.getfield 9, 3) := by decide +kernel
theorem dX1_isAfter_12 : decode cX1_isAfter 12 = .ok (.iload_n 1, 1) := by decide +kernel
theorem dX1_isAfter_13 : decode cX1_isAfter 13 = .ok (.laload, 1) := by decide +kernel
theorem dX1_isAfter_14 : decode cX1_isAfter 14 = .ok (.aload_n 0, 1) := by decide +kernel
theorem dX1_isAfter_15 : decode cX1_isAfter 15 = .ok (.getfield 9, 3) := by decide +kernel
theorem dX1_isAfter_18 : decode cX1_isAfter 18 = .ok (.iload_n 2, 1) := by decide +kernel
theorem dX1_isAfter_19 : decode cX1_isAfter 19 = .ok (.laload, 1) := by decide +kernel
theorem dX1_isAfter_20 : decode cX1_isAfter 20 = .ok (.lcmp, 1) := by decide +kernel
theorem dX1_isAfter_21 : decode cX1_isAfter 21 = .ok (.ifCond .le 7, 3) := by decide +kernel
theorem dX1_isAfter_24 : decode cX1_isAfter 24 = .ok (.iconst 1, 1) := by decide +kernel
theorem dX1_isAfter_25 : decode cX1_isAfter 25 = .ok (.goto 4, 3) := by decide +kernel
theorem dX1_isAfter_28 : decode cX1_isAfter 28 = .ok (.iconst 0, 1) := by decide +kernel
theorem dX1_isAfter_29 : decode cX1_isAfter 29 = .ok (.ireturn, 1) := by decide +kernel
theorem dX1_same_0 : decode cX1_same 0 = .ok (.iload_n 1, 1) := by decide +kernel
theorem dX1_same_1 : decode cX1_same 1 = .ok (.invokestatic 39, 3) := by decide +kernel
theorem dX1_same_4 : decode cX1_same 4 = .ok (.iload_n 2, 1) := by decide +kernel
theorem dX1_same_5 : decode cX1_same 5 = .ok (.invokestatic 39, 3) := by decide +kernel
theorem dX1_same_8 : decode cX1_same 8 = .ok (.iload_n 3, 1) := by decide +kernel
theorem dX1_same_9 : decode cX1_same 9 = .ok (.iconst 0, 1) := by decide +kernel
theorem dX1_same_10 : decode cX1_same 10 = .ok (.iconst 2, 1) := by decide +kernel
theorem dX1_same_11 : decode cX1_same 11 = .ok (.invokestatic 45, 3) := by decide +kernel
theorem dX1_same_14 : decode cX1_same 14 = .ok (.invokestatic 51, 3) := by decide +kernel
theorem dX1_same_17 : decode cX1_same 17 = .ok (.iload_n 3, 1) := by decide +kernel
theorem dX1_same_18 : decode cX1_same 18 = .ok (.iconst 2, 1) := by decide +kernel
theorem dX1_same_19 : decode cX1_same 19 = .ok (.if_icmp .eq 19, 3) := by decide +kernel
theorem dX1_same_22 : decode cX1_same 22 = .ok (.aload_n 0, 1) := by decide +kernel
theorem dX1_same_23 : decode cX1_same 23 = .ok (.getfield 9, 3) := by decide +kernel
theorem dX1_same_26 : decode cX1_same 26 = .ok (.iload_n 1, 1) := by decide +kernel
theorem dX1_same_27 : decode cX1_same 27 = .ok (.laload, 1) := by decide +kernel
theorem dX1_same_28 : decode cX1_same 28 = .ok (.aload_n 0, 1) := by decide +kernel
theorem dX1_same_29 : decode cX1_same 29 = .ok (.getfield 9, 3) := by decide +kernel
theorem dX1_same_32 : decode cX1_same 32 = .ok (.iload_n 2, 1) := by decide +kernel
theorem dX1_same_33 : decode cX1_same 33 = .ok (.laload, 1) := by decide +kernel
theorem dX1_same_34 : decode cX1_same 34 = .ok (.lcmp, 1) := by decide +kernel
theorem dX1_same_35 : decode cX1_same 35 = .ok (.ifCond .ne 7, 3) := by decide +kernel
theorem dX1_same_38 : decode cX1_same 38 = .ok (.iconst 1, 1) := by decide +kernel
theorem dX1_same_39 : decode cX1_same 39 = .ok (.goto 4, 3) := by decide +kernel
theorem dX1_same_42 : decode cX1_same 42 = .ok (.iconst 0, 1) := by decide +kernel
theorem dX1_same_43 : decode cX1_same 43 = .ok (.ireturn, 1) := by decide +kernel
theorem dX1_apart_0 : decode cX1_apart 0 = .ok (.iload_n 1, 1) := by decide +kernel
theorem dX1_apart_1 : decode cX1_apart 1 = .ok (.invokestatic 39, 3) := by decide +kernel
theorem dX1_apart_4 : decode cX1_apart 4 = .ok (.iload_n 2, 1) := by decide +kernel
theorem dX1_apart_5 : decode cX1_apart 5 = .ok (.invokestatic 39, 3) := by decide +kernel
theorem dX1_apart_8 : decode cX1_apart 8 = .ok (.iload_n 3, 1) := by decide +kernel
theorem dX1_apart_9 : decode cX1_apart 9 = .ok (.iconst 0, 1) := by decide +kernel
theorem dX1_apart_10 : decode cX1_apart 10 = .ok (.iconst 1, 1) := by decide +kernel
theorem dX1_apart_11 : decode cX1_apart 11 = .ok (.invokestatic 45, 3) := by decide +kernel
theorem dX1_apart_14 : decode cX1_apart 14 = .ok (.invokestatic 51, 3) := by decide +kernel
theorem dX1_apart_17 : decode cX1_apart 17 = .ok (.aload_n 0, 1) := by decide +kernel
theorem dX1_apart_18 : decode cX1_apart 18 = .ok (.getfield 9, 3) := by decide +kernel
theorem dX1_apart_21 : decode cX1_apart 21 = .ok (.iload_n 2, 1) := by decide +kernel
theorem dX1_apart_22 : decode cX1_apart 22 = .ok (.laload, 1) := by decide +kernel
theorem dX1_apart_23 : decode cX1_apart 23 = .ok (.aload_n 0, 1) := by decide +kernel
theorem dX1_apart_24 : decode cX1_apart 24 = .ok (.getfield 9, 3) := by decide +kernel
theorem dX1_apart_27 : decode cX1_apart 27 = .ok (.iload_n 1, 1) := by decide +kernel
theorem dX1_apart_28 : decode cX1_apart 28 = .ok (.laload, 1) := by decide +kernel
theorem dX1_apart_29 : decode cX1_apart 29 = .ok (.lsub, 1) := by decide +kernel
theorem dX1_apart_30 : decode cX1_apart 30 = .ok (.iload_n 3, 1) := by decide +kernel
theorem dX1_apart_31 : decode cX1_apart 31 = .ok (.invokestatic 159, 3) := by decide +kernel
theorem dX1_apart_34 : decode cX1_apart 34 = .ok (.ireturn, 1) := by decide +kernel
theorem dX1_calendar_0 : decode cX1_calendar 0 = .ok (.iload_n 1, 1) := by decide +kernel
theorem dX1_calendar_1 : decode cX1_calendar 1 = .ok (.iconst 0, 1) := by decide +kernel
theorem dX1_calendar_2 : decode cX1_calendar 2 = .ok (.iconst 3, 1) := by decide +kernel
theorem dX1_calendar_3 : decode cX1_calendar 3 = .ok (.invokestatic 45, 3) := by decide +kernel
theorem dX1_calendar_6 : decode cX1_calendar 6 = .ok (.invokestatic 51, 3) := by decide +kernel
theorem dX1_calendar_9 : decode cX1_calendar 9 = .ok (.iload_n 1, 1) := by decide +kernel
theorem dX1_calendar_10 : decode cX1_calendar 10 = .ok (.iconst 2, 1) := by decide +kernel
theorem dX1_calendar_11 : decode cX1_calendar 11 = .ok (.if_icmp .ge 10, 3) := by decide +kernel
theorem dX1_calendar_14 : decode cX1_calendar 14 = .ok (.aload_n 0, 1) := by decide +kernel
theorem dX1_calendar_15 : decode cX1_calendar 15 = .ok (.getfield 13, 3) := by decide +kernel
theorem dX1_calendar_18 : decode cX1_calendar 18 = .ok (.goto 7, 3) := by decide +kernel
theorem dX1_calendar_21 : decode cX1_calendar 21 = .ok (.aload_n 0, 1) := by decide +kernel
theorem dX1_calendar_22 : decode cX1_calendar 22 = .ok (.getfield 19, 3) := by decide +kernel
theorem dX1_calendar_25 : decode cX1_calendar 25 = .ok (.iload_n 1, 1) := by decide +kernel
theorem dX1_calendar_26 : decode cX1_calendar 26 = .ok (.invokestatic 159, 3) := by decide +kernel
theorem dX1_calendar_29 : decode cX1_calendar 29 = .ok (.ireturn, 1) := by decide +kernel
theorem dX1_spans_0 : decode cX1_spans 0 = .ok (.aload_n 0, 1) := by decide +kernel
theorem dX1_spans_1 : decode cX1_spans 1 = .ok (.getfield 25, 3) := by decide +kernel
theorem dX1_spans_4 : decode cX1_spans 4 = .ok (.invokevirtual 96, 3) := by decide +kernel
theorem dX1_spans_7 : decode cX1_spans 7 = .ok (.ireturn, 1) := by decide +kernel
theorem dX1_ofSpan_0 : decode cX1_ofSpan 0 = .ok (.aload_n 0, 1) := by decide +kernel
theorem dX1_ofSpan_1 : decode cX1_ofSpan 1 = .ok (.getfield 25, 3) := by decide +kernel
theorem dX1_ofSpan_4 : decode cX1_ofSpan 4 = .ok (.iload_n 1, 1) := by decide +kernel
theorem dX1_ofSpan_5 : decode cX1_ofSpan 5 = .ok (.invokestatic 106, 3) := by decide +kernel
theorem dX1_ofSpan_8 : decode cX1_ofSpan 8 = .ok (.iload_n 2, 1) := by decide +kernel
theorem dX1_ofSpan_9 : decode cX1_ofSpan 9 = .ok (.iconst 0, 1) := by decide +kernel
theorem dX1_ofSpan_10 : decode cX1_ofSpan 10 = .ok (.iconst 4, 1) := by decide +kernel
theorem dX1_ofSpan_11 : decode cX1_ofSpan 11 = .ok (.invokestatic 45, 3) := by decide +kernel
theorem dX1_ofSpan_14 : decode cX1_ofSpan 14 = .ok (.invokestatic 51, 3) := by decide +kernel
theorem dX1_ofSpan_17 : decode cX1_ofSpan 17 = .ok (.iload_n 2, 1) := by decide +kernel
theorem dX1_ofSpan_18 : decode cX1_ofSpan 18 = .ok (.iconst 4, 1) := by decide +kernel
theorem dX1_ofSpan_19 : decode cX1_ofSpan 19 = .ok (.if_icmp .ne 20, 3) := by decide +kernel
theorem dX1_ofSpan_22 : decode cX1_ofSpan 22 = .ok (.aload_n 0, 1) := by decide +kernel
theorem dX1_ofSpan_23 : decode cX1_ofSpan 23 = .ok (.getfield 25, 3) := by decide +kernel
theorem dX1_ofSpan_26 : decode cX1_ofSpan 26 = .ok (.iload_n 1, 1) := by decide +kernel
theorem dX1_ofSpan_27 : decode cX1_ofSpan 27 = .ok (.invokevirtual 162, 3) := by decide +kernel
theorem dX1_ofSpan_30 : decode cX1_ofSpan 30 = .ok (.ifCond .eq 7, 3) := by decide +kernel
theorem dX1_ofSpan_33 : decode cX1_ofSpan 33 = .ok (.iconst 1, 1) := by decide +kernel
theorem dX1_ofSpan_34 : decode cX1_ofSpan 34 = .ok (.goto 4, 3) := by decide +kernel
theorem dX1_ofSpan_37 : decode cX1_ofSpan 37 = .ok (.iconst 0, 1) := by decide +kernel
theorem dX1_ofSpan_38 : decode cX1_ofSpan 38 = .ok (.ireturn, 1) := by decide +kernel
theorem dX1_ofSpan_39 : decode cX1_ofSpan 39 = .ok (.aload_n 0, 1) := by decide +kernel
theorem dX1_ofSpan_40 : decode cX1_ofSpan 40 = .ok (.getfield 25, 3) := by decide +kernel
theorem dX1_ofSpan_43 : decode cX1_ofSpan 43 = .ok (.iload_n 1, 1) := by decide +kernel
theorem dX1_ofSpan_44 : decode cX1_ofSpan 44 = .ok (.iload_n 2, 1) := by decide +kernel
theorem dX1_ofSpan_45 : decode cX1_ofSpan 45 = .ok (.invokestatic 166, 3) := by decide +kernel
theorem dX1_ofSpan_48 : decode cX1_ofSpan 48 = .ok (.ireturn, 1) := by decide +kernel
theorem dX1_meets_0 : decode cX1_meets 0 = .ok (.aload_n 0, 1) := by decide +kernel
theorem dX1_meets_1 : decode cX1_meets 1 = .ok (.getfield 25, 3) := by decide +kernel
theorem dX1_meets_4 : decode cX1_meets 4 = .ok (.iload_n 1, 1) := by decide +kernel
theorem dX1_meets_5 : decode cX1_meets 5 = .ok (.invokestatic 106, 3) := by decide +kernel
theorem dX1_meets_8 : decode cX1_meets 8 = .ok (.aload_n 0, 1) := by decide +kernel
theorem dX1_meets_9 : decode cX1_meets 9 = .ok (.getfield 25, 3) := by decide +kernel
theorem dX1_meets_12 : decode cX1_meets 12 = .ok (.iload_n 2, 1) := by decide +kernel
theorem dX1_meets_13 : decode cX1_meets 13 = .ok (.invokestatic 106, 3) := by decide +kernel
theorem dX1_meets_16 : decode cX1_meets 16 = .ok (.aload_n 0, 1) := by decide +kernel
theorem dX1_meets_17 : decode cX1_meets 17 = .ok (.getfield 25, 3) := by decide +kernel
theorem dX1_meets_20 : decode cX1_meets 20 = .ok (.iload_n 1, 1) := by decide +kernel
theorem dX1_meets_21 : decode cX1_meets 21 = .ok (.iload_n 2, 1) := by decide +kernel
theorem dX1_meets_22 : decode cX1_meets 22 = .ok (.invokevirtual 170, 3) := by decide +kernel
theorem dX1_meets_25 : decode cX1_meets 25 = .ok (.ireturn, 1) := by decide +kernel
theorem dX1_clashes_0 : decode cX1_clashes 0 = .ok (.iconst 0, 1) := by decide +kernel
theorem dX1_clashes_1 : decode cX1_clashes 1 = .ok (.istore_n 1, 1) := by decide +kernel
theorem dX1_clashes_2 : decode cX1_clashes 2 = .ok (.iconst 0, 1) := by decide +kernel
theorem dX1_clashes_3 : decode cX1_clashes 3 = .ok (.istore_n 2, 1) := by decide +kernel
theorem dX1_clashes_4 : decode cX1_clashes 4 = .ok (.iload_n 2, 1) := by decide +kernel
theorem dX1_clashes_5 : decode cX1_clashes 5 = .ok (.aload_n 0, 1) := by decide +kernel
theorem dX1_clashes_6 : decode cX1_clashes 6 = .ok (.getfield 25, 3) := by decide +kernel
theorem dX1_clashes_9 : decode cX1_clashes 9 = .ok (.invokevirtual 96, 3) := by decide +kernel
theorem dX1_clashes_12 : decode cX1_clashes 12 = .ok (.if_icmp .ge 37, 3) := by decide +kernel
theorem dX1_clashes_15 : decode cX1_clashes 15 = .ok (.iconst 0, 1) := by decide +kernel
theorem dX1_clashes_16 : decode cX1_clashes 16 = .ok (.istore_n 3, 1) := by decide +kernel
theorem dX1_clashes_17 : decode cX1_clashes 17 = .ok (.iload_n 3, 1) := by decide +kernel
theorem dX1_clashes_18 : decode cX1_clashes 18 = .ok (.iload_n 2, 1) := by decide +kernel
theorem dX1_clashes_19 : decode cX1_clashes 19 = .ok (.if_icmp .ge 24, 3) := by decide +kernel
theorem dX1_clashes_22 : decode cX1_clashes 22 = .ok (.aload_n 0, 1) := by decide +kernel
theorem dX1_clashes_23 : decode cX1_clashes 23 = .ok (.getfield 25, 3) := by decide +kernel
theorem dX1_clashes_26 : decode cX1_clashes 26 = .ok (.iload_n 2, 1) := by decide +kernel
theorem dX1_clashes_27 : decode cX1_clashes 27 = .ok (.iload_n 3, 1) := by decide +kernel
theorem dX1_clashes_28 : decode cX1_clashes 28 = .ok (.invokevirtual 170, 3) := by decide +kernel
theorem dX1_clashes_31 : decode cX1_clashes 31 = .ok (.ifCond .eq 6, 3) := by decide +kernel
theorem dX1_clashes_34 : decode cX1_clashes 34 = .ok (.iinc 1 1, 3) := by decide +kernel
theorem dX1_clashes_37 : decode cX1_clashes 37 = .ok (.iinc 3 1, 3) := by decide +kernel
theorem dX1_clashes_40 : decode cX1_clashes 40 = .ok (.goto (-23), 3) := by decide +kernel
theorem dX1_clashes_43 : decode cX1_clashes 43 = .ok (.iinc 2 1, 3) := by decide +kernel
theorem dX1_clashes_46 : decode cX1_clashes 46 = .ok (.goto (-42), 3) := by decide +kernel
theorem dX1_clashes_49 : decode cX1_clashes 49 = .ok (.iload_n 1, 1) := by decide +kernel
theorem dX1_clashes_50 : decode cX1_clashes 50 = .ok (.ireturn, 1) := by decide +kernel
theorem dX1_at_0 : decode cX1_at 0 = .ok (.iload_n 1, 1) := by decide +kernel
theorem dX1_at_1 : decode cX1_at 1 = .ok (.invokestatic 39, 3) := by decide +kernel
theorem dX1_at_4 : decode cX1_at 4 = .ok (.aload_n 0, 1) := by decide +kernel
theorem dX1_at_5 : decode cX1_at 5 = .ok (.getfield 25, 3) := by decide +kernel
theorem dX1_at_8 : decode cX1_at 8 = .ok (.aload_n 0, 1) := by decide +kernel
theorem dX1_at_9 : decode cX1_at 9 = .ok (.getfield 9, 3) := by decide +kernel
theorem dX1_at_12 : decode cX1_at 12 = .ok (.iload_n 1, 1) := by decide +kernel
theorem dX1_at_13 : decode cX1_at 13 = .ok (.laload, 1) := by decide +kernel
theorem dX1_at_14 : decode cX1_at 14 = .ok (.invokevirtual 174, 3) := by decide +kernel
theorem dX1_at_17 : decode cX1_at 17 = .ok (.ireturn, 1) := by decide +kernel
theorem dX1_deepest_0 : decode cX1_deepest 0 = .ok (.aload_n 0, 1) := by decide +kernel
theorem dX1_deepest_1 : decode cX1_deepest 1 = .ok (.getfield 25, 3) := by decide +kernel
theorem dX1_deepest_4 : decode cX1_deepest 4 = .ok (.invokevirtual 177, 3) := by decide +kernel
theorem dX1_deepest_7 : decode cX1_deepest 7 = .ok (.ireturn, 1) := by decide +kernel
theorem dX1_isFree_0 : decode cX1_isFree 0 = .ok (.iload_n 1, 1) := by decide +kernel
theorem dX1_isFree_1 : decode cX1_isFree 1 = .ok (.invokestatic 39, 3) := by decide +kernel
theorem dX1_isFree_4 : decode cX1_isFree 4 = .ok (.iload_n 2, 1) := by decide +kernel
theorem dX1_isFree_5 : decode cX1_isFree 5 = .ok (.invokestatic 39, 3) := by decide +kernel
theorem dX1_isFree_8 : decode cX1_isFree 8 = .ok (.aload_n 0, 1) := by decide +kernel
theorem dX1_isFree_9 : decode cX1_isFree 9 = .ok (.getfield 9, 3) := by decide +kernel
theorem dX1_isFree_12 : decode cX1_isFree 12 = .ok (.iload_n 1, 1) := by decide +kernel
theorem dX1_isFree_13 : decode cX1_isFree 13 = .ok (.laload, 1) := by decide +kernel
theorem dX1_isFree_14 : decode cX1_isFree 14 = .ok (.lstore_n 3, 1) := by decide +kernel
theorem dX1_isFree_15 : decode cX1_isFree 15 = .ok (.aload_n 0, 1) := by decide +kernel
theorem dX1_isFree_16 : decode cX1_isFree 16 = .ok (.getfield 9, 3) := by decide +kernel
theorem dX1_isFree_19 : decode cX1_isFree 19 = .ok (.iload_n 2, 1) := by decide +kernel
theorem dX1_isFree_20 : decode cX1_isFree 20 = .ok (.laload, 1) := by decide +kernel
theorem dX1_isFree_21 : decode cX1_isFree 21 = .ok (.lstore 5, 2) := by decide +kernel
theorem dX1_isFree_23 : decode cX1_isFree 23 = .ok (.lload_n 3, 1) := by decide +kernel
theorem dX1_isFree_24 : decode cX1_isFree 24 = .ok (.lload 5, 2) := by decide +kernel
theorem dX1_isFree_26 : decode cX1_isFree 26 = .ok (.lcmp, 1) := by decide +kernel
theorem dX1_isFree_27 : decode cX1_isFree 27 = .ok (.ifCond .ge 32, 3) := by decide +kernel
theorem dX1_isFree_30 : decode cX1_isFree 30 = .ok (.aload_n 0, 1) := by decide +kernel
theorem dX1_isFree_31 : decode cX1_isFree 31 = .ok (.lload_n 3, 1) := by decide +kernel
theorem dX1_isFree_32 : decode cX1_isFree 32 = .ok (.lload 5, 2) := by decide +kernel
theorem dX1_isFree_34 : decode cX1_isFree 34 = .ok (.invokevirtual 180, 3) := by decide +kernel
theorem dX1_isFree_37 : decode cX1_isFree 37 = .ok (.ifCond .eq 22, 3) := by decide +kernel
theorem dX1_isFree_40 : decode cX1_isFree 40 = .ok (.aload_n 0, 1) := by decide +kernel
theorem dX1_isFree_41 : decode cX1_isFree 41 = .ok (.getfield 25, 3) := by decide +kernel
theorem dX1_isFree_44 : decode cX1_isFree 44 = .ok (.lload_n 3, 1) := by decide +kernel
theorem dX1_isFree_45 : decode cX1_isFree 45 = .ok (.lload 5, 2) := by decide +kernel
theorem dX1_isFree_47 : decode cX1_isFree 47 = .ok (.iconst (-1), 1) := by decide +kernel
theorem dX1_isFree_48 : decode cX1_isFree 48 = .ok (.invokevirtual 184, 3) := by decide +kernel
theorem dX1_isFree_51 : decode cX1_isFree 51 = .ok (.iconst (-1), 1) := by decide +kernel
theorem dX1_isFree_52 : decode cX1_isFree 52 = .ok (.if_icmp .ne 7, 3) := by decide +kernel
theorem dX1_isFree_55 : decode cX1_isFree 55 = .ok (.iconst 1, 1) := by decide +kernel
theorem dX1_isFree_56 : decode cX1_isFree 56 = .ok (.goto 4, 3) := by decide +kernel
theorem dX1_isFree_59 : decode cX1_isFree 59 = .ok (.iconst 0, 1) := by decide +kernel
theorem dX1_isFree_60 : decode cX1_isFree 60 = .ok (.ireturn, 1) := by decide +kernel
theorem dX1_frees_0 : decode cX1_frees 0 = .ok (.aload_n 0, 1) := by decide +kernel
theorem dX1_frees_1 : decode cX1_frees 1 = .ok (.invokevirtual 188, 3) := by decide +kernel
theorem dX1_frees_4 : decode cX1_frees 4 = .ok (.aload_n 0, 1) := by decide +kernel
theorem dX1_frees_5 : decode cX1_frees 5 = .ok (.getfield 32, 3) := by decide +kernel
theorem dX1_frees_8 : decode cX1_frees 8 = .ok (.invokevirtual 96, 3) := by decide +kernel
theorem dX1_frees_11 : decode cX1_frees 11 = .ok (.ireturn, 1) := by decide +kernel
theorem dX1_ofFree_0 : decode cX1_ofFree 0 = .ok (.aload_n 0, 1) := by decide +kernel
theorem dX1_ofFree_1 : decode cX1_ofFree 1 = .ok (.invokevirtual 188, 3) := by decide +kernel
theorem dX1_ofFree_4 : decode cX1_ofFree 4 = .ok (.aload_n 0, 1) := by decide +kernel
theorem dX1_ofFree_5 : decode cX1_ofFree 5 = .ok (.getfield 32, 3) := by decide +kernel
theorem dX1_ofFree_8 : decode cX1_ofFree 8 = .ok (.iload_n 1, 1) := by decide +kernel
theorem dX1_ofFree_9 : decode cX1_ofFree 9 = .ok (.invokestatic 106, 3) := by decide +kernel
theorem dX1_ofFree_12 : decode cX1_ofFree 12 = .ok (.iload_n 2, 1) := by decide +kernel
theorem dX1_ofFree_13 : decode cX1_ofFree 13 = .ok (.iconst 0, 1) := by decide +kernel
theorem dX1_ofFree_14 : decode cX1_ofFree 14 = .ok (.iconst 3, 1) := by decide +kernel
theorem dX1_ofFree_15 : decode cX1_ofFree 15 = .ok (.invokestatic 45, 3) := by decide +kernel
theorem dX1_ofFree_18 : decode cX1_ofFree 18 = .ok (.invokestatic 51, 3) := by decide +kernel
theorem dX1_ofFree_21 : decode cX1_ofFree 21 = .ok (.aload_n 0, 1) := by decide +kernel
theorem dX1_ofFree_22 : decode cX1_ofFree 22 = .ok (.getfield 32, 3) := by decide +kernel
theorem dX1_ofFree_25 : decode cX1_ofFree 25 = .ok (.iload_n 1, 1) := by decide +kernel
theorem dX1_ofFree_26 : decode cX1_ofFree 26 = .ok (.iload_n 2, 1) := by decide +kernel
theorem dX1_ofFree_27 : decode cX1_ofFree 27 = .ok (.invokestatic 166, 3) := by decide +kernel
theorem dX1_ofFree_30 : decode cX1_ofFree 30 = .ok (.ireturn, 1) := by decide +kernel
theorem dX1_freeAt_0 : decode cX1_freeAt 0 = .ok (.iload_n 1, 1) := by decide +kernel
theorem dX1_freeAt_1 : decode cX1_freeAt 1 = .ok (.invokestatic 39, 3) := by decide +kernel
theorem dX1_freeAt_4 : decode cX1_freeAt 4 = .ok (.aload_n 0, 1) := by decide +kernel
theorem dX1_freeAt_5 : decode cX1_freeAt 5 = .ok (.invokevirtual 188, 3) := by decide +kernel
theorem dX1_freeAt_8 : decode cX1_freeAt 8 = .ok (.aload_n 0, 1) := by decide +kernel
theorem dX1_freeAt_9 : decode cX1_freeAt 9 = .ok (.getfield 32, 3) := by decide +kernel
theorem dX1_freeAt_12 : decode cX1_freeAt 12 = .ok (.aload_n 0, 1) := by decide +kernel
theorem dX1_freeAt_13 : decode cX1_freeAt 13 = .ok (.getfield 9, 3) := by decide +kernel
theorem dX1_freeAt_16 : decode cX1_freeAt 16 = .ok (.iload_n 1, 1) := by decide +kernel
theorem dX1_freeAt_17 : decode cX1_freeAt 17 = .ok (.laload, 1) := by decide +kernel
theorem dX1_freeAt_18 : decode cX1_freeAt 18 = .ok (.invokevirtual 174, 3) := by decide +kernel
theorem dX1_freeAt_21 : decode cX1_freeAt 21 = .ok (.ireturn, 1) := by decide +kernel
theorem dX1_length_0 : decode cX1_length 0 = .ok (.iload_n 1, 1) := by decide +kernel
theorem dX1_length_1 : decode cX1_length 1 = .ok (.iconst 0, 1) := by decide +kernel
theorem dX1_length_2 : decode cX1_length 2 = .ok (.iconst 5, 1) := by decide +kernel
theorem dX1_length_3 : decode cX1_length 3 = .ok (.invokestatic 45, 3) := by decide +kernel
theorem dX1_length_6 : decode cX1_length 6 = .ok (.invokestatic 51, 3) := by decide +kernel
theorem dX1_length_9 : decode cX1_length 9 = .ok (.iload_n 1, 1) := by decide +kernel
theorem dX1_length_10 : decode cX1_length 10 = .ok (.iconst 2, 1) := by decide +kernel
theorem dX1_length_11 : decode cX1_length 11 = .ok (.if_icmp .ge 12, 3) := by decide +kernel
theorem dX1_length_14 : decode cX1_length 14 = .ok (.aload_n 0, 1) := by decide +kernel
theorem dX1_length_15 : decode cX1_length 15 = .ok (.invokevirtual 191, 3) := by decide +kernel
theorem dX1_length_18 : decode cX1_length 18 = .ok (.iload_n 1, 1) := by decide +kernel
theorem dX1_length_19 : decode cX1_length 19 = .ok (.invokestatic 159, 3) := by decide +kernel
theorem dX1_length_22 : decode cX1_length 22 = .ok (.ireturn, 1) := by decide +kernel
theorem dX1_length_23 : decode cX1_length 23 = .ok (.aload_n 0, 1) := by decide +kernel
theorem dX1_length_24 : decode cX1_length 24 = .ok (.invokevirtual 188, 3) := by decide +kernel
theorem dX1_length_27 : decode cX1_length 27 = .ok (.iload_n 1, 1) := by decide +kernel
theorem dX1_length_28 : decode cX1_length 28 = .ok (.iconst 4, 1) := by decide +kernel
theorem dX1_length_29 : decode cX1_length 29 = .ok (.if_icmp .ge 10, 3) := by decide +kernel
theorem dX1_length_32 : decode cX1_length 32 = .ok (.aload_n 0, 1) := by decide +kernel
theorem dX1_length_33 : decode cX1_length 33 = .ok (.invokevirtual 195, 3) := by decide +kernel
theorem dX1_length_36 : decode cX1_length 36 = .ok (.goto 12, 3) := by decide +kernel
theorem dX1_length_39 : decode cX1_length 39 = .ok (.aload_n 0, 1) := by decide +kernel
theorem dX1_length_40 : decode cX1_length 40 = .ok (.getfield 19, 3) := by decide +kernel
theorem dX1_length_43 : decode cX1_length 43 = .ok (.aload_n 0, 1) := by decide +kernel
theorem dX1_length_44 : decode cX1_length 44 = .ok (.getfield 13, 3) := by decide +kernel
theorem dX1_length_47 : decode cX1_length 47 = .ok (.lsub, 1) := by decide +kernel
theorem dX1_length_48 : decode cX1_length 48 = .ok (.iload_n 1, 1) := by decide +kernel
theorem dX1_length_49 : decode cX1_length 49 = .ok (.invokestatic 159, 3) := by decide +kernel
theorem dX1_length_52 : decode cX1_length 52 = .ok (.ireturn, 1) := by decide +kernel
theorem dX1_wishes_0 : decode cX1_wishes 0 = .ok (.aload_n 0, 1) := by decide +kernel
theorem dX1_wishes_1 : decode cX1_wishes 1 = .ok (.getfield 29, 3) := by decide +kernel
theorem dX1_wishes_4 : decode cX1_wishes 4 = .ok (.invokevirtual 96, 3) := by decide +kernel
theorem dX1_wishes_7 : decode cX1_wishes 7 = .ok (.ireturn, 1) := by decide +kernel
theorem dX1_ofWish_0 : decode cX1_ofWish 0 = .ok (.aload_n 0, 1) := by decide +kernel
theorem dX1_ofWish_1 : decode cX1_ofWish 1 = .ok (.getfield 29, 3) := by decide +kernel
theorem dX1_ofWish_4 : decode cX1_ofWish 4 = .ok (.iload_n 1, 1) := by decide +kernel
theorem dX1_ofWish_5 : decode cX1_ofWish 5 = .ok (.invokestatic 106, 3) := by decide +kernel
theorem dX1_ofWish_8 : decode cX1_ofWish 8 = .ok (.iload_n 2, 1) := by decide +kernel
theorem dX1_ofWish_9 : decode cX1_ofWish 9 = .ok (.iconst 0, 1) := by decide +kernel
theorem dX1_ofWish_10 : decode cX1_ofWish 10 = .ok (.iconst 3, 1) := by decide +kernel
theorem dX1_ofWish_11 : decode cX1_ofWish 11 = .ok (.invokestatic 45, 3) := by decide +kernel
theorem dX1_ofWish_14 : decode cX1_ofWish 14 = .ok (.invokestatic 51, 3) := by decide +kernel
theorem dX1_ofWish_17 : decode cX1_ofWish 17 = .ok (.aload_n 0, 1) := by decide +kernel
theorem dX1_ofWish_18 : decode cX1_ofWish 18 = .ok (.getfield 29, 3) := by decide +kernel
theorem dX1_ofWish_21 : decode cX1_ofWish 21 = .ok (.iload_n 1, 1) := by decide +kernel
theorem dX1_ofWish_22 : decode cX1_ofWish 22 = .ok (.iload_n 2, 1) := by decide +kernel
theorem dX1_ofWish_23 : decode cX1_ofWish 23 = .ok (.invokestatic 166, 3) := by decide +kernel
theorem dX1_ofWish_26 : decode cX1_ofWish 26 = .ok (.ireturn, 1) := by decide +kernel
theorem dX1_isApart_0 : decode cX1_isApart 0 = .ok (.iload_n 1, 1) := by decide +kernel
theorem dX1_isApart_1 : decode cX1_isApart 1 = .ok (.iconst 0, 1) := by decide +kernel
theorem dX1_isApart_2 : decode cX1_isApart 2 = .ok (.aload_n 0, 1) := by decide +kernel
theorem dX1_isApart_3 : decode cX1_isApart 3 = .ok (.invokevirtual 198, 3) := by decide +kernel
theorem dX1_isApart_6 : decode cX1_isApart 6 = .ok (.invokestatic 45, 3) := by decide +kernel
theorem dX1_isApart_9 : decode cX1_isApart 9 = .ok (.invokestatic 51, 3) := by decide +kernel
theorem dX1_isApart_12 : decode cX1_isApart 12 = .ok (.aload_n 0, 1) := by decide +kernel
theorem dX1_isApart_13 : decode cX1_isApart 13 = .ok (.iload_n 1, 1) := by decide +kernel
theorem dX1_isApart_14 : decode cX1_isApart 14 = .ok (.invokevirtual 201, 3) := by decide +kernel
theorem dX1_isApart_17 : decode cX1_isApart 17 = .ok (.ireturn, 1) := by decide +kernel
theorem dX1_chosen_0 : decode cX1_chosen 0 = .ok (.iconst 0, 1) := by decide +kernel
theorem dX1_chosen_1 : decode cX1_chosen 1 = .ok (.istore_n 1, 1) := by decide +kernel
theorem dX1_chosen_2 : decode cX1_chosen 2 = .ok (.iconst 0, 1) := by decide +kernel
theorem dX1_chosen_3 : decode cX1_chosen 3 = .ok (.istore_n 2, 1) := by decide +kernel
theorem dX1_chosen_4 : decode cX1_chosen 4 = .ok (.iload_n 2, 1) := by decide +kernel
theorem dX1_chosen_5 : decode cX1_chosen 5 = .ok (.aload_n 0, 1) := by decide +kernel
theorem dX1_chosen_6 : decode cX1_chosen 6 = .ok (.getfield 29, 3) := by decide +kernel
theorem dX1_chosen_9 : decode cX1_chosen 9 = .ok (.invokevirtual 96, 3) := by decide +kernel
theorem dX1_chosen_12 : decode cX1_chosen 12 = .ok (.if_icmp .ge 26, 3) := by decide +kernel
theorem dX1_chosen_15 : decode cX1_chosen 15 = .ok (.aload_n 0, 1) := by decide +kernel
theorem dX1_chosen_16 : decode cX1_chosen 16 = .ok (.iload_n 1, 1) := by decide +kernel
theorem dX1_chosen_17 : decode cX1_chosen 17 = .ok (.invokevirtual 204, 3) := by decide +kernel
theorem dX1_chosen_20 : decode cX1_chosen 20 = .ok (.istore_n 3, 1) := by decide +kernel
theorem dX1_chosen_21 : decode cX1_chosen 21 = .ok (.iload_n 3, 1) := by decide +kernel
theorem dX1_chosen_22 : decode cX1_chosen 22 = .ok (.iconst (-1), 1) := by decide +kernel
theorem dX1_chosen_23 : decode cX1_chosen 23 = .ok (.if_icmp .eq 9, 3) := by decide +kernel
theorem dX1_chosen_26 : decode cX1_chosen 26 = .ok (.iload_n 1, 1) := by decide +kernel
theorem dX1_chosen_27 : decode cX1_chosen 27 = .ok (.iconst 1, 1) := by decide +kernel
theorem dX1_chosen_28 : decode cX1_chosen 28 = .ok (.iload_n 3, 1) := by decide +kernel
theorem dX1_chosen_29 : decode cX1_chosen 29 = .ok (.ishl, 1) := by decide +kernel
theorem dX1_chosen_30 : decode cX1_chosen 30 = .ok (.ior, 1) := by decide +kernel
theorem dX1_chosen_31 : decode cX1_chosen 31 = .ok (.istore_n 1, 1) := by decide +kernel
theorem dX1_chosen_32 : decode cX1_chosen 32 = .ok (.iinc 2 1, 3) := by decide +kernel
theorem dX1_chosen_35 : decode cX1_chosen 35 = .ok (.goto (-31), 3) := by decide +kernel
theorem dX1_chosen_38 : decode cX1_chosen 38 = .ok (.iload_n 1, 1) := by decide +kernel
theorem dX1_chosen_39 : decode cX1_chosen 39 = .ok (.ireturn, 1) := by decide +kernel
theorem dX1_most_0 : decode cX1_most 0 = .ok (.iload_n 1, 1) := by decide +kernel
theorem dX1_most_1 : decode cX1_most 1 = .ok (.iconst 0, 1) := by decide +kernel
theorem dX1_most_2 : decode cX1_most 2 = .ok (.iconst 1, 1) := by decide +kernel
theorem dX1_most_3 : decode cX1_most 3 = .ok (.invokestatic 45, 3) := by decide +kernel
theorem dX1_most_6 : decode cX1_most 6 = .ok (.invokestatic 51, 3) := by decide +kernel
theorem dX1_most_9 : decode cX1_most 9 = .ok (.iload_n 1, 1) := by decide +kernel
theorem dX1_most_10 : decode cX1_most 10 = .ok (.ifCond .ne 13, 3) := by decide +kernel
theorem dX1_most_13 : decode cX1_most 13 = .ok (.aload_n 0, 1) := by decide +kernel
theorem dX1_most_14 : decode cX1_most 14 = .ok (.invokevirtual 207, 3) := by decide +kernel
theorem dX1_most_17 : decode cX1_most 17 = .ok (.invokestatic 210, 3) := by decide +kernel
theorem dX1_most_20 : decode cX1_most 20 = .ok (.goto 7, 3) := by decide +kernel
theorem dX1_most_23 : decode cX1_most 23 = .ok (.aload_n 0, 1) := by decide +kernel
theorem dX1_most_24 : decode cX1_most 24 = .ok (.invokevirtual 215, 3) := by decide +kernel
theorem dX1_most_27 : decode cX1_most 27 = .ok (.ireturn, 1) := by decide +kernel
theorem dX1_crowd_0 : decode cX1_crowd 0 = .ok (.aload_n 0, 1) := by decide +kernel
theorem dX1_crowd_1 : decode cX1_crowd 1 = .ok (.getfield 29, 3) := by decide +kernel
theorem dX1_crowd_4 : decode cX1_crowd 4 = .ok (.invokevirtual 177, 3) := by decide +kernel
theorem dX1_crowd_7 : decode cX1_crowd 7 = .ok (.ireturn, 1) := by decide +kernel
theorem dX1_room_0 : decode cX1_room 0 = .ok (.aload_n 0, 1) := by decide +kernel
theorem dX1_room_1 : decode cX1_room 1 = .ok (.getfield 29, 3) := by decide +kernel
theorem dX1_room_4 : decode cX1_room 4 = .ok (.iload_n 1, 1) := by decide +kernel
theorem dX1_room_5 : decode cX1_room 5 = .ok (.invokestatic 106, 3) := by decide +kernel
theorem dX1_room_8 : decode cX1_room 8 = .ok (.aload_n 0, 1) := by decide +kernel
theorem dX1_room_9 : decode cX1_room 9 = .ok (.invokevirtual 218, 3) := by decide +kernel
theorem dX1_room_12 : decode cX1_room 12 = .ok (.aload_n 0, 1) := by decide +kernel
theorem dX1_room_13 : decode cX1_room 13 = .ok (.getfield 35, 3) := by decide +kernel
theorem dX1_room_16 : decode cX1_room 16 = .ok (.iload_n 1, 1) := by decide +kernel
theorem dX1_room_17 : decode cX1_room 17 = .ok (.iaload, 1) := by decide +kernel
theorem dX1_room_18 : decode cX1_room 18 = .ok (.ireturn, 1) := by decide +kernel
theorem dX1_rooms_0 : decode cX1_rooms 0 = .ok (.aload_n 0, 1) := by decide +kernel
theorem dX1_rooms_1 : decode cX1_rooms 1 = .ok (.invokevirtual 218, 3) := by decide +kernel
theorem dX1_rooms_4 : decode cX1_rooms 4 = .ok (.aload_n 0, 1) := by decide +kernel
theorem dX1_rooms_5 : decode cX1_rooms 5 = .ok (.invokevirtual 221, 3) := by decide +kernel
theorem dX1_rooms_8 : decode cX1_rooms 8 = .ok (.ireturn, 1) := by decide +kernel
theorem dX1_house_0 : decode cX1_house 0 = .ok (.iload_n 1, 1) := by decide +kernel
theorem dX1_house_1 : decode cX1_house 1 = .ok (.iconst 0, 1) := by decide +kernel
theorem dX1_house_2 : decode cX1_house 2 = .ok (.iconst 2, 1) := by decide +kernel
theorem dX1_house_3 : decode cX1_house 3 = .ok (.invokestatic 45, 3) := by decide +kernel
theorem dX1_house_6 : decode cX1_house 6 = .ok (.invokestatic 51, 3) := by decide +kernel
theorem dX1_house_9 : decode cX1_house 9 = .ok (.iload_n 1, 1) := by decide +kernel
theorem dX1_house_10 : decode cX1_house 10 = .ok (.ifCond .ne 8, 3) := by decide +kernel
theorem dX1_house_13 : decode cX1_house 13 = .ok (.aload_n 0, 1) := by decide +kernel
theorem dX1_house_14 : decode cX1_house 14 = .ok (.getfield 224, 3) := by decide +kernel
theorem dX1_house_17 : decode cX1_house 17 = .ok (.ireturn, 1) := by decide +kernel
theorem dX1_house_18 : decode cX1_house 18 = .ok (.iload_n 1, 1) := by decide +kernel
theorem dX1_house_19 : decode cX1_house 19 = .ok (.iconst 1, 1) := by decide +kernel
theorem dX1_house_20 : decode cX1_house 20 = .ok (.if_icmp .ne 10, 3) := by decide +kernel
theorem dX1_house_23 : decode cX1_house 23 = .ok (.aload_n 0, 1) := by decide +kernel
theorem dX1_house_24 : decode cX1_house 24 = .ok (.getfield 228, 3) := by decide +kernel
theorem dX1_house_27 : decode cX1_house 27 = .ok (.goto 7, 3) := by decide +kernel
theorem dX1_house_30 : decode cX1_house 30 = .ok (.aload_n 0, 1) := by decide +kernel
theorem dX1_house_31 : decode cX1_house 31 = .ok (.getfield 231, 3) := by decide +kernel
theorem dX1_house_34 : decode cX1_house 34 = .ok (.ireturn, 1) := by decide +kernel
theorem dX1_knock_0 : decode cX1_knock 0 = .ok (.aload_n 0, 1) := by decide +kernel
theorem dX1_knock_1 : decode cX1_knock 1 = .ok (.dup, 1) := by decide +kernel
theorem dX1_knock_2 : decode cX1_knock 2 = .ok (.getfield 231, 3) := by decide +kernel
theorem dX1_knock_5 : decode cX1_knock 5 = .ok (.iconst 1, 1) := by decide +kernel
theorem dX1_knock_6 : decode cX1_knock 6 = .ok (.iadd, 1) := by decide +kernel
theorem dX1_knock_7 : decode cX1_knock 7 = .ok (.putfield 231, 3) := by decide +kernel
theorem dX1_knock_10 : decode cX1_knock 10 = .ok (.aload_n 0, 1) := by decide +kernel
theorem dX1_knock_11 : decode cX1_knock 11 = .ok (.getfield 231, 3) := by decide +kernel
theorem dX1_knock_14 : decode cX1_knock 14 = .ok (.ireturn, 1) := by decide +kernel
theorem dX1_isSoundInSpans_0 : decode cX1_isSoundInSpans 0 = .ok (.iconst 0, 1) := by decide +kernel
theorem dX1_isSoundInSpans_1 : decode cX1_isSoundInSpans 1 = .ok (.istore_n 1, 1) := by decide +kernel
theorem dX1_isSoundInSpans_2 : decode cX1_isSoundInSpans 2 = .ok (.iload_n 1, 1) := by decide +kernel
theorem dX1_isSoundInSpans_3 : decode cX1_isSoundInSpans 3 = .ok (.aload_n 0, 1) := by decide +kernel
theorem dX1_isSoundInSpans_4 : decode cX1_isSoundInSpans 4 = .ok (.getfield 25, 3) := by decide +kernel
theorem dX1_isSoundInSpans_7 : decode cX1_isSoundInSpans 7 = .ok (.invokevirtual 96, 3) := by decide +kernel
theorem dX1_isSoundInSpans_10 : decode cX1_isSoundInSpans 10 = .ok (.if_icmp .ge 83, 3) := by decide +kernel
theorem dX1_isSoundInSpans_13 : decode cX1_isSoundInSpans 13 = .ok (.aload_n 0, 1) := by decide +kernel
theorem dX1_isSoundInSpans_14 : decode cX1_isSoundInSpans 14 = .ok (.aload_n 0, 1) := by decide +kernel
theorem dX1_isSoundInSpans_15 : decode cX1_isSoundInSpans 15 = .ok (.getfield 25, 3) := by decide +kernel
theorem dX1_isSoundInSpans_18 : decode cX1_isSoundInSpans 18 = .ok (.iload_n 1, 1) := by decide +kernel
theorem dX1_isSoundInSpans_19 : decode cX1_isSoundInSpans 19 = .ok (.invokevirtual 113, 3) := by decide +kernel
theorem dX1_isSoundInSpans_22 : decode cX1_isSoundInSpans 22 = .ok (.aload_n 0, 1) := by decide +kernel
theorem dX1_isSoundInSpans_23 : decode cX1_isSoundInSpans 23 = .ok (.getfield 25, 3) := by decide +kernel
theorem dX1_isSoundInSpans_26 : decode cX1_isSoundInSpans 26 = .ok (.iload_n 1, 1) := by decide +kernel
theorem dX1_isSoundInSpans_27 : decode cX1_isSoundInSpans 27 = .ok (.invokevirtual 117, 3) := by decide +kernel
theorem dX1_isSoundInSpans_30 : decode cX1_isSoundInSpans 30 = .ok (.invokevirtual 180, 3) := by decide +kernel
theorem dX1_isSoundInSpans_33 : decode cX1_isSoundInSpans 33 = .ok (.ifCond .ne 5, 3) := by decide +kernel
theorem dX1_isSoundInSpans_36 : decode cX1_isSoundInSpans 36 = .ok (.iconst 0, 1) := by decide +kernel
theorem dX1_isSoundInSpans_37 : decode cX1_isSoundInSpans 37 = .ok (.ireturn, 1) := by decide +kernel
theorem dX1_isSoundInSpans_38 : decode cX1_isSoundInSpans 38 = .ok (.iconst 0, 1) := by decide +kernel
theorem dX1_isSoundInSpans_39 : decode cX1_isSoundInSpans 39 = .ok (.istore_n 2, 1) := by decide +kernel
theorem dX1_isSoundInSpans_40 : decode cX1_isSoundInSpans 40 = .ok (.iload_n 2, 1) := by decide +kernel
theorem dX1_isSoundInSpans_41 : decode cX1_isSoundInSpans 41 = .ok (.iload_n 1, 1) := by decide +kernel
theorem dX1_isSoundInSpans_42 : decode cX1_isSoundInSpans 42 = .ok (.if_icmp .ge 45, 3) := by decide +kernel
theorem dX1_isSoundInSpans_45 : decode cX1_isSoundInSpans 45 = .ok (.aload_n 0, 1) := by decide +kernel
theorem dX1_isSoundInSpans_46 : decode cX1_isSoundInSpans 46 = .ok (.getfield 25, 3) := by decide +kernel
theorem dX1_isSoundInSpans_49 : decode cX1_isSoundInSpans 49 = .ok (.iload_n 1, 1) := by decide +kernel
theorem dX1_isSoundInSpans_50 : decode cX1_isSoundInSpans 50 = .ok (.iload_n 2, 1) := by decide +kernel
theorem dX1_isSoundInSpans_51 : decode cX1_isSoundInSpans 51 = .ok (.invokevirtual 170, 3) := by decide +kernel
theorem dX1_isSoundInSpans_54 : decode cX1_isSoundInSpans 54 = .ok (.ifCond .eq 27, 3) := by decide +kernel
theorem dX1_isSoundInSpans_57 : decode cX1_isSoundInSpans 57 = .ok (.aload_n 0, 1) := by decide +kernel
theorem dX1_isSoundInSpans_58 : decode cX1_isSoundInSpans 58 = .ok (.getfield 25, 3) := by decide +kernel
theorem dX1_isSoundInSpans_61 : decode cX1_isSoundInSpans 61 = .ok (.iload_n 1, 1) := by decide +kernel
theorem dX1_isSoundInSpans_62 : decode cX1_isSoundInSpans 62 = .ok (.invokevirtual 162, 3) := by decide +kernel
theorem dX1_isSoundInSpans_65 : decode cX1_isSoundInSpans 65 = .ok (.ifCond .ne 16, 3) := by decide +kernel
theorem dX1_isSoundInSpans_68 : decode cX1_isSoundInSpans 68 = .ok (.aload_n 0, 1) := by decide +kernel
theorem dX1_isSoundInSpans_69 : decode cX1_isSoundInSpans 69 = .ok (.getfield 25, 3) := by decide +kernel
theorem dX1_isSoundInSpans_72 : decode cX1_isSoundInSpans 72 = .ok (.iload_n 2, 1) := by decide +kernel
theorem dX1_isSoundInSpans_73 : decode cX1_isSoundInSpans 73 = .ok (.invokevirtual 162, 3) := by decide +kernel
theorem dX1_isSoundInSpans_76 : decode cX1_isSoundInSpans 76 = .ok (.ifCond .ne 5, 3) := by decide +kernel
theorem dX1_isSoundInSpans_79 : decode cX1_isSoundInSpans 79 = .ok (.iconst 0, 1) := by decide +kernel
theorem dX1_isSoundInSpans_80 : decode cX1_isSoundInSpans 80 = .ok (.ireturn, 1) := by decide +kernel
theorem dX1_isSoundInSpans_81 : decode cX1_isSoundInSpans 81 = .ok (.iinc 2 1, 3) := by decide +kernel
theorem dX1_isSoundInSpans_84 : decode cX1_isSoundInSpans 84 = .ok (.goto (-44), 3) := by decide +kernel
theorem dX1_isSoundInSpans_87 : decode cX1_isSoundInSpans 87 = .ok (.iinc 1 1, 3) := by decide +kernel
theorem dX1_isSoundInSpans_90 : decode cX1_isSoundInSpans 90 = .ok (.goto (-88), 3) := by decide +kernel
theorem dX1_isSoundInSpans_93 : decode cX1_isSoundInSpans 93 = .ok (.iconst 1, 1) := by decide +kernel
theorem dX1_isSoundInSpans_94 : decode cX1_isSoundInSpans 94 = .ok (.ireturn, 1) := by decide +kernel
theorem dX1_isSoundInFrees_0 : decode cX1_isSoundInFrees 0 = .ok (.aload_n 0, 1) := by decide +kernel
theorem dX1_isSoundInFrees_1 : decode cX1_isSoundInFrees 1 = .ok (.invokevirtual 188, 3) := by decide +kernel
theorem dX1_isSoundInFrees_4 : decode cX1_isSoundInFrees 4 = .ok (.iconst 0, 1) := by decide +kernel
theorem dX1_isSoundInFrees_5 : decode cX1_isSoundInFrees 5 = .ok (.istore_n 1, 1) := by decide +kernel
theorem dX1_isSoundInFrees_6 : decode cX1_isSoundInFrees 6 = .ok (.iload_n 1, 1) := by decide +kernel
theorem dX1_isSoundInFrees_7 : decode cX1_isSoundInFrees 7 = .ok (.aload_n 0, 1) := by decide +kernel
theorem dX1_isSoundInFrees_8 : decode cX1_isSoundInFrees 8 = .ok (.getfield 32, 3) := by decide +kernel
theorem dX1_isSoundInFrees_11 : decode cX1_isSoundInFrees 11 = .ok (.invokevirtual 96, 3) := by decide +kernel
theorem dX1_isSoundInFrees_14 : decode cX1_isSoundInFrees 14 = .ok (.if_icmp .ge 39, 3) := by decide +kernel
theorem dX1_isSoundInFrees_17 : decode cX1_isSoundInFrees 17 = .ok (.aload_n 0, 1) := by decide +kernel
theorem dX1_isSoundInFrees_18 : decode cX1_isSoundInFrees 18 = .ok (.getfield 25, 3) := by decide +kernel
theorem dX1_isSoundInFrees_21 : decode cX1_isSoundInFrees 21 = .ok (.aload_n 0, 1) := by decide +kernel
theorem dX1_isSoundInFrees_22 : decode cX1_isSoundInFrees 22 = .ok (.getfield 32, 3) := by decide +kernel
theorem dX1_isSoundInFrees_25 : decode cX1_isSoundInFrees 25 = .ok (.iload_n 1, 1) := by decide +kernel
theorem dX1_isSoundInFrees_26 : decode cX1_isSoundInFrees 26 = .ok (.invokevirtual 113, 3) := by decide +kernel
theorem dX1_isSoundInFrees_29 : decode cX1_isSoundInFrees 29 = .ok (.aload_n 0, 1) := by decide +kernel
theorem dX1_isSoundInFrees_30 : decode cX1_isSoundInFrees 30 = .ok (.getfield 32, 3) := by decide +kernel
theorem dX1_isSoundInFrees_33 : decode cX1_isSoundInFrees 33 = .ok (.iload_n 1, 1) := by decide +kernel
theorem dX1_isSoundInFrees_34 : decode cX1_isSoundInFrees 34 = .ok (.invokevirtual 117, 3) := by decide +kernel
theorem dX1_isSoundInFrees_37 : decode cX1_isSoundInFrees 37 = .ok (.iconst (-1), 1) := by decide +kernel
theorem dX1_isSoundInFrees_38 : decode cX1_isSoundInFrees 38 = .ok (.invokevirtual 184, 3) := by decide +kernel
theorem dX1_isSoundInFrees_41 : decode cX1_isSoundInFrees 41 = .ok (.iconst (-1), 1) := by decide +kernel
theorem dX1_isSoundInFrees_42 : decode cX1_isSoundInFrees 42 = .ok (.if_icmp .eq 5, 3) := by decide +kernel
theorem dX1_isSoundInFrees_45 : decode cX1_isSoundInFrees 45 = .ok (.iconst 0, 1) := by decide +kernel
theorem dX1_isSoundInFrees_46 : decode cX1_isSoundInFrees 46 = .ok (.ireturn, 1) := by decide +kernel
theorem dX1_isSoundInFrees_47 : decode cX1_isSoundInFrees 47 = .ok (.iinc 1 1, 3) := by decide +kernel
theorem dX1_isSoundInFrees_50 : decode cX1_isSoundInFrees 50 = .ok (.goto (-44), 3) := by decide +kernel
theorem dX1_isSoundInFrees_53 : decode cX1_isSoundInFrees 53 = .ok (.aload_n 0, 1) := by decide +kernel
theorem dX1_isSoundInFrees_54 : decode cX1_isSoundInFrees 54 = .ok (.invokevirtual 191, 3) := by decide +kernel
theorem dX1_isSoundInFrees_57 : decode cX1_isSoundInFrees 57 = .ok (.aload_n 0, 1) := by decide +kernel
theorem dX1_isSoundInFrees_58 : decode cX1_isSoundInFrees 58 = .ok (.invokevirtual 195, 3) := by decide +kernel
theorem dX1_isSoundInFrees_61 : decode cX1_isSoundInFrees 61 = .ok (.ladd, 1) := by decide +kernel
theorem dX1_isSoundInFrees_62 : decode cX1_isSoundInFrees 62 = .ok (.aload_n 0, 1) := by decide +kernel
theorem dX1_isSoundInFrees_63 : decode cX1_isSoundInFrees 63 = .ok (.getfield 19, 3) := by decide +kernel
theorem dX1_isSoundInFrees_66 : decode cX1_isSoundInFrees 66 = .ok (.aload_n 0, 1) := by decide +kernel
theorem dX1_isSoundInFrees_67 : decode cX1_isSoundInFrees 67 = .ok (.getfield 13, 3) := by decide +kernel
theorem dX1_isSoundInFrees_70 : decode cX1_isSoundInFrees 70 = .ok (.lsub, 1) := by decide +kernel
theorem dX1_isSoundInFrees_71 : decode cX1_isSoundInFrees 71 = .ok (.lcmp, 1) := by decide +kernel
theorem dX1_isSoundInFrees_72 : decode cX1_isSoundInFrees 72 = .ok (.ifCond .ne 7, 3) := by decide +kernel
theorem dX1_isSoundInFrees_75 : decode cX1_isSoundInFrees 75 = .ok (.iconst 1, 1) := by decide +kernel
theorem dX1_isSoundInFrees_76 : decode cX1_isSoundInFrees 76 = .ok (.goto 4, 3) := by decide +kernel
theorem dX1_isSoundInFrees_79 : decode cX1_isSoundInFrees 79 = .ok (.iconst 0, 1) := by decide +kernel
theorem dX1_isSoundInFrees_80 : decode cX1_isSoundInFrees 80 = .ok (.ireturn, 1) := by decide +kernel
theorem dX1_isSoundInWishes_0 : decode cX1_isSoundInWishes 0 = .ok (.aload_n 0, 1) := by decide +kernel
theorem dX1_isSoundInWishes_1 : decode cX1_isSoundInWishes 1 = .ok (.invokevirtual 218, 3) := by decide +kernel
theorem dX1_isSoundInWishes_4 : decode cX1_isSoundInWishes 4 = .ok (.aload_n 0, 1) := by decide +kernel
theorem dX1_isSoundInWishes_5 : decode cX1_isSoundInWishes 5 = .ok (.invokevirtual 207, 3) := by decide +kernel
theorem dX1_isSoundInWishes_8 : decode cX1_isSoundInWishes 8 = .ok (.istore_n 1, 1) := by decide +kernel
theorem dX1_isSoundInWishes_9 : decode cX1_isSoundInWishes 9 = .ok (.aload_n 0, 1) := by decide +kernel
theorem dX1_isSoundInWishes_10 : decode cX1_isSoundInWishes 10 = .ok (.iload_n 1, 1) := by decide +kernel
theorem dX1_isSoundInWishes_11 : decode cX1_isSoundInWishes 11 = .ok (.invokevirtual 201, 3) := by decide +kernel
theorem dX1_isSoundInWishes_14 : decode cX1_isSoundInWishes 14 = .ok (.ifCond .eq 29, 3) := by decide +kernel
theorem dX1_isSoundInWishes_17 : decode cX1_isSoundInWishes 17 = .ok (.iload_n 1, 1) := by decide +kernel
theorem dX1_isSoundInWishes_18 : decode cX1_isSoundInWishes 18 = .ok (.invokestatic 210, 3) := by decide +kernel
theorem dX1_isSoundInWishes_21 : decode cX1_isSoundInWishes 21 = .ok (.aload_n 0, 1) := by decide +kernel
theorem dX1_isSoundInWishes_22 : decode cX1_isSoundInWishes 22 = .ok (.invokevirtual 215, 3) := by decide +kernel
theorem dX1_isSoundInWishes_25 : decode cX1_isSoundInWishes 25 = .ok (.if_icmp .ne 18, 3) := by decide +kernel
theorem dX1_isSoundInWishes_28 : decode cX1_isSoundInWishes 28 = .ok (.aload_n 0, 1) := by decide +kernel
theorem dX1_isSoundInWishes_29 : decode cX1_isSoundInWishes 29 = .ok (.invokevirtual 221, 3) := by decide +kernel
theorem dX1_isSoundInWishes_32 : decode cX1_isSoundInWishes 32 = .ok (.aload_n 0, 1) := by decide +kernel
theorem dX1_isSoundInWishes_33 : decode cX1_isSoundInWishes 33 = .ok (.invokevirtual 317, 3) := by decide +kernel
theorem dX1_isSoundInWishes_36 : decode cX1_isSoundInWishes 36 = .ok (.if_icmp .ne 7, 3) := by decide +kernel
theorem dX1_isSoundInWishes_39 : decode cX1_isSoundInWishes 39 = .ok (.iconst 1, 1) := by decide +kernel
theorem dX1_isSoundInWishes_40 : decode cX1_isSoundInWishes 40 = .ok (.goto 4, 3) := by decide +kernel
theorem dX1_isSoundInWishes_43 : decode cX1_isSoundInWishes 43 = .ok (.iconst 0, 1) := by decide +kernel
theorem dX1_isSoundInWishes_44 : decode cX1_isSoundInWishes 44 = .ok (.ireturn, 1) := by decide +kernel
theorem dX1_isSound_0 : decode cX1_isSound 0 = .ok (.aload_n 0, 1) := by decide +kernel
theorem dX1_isSound_1 : decode cX1_isSound 1 = .ok (.getfield 13, 3) := by decide +kernel
theorem dX1_isSound_4 : decode cX1_isSound 4 = .ok (.aload_n 0, 1) := by decide +kernel
theorem dX1_isSound_5 : decode cX1_isSound 5 = .ok (.getfield 19, 3) := by decide +kernel
theorem dX1_isSound_8 : decode cX1_isSound 8 = .ok (.lcmp, 1) := by decide +kernel
theorem dX1_isSound_9 : decode cX1_isSound 9 = .ok (.ifCond .ge 28, 3) := by decide +kernel
theorem dX1_isSound_12 : decode cX1_isSound 12 = .ok (.aload_n 0, 1) := by decide +kernel
theorem dX1_isSound_13 : decode cX1_isSound 13 = .ok (.invokevirtual 234, 3) := by decide +kernel
theorem dX1_isSound_16 : decode cX1_isSound 16 = .ok (.ifCond .eq 21, 3) := by decide +kernel
theorem dX1_isSound_19 : decode cX1_isSound 19 = .ok (.aload_n 0, 1) := by decide +kernel
theorem dX1_isSound_20 : decode cX1_isSound 20 = .ok (.invokevirtual 238, 3) := by decide +kernel
theorem dX1_isSound_23 : decode cX1_isSound 23 = .ok (.ifCond .eq 14, 3) := by decide +kernel
theorem dX1_isSound_26 : decode cX1_isSound 26 = .ok (.aload_n 0, 1) := by decide +kernel
theorem dX1_isSound_27 : decode cX1_isSound 27 = .ok (.invokevirtual 241, 3) := by decide +kernel
theorem dX1_isSound_30 : decode cX1_isSound 30 = .ok (.ifCond .eq 7, 3) := by decide +kernel
theorem dX1_isSound_33 : decode cX1_isSound 33 = .ok (.iconst 1, 1) := by decide +kernel
theorem dX1_isSound_34 : decode cX1_isSound 34 = .ok (.goto 4, 3) := by decide +kernel
theorem dX1_isSound_37 : decode cX1_isSound 37 = .ok (.iconst 0, 1) := by decide +kernel
theorem dX1_isSound_38 : decode cX1_isSound 38 = .ok (.ireturn, 1) := by decide +kernel
theorem dX1_mix_0 : decode cX1_mix 0 = .ok (.lload_n 0, 1) := by decide +kernel
theorem dX1_mix_1 : decode cX1_mix 1 = .ok (.ldc2_w 320, 3) := by decide +kernel
theorem dX1_mix_4 : decode cX1_mix 4 = .ok (.lmul, 1) := by decide +kernel
theorem dX1_mix_5 : decode cX1_mix 5 = .ok (.iload_n 2, 1) := by decide +kernel
theorem dX1_mix_6 : decode cX1_mix 6 = .ok (.i2l, 1) := by decide +kernel
theorem dX1_mix_7 : decode cX1_mix 7 = .ok (.ladd, 1) := by decide +kernel
theorem dX1_mix_8 : decode cX1_mix 8 = .ok (.lreturn, 1) := by decide +kernel
theorem dX1_mixParts_0 : decode cX1_mixParts 0 = .ok (.lload_n 0, 1) := by decide +kernel
theorem dX1_mixParts_1 : decode cX1_mixParts 1 = .ok (.lstore 4, 2) := by decide +kernel
theorem dX1_mixParts_3 : decode cX1_mixParts 3 = .ok (.iconst 0, 1) := by decide +kernel
theorem dX1_mixParts_4 : decode cX1_mixParts 4 = .ok (.istore 6, 2) := by decide +kernel
theorem dX1_mixParts_6 : decode cX1_mixParts 6 = .ok (.iload 6, 2) := by decide +kernel
theorem dX1_mixParts_8 : decode cX1_mixParts 8 = .ok (.iconst 4, 1) := by decide +kernel
theorem dX1_mixParts_9 : decode cX1_mixParts 9 = .ok (.if_icmp .ge 23, 3) := by decide +kernel
theorem dX1_mixParts_12 : decode cX1_mixParts 12 = .ok (.lload 4, 2) := by decide +kernel
theorem dX1_mixParts_14 : decode cX1_mixParts 14 = .ok (.aload_n 2, 1) := by decide +kernel
theorem dX1_mixParts_15 : decode cX1_mixParts 15 = .ok (.iload_n 3, 1) := by decide +kernel
theorem dX1_mixParts_16 : decode cX1_mixParts 16 = .ok (.iload 6, 2) := by decide +kernel
theorem dX1_mixParts_18 : decode cX1_mixParts 18 = .ok (.invokestatic 166, 3) := by decide +kernel
theorem dX1_mixParts_21 : decode cX1_mixParts 21 = .ok (.invokestatic 259, 3) := by decide +kernel
theorem dX1_mixParts_24 : decode cX1_mixParts 24 = .ok (.lstore 4, 2) := by decide +kernel
theorem dX1_mixParts_26 : decode cX1_mixParts 26 = .ok (.iinc 6 1, 3) := by decide +kernel
theorem dX1_mixParts_29 : decode cX1_mixParts 29 = .ok (.goto (-23), 3) := by decide +kernel
theorem dX1_mixParts_32 : decode cX1_mixParts 32 = .ok (.lload 4, 2) := by decide +kernel
theorem dX1_mixParts_34 : decode cX1_mixParts 34 = .ok (.lreturn, 1) := by decide +kernel
theorem dX1_mixCells_0 : decode cX1_mixCells 0 = .ok (.lload_n 1, 1) := by decide +kernel
theorem dX1_mixCells_1 : decode cX1_mixCells 1 = .ok (.lstore_n 3, 1) := by decide +kernel
theorem dX1_mixCells_2 : decode cX1_mixCells 2 = .ok (.iconst 0, 1) := by decide +kernel
theorem dX1_mixCells_3 : decode cX1_mixCells 3 = .ok (.istore 5, 2) := by decide +kernel
theorem dX1_mixCells_5 : decode cX1_mixCells 5 = .ok (.iload 5, 2) := by decide +kernel
theorem dX1_mixCells_7 : decode cX1_mixCells 7 = .ok (.iconst 4, 1) := by decide +kernel
theorem dX1_mixCells_8 : decode cX1_mixCells 8 = .ok (.if_icmp .ge 77, 3) := by decide +kernel
theorem dX1_mixCells_11 : decode cX1_mixCells 11 = .ok (.lload_n 3, 1) := by decide +kernel
theorem dX1_mixCells_12 : decode cX1_mixCells 12 = .ok (.aload_n 0, 1) := by decide +kernel
theorem dX1_mixCells_13 : decode cX1_mixCells 13 = .ok (.getfield 9, 3) := by decide +kernel
theorem dX1_mixCells_16 : decode cX1_mixCells 16 = .ok (.iload 5, 2) := by decide +kernel
theorem dX1_mixCells_18 : decode cX1_mixCells 18 = .ok (.laload, 1) := by decide +kernel
theorem dX1_mixCells_19 : decode cX1_mixCells 19 = .ok (.invokestatic 65, 3) := by decide +kernel
theorem dX1_mixCells_22 : decode cX1_mixCells 22 = .ok (.invokestatic 259, 3) := by decide +kernel
theorem dX1_mixCells_25 : decode cX1_mixCells 25 = .ok (.lstore_n 3, 1) := by decide +kernel
theorem dX1_mixCells_26 : decode cX1_mixCells 26 = .ok (.lload_n 3, 1) := by decide +kernel
theorem dX1_mixCells_27 : decode cX1_mixCells 27 = .ok (.aload_n 0, 1) := by decide +kernel
theorem dX1_mixCells_28 : decode cX1_mixCells 28 = .ok (.getfield 9, 3) := by decide +kernel
theorem dX1_mixCells_31 : decode cX1_mixCells 31 = .ok (.iload 5, 2) := by decide +kernel
theorem dX1_mixCells_33 : decode cX1_mixCells 33 = .ok (.laload, 1) := by decide +kernel
theorem dX1_mixCells_34 : decode cX1_mixCells 34 = .ok (.invokestatic 142, 3) := by decide +kernel
theorem dX1_mixCells_37 : decode cX1_mixCells 37 = .ok (.invokestatic 259, 3) := by decide +kernel
theorem dX1_mixCells_40 : decode cX1_mixCells 40 = .ok (.lstore_n 3, 1) := by decide +kernel
theorem dX1_mixCells_41 : decode cX1_mixCells 41 = .ok (.lload_n 3, 1) := by decide +kernel
theorem dX1_mixCells_42 : decode cX1_mixCells 42 = .ok (.aload_n 0, 1) := by decide +kernel
theorem dX1_mixCells_43 : decode cX1_mixCells 43 = .ok (.getfield 25, 3) := by decide +kernel
theorem dX1_mixCells_46 : decode cX1_mixCells 46 = .ok (.aload_n 0, 1) := by decide +kernel
theorem dX1_mixCells_47 : decode cX1_mixCells 47 = .ok (.getfield 9, 3) := by decide +kernel
theorem dX1_mixCells_50 : decode cX1_mixCells 50 = .ok (.iload 5, 2) := by decide +kernel
theorem dX1_mixCells_52 : decode cX1_mixCells 52 = .ok (.laload, 1) := by decide +kernel
theorem dX1_mixCells_53 : decode cX1_mixCells 53 = .ok (.invokevirtual 174, 3) := by decide +kernel
theorem dX1_mixCells_56 : decode cX1_mixCells 56 = .ok (.invokestatic 259, 3) := by decide +kernel
theorem dX1_mixCells_59 : decode cX1_mixCells 59 = .ok (.lstore_n 3, 1) := by decide +kernel
theorem dX1_mixCells_60 : decode cX1_mixCells 60 = .ok (.lload_n 3, 1) := by decide +kernel
theorem dX1_mixCells_61 : decode cX1_mixCells 61 = .ok (.aload_n 0, 1) := by decide +kernel
theorem dX1_mixCells_62 : decode cX1_mixCells 62 = .ok (.getfield 32, 3) := by decide +kernel
theorem dX1_mixCells_65 : decode cX1_mixCells 65 = .ok (.aload_n 0, 1) := by decide +kernel
theorem dX1_mixCells_66 : decode cX1_mixCells 66 = .ok (.getfield 9, 3) := by decide +kernel
theorem dX1_mixCells_69 : decode cX1_mixCells 69 = .ok (.iload 5, 2) := by decide +kernel
theorem dX1_mixCells_71 : decode cX1_mixCells 71 = .ok (.laload, 1) := by decide +kernel
theorem dX1_mixCells_72 : decode cX1_mixCells 72 = .ok (.invokevirtual 174, 3) := by decide +kernel
theorem dX1_mixCells_75 : decode cX1_mixCells 75 = .ok (.invokestatic 259, 3) := by decide +kernel
theorem dX1_mixCells_78 : decode cX1_mixCells 78 = .ok (.lstore_n 3, 1) := by decide +kernel
theorem dX1_mixCells_79 : decode cX1_mixCells 79 = .ok (.iinc 5 1, 3) := by decide +kernel
theorem dX1_mixCells_82 : decode cX1_mixCells 82 = .ok (.goto (-77), 3) := by decide +kernel
theorem dX1_mixCells_85 : decode cX1_mixCells 85 = .ok (.lload_n 3, 1) := by decide +kernel
theorem dX1_mixCells_86 : decode cX1_mixCells 86 = .ok (.lreturn, 1) := by decide +kernel
theorem dX1_mixSpans_0 : decode cX1_mixSpans 0 = .ok (.lload_n 1, 1) := by decide +kernel
theorem dX1_mixSpans_1 : decode cX1_mixSpans 1 = .ok (.lstore_n 3, 1) := by decide +kernel
theorem dX1_mixSpans_2 : decode cX1_mixSpans 2 = .ok (.iconst 0, 1) := by decide +kernel
theorem dX1_mixSpans_3 : decode cX1_mixSpans 3 = .ok (.istore 5, 2) := by decide +kernel
theorem dX1_mixSpans_5 : decode cX1_mixSpans 5 = .ok (.iload 5, 2) := by decide +kernel
theorem dX1_mixSpans_7 : decode cX1_mixSpans 7 = .ok (.iconst 4, 1) := by decide +kernel
theorem dX1_mixSpans_8 : decode cX1_mixSpans 8 = .ok (.if_icmp .ge 20, 3) := by decide +kernel
theorem dX1_mixSpans_11 : decode cX1_mixSpans 11 = .ok (.lload_n 3, 1) := by decide +kernel
theorem dX1_mixSpans_12 : decode cX1_mixSpans 12 = .ok (.aload_n 0, 1) := by decide +kernel
theorem dX1_mixSpans_13 : decode cX1_mixSpans 13 = .ok (.iload 5, 2) := by decide +kernel
theorem dX1_mixSpans_15 : decode cX1_mixSpans 15 = .ok (.invokevirtual 322, 3) := by decide +kernel
theorem dX1_mixSpans_18 : decode cX1_mixSpans 18 = .ok (.invokestatic 259, 3) := by decide +kernel
theorem dX1_mixSpans_21 : decode cX1_mixSpans 21 = .ok (.lstore_n 3, 1) := by decide +kernel
theorem dX1_mixSpans_22 : decode cX1_mixSpans 22 = .ok (.iinc 5 1, 3) := by decide +kernel
theorem dX1_mixSpans_25 : decode cX1_mixSpans 25 = .ok (.goto (-20), 3) := by decide +kernel
theorem dX1_mixSpans_28 : decode cX1_mixSpans 28 = .ok (.lload_n 3, 1) := by decide +kernel
theorem dX1_mixSpans_29 : decode cX1_mixSpans 29 = .ok (.aload_n 0, 1) := by decide +kernel
theorem dX1_mixSpans_30 : decode cX1_mixSpans 30 = .ok (.getfield 25, 3) := by decide +kernel
theorem dX1_mixSpans_33 : decode cX1_mixSpans 33 = .ok (.invokevirtual 96, 3) := by decide +kernel
theorem dX1_mixSpans_36 : decode cX1_mixSpans 36 = .ok (.invokestatic 259, 3) := by decide +kernel
theorem dX1_mixSpans_39 : decode cX1_mixSpans 39 = .ok (.lstore_n 3, 1) := by decide +kernel
theorem dX1_mixSpans_40 : decode cX1_mixSpans 40 = .ok (.iconst 0, 1) := by decide +kernel
theorem dX1_mixSpans_41 : decode cX1_mixSpans 41 = .ok (.istore 5, 2) := by decide +kernel
theorem dX1_mixSpans_43 : decode cX1_mixSpans 43 = .ok (.iload 5, 2) := by decide +kernel
theorem dX1_mixSpans_45 : decode cX1_mixSpans 45 = .ok (.aload_n 0, 1) := by decide +kernel
theorem dX1_mixSpans_46 : decode cX1_mixSpans 46 = .ok (.getfield 25, 3) := by decide +kernel
theorem dX1_mixSpans_49 : decode cX1_mixSpans 49 = .ok (.invokevirtual 96, 3) := by decide +kernel
theorem dX1_mixSpans_52 : decode cX1_mixSpans 52 = .ok (.if_icmp .ge 42, 3) := by decide +kernel
theorem dX1_mixSpans_55 : decode cX1_mixSpans 55 = .ok (.lload_n 3, 1) := by decide +kernel
theorem dX1_mixSpans_56 : decode cX1_mixSpans 56 = .ok (.aload_n 0, 1) := by decide +kernel
theorem dX1_mixSpans_57 : decode cX1_mixSpans 57 = .ok (.getfield 25, 3) := by decide +kernel
theorem dX1_mixSpans_60 : decode cX1_mixSpans 60 = .ok (.iload 5, 2) := by decide +kernel
theorem dX1_mixSpans_62 : decode cX1_mixSpans 62 = .ok (.invokestatic 325, 3) := by decide +kernel
theorem dX1_mixSpans_65 : decode cX1_mixSpans 65 = .ok (.lstore_n 3, 1) := by decide +kernel
theorem dX1_mixSpans_66 : decode cX1_mixSpans 66 = .ok (.lload_n 3, 1) := by decide +kernel
theorem dX1_mixSpans_67 : decode cX1_mixSpans 67 = .ok (.aload_n 0, 1) := by decide +kernel
theorem dX1_mixSpans_68 : decode cX1_mixSpans 68 = .ok (.getfield 25, 3) := by decide +kernel
theorem dX1_mixSpans_71 : decode cX1_mixSpans 71 = .ok (.iload 5, 2) := by decide +kernel
theorem dX1_mixSpans_73 : decode cX1_mixSpans 73 = .ok (.invokevirtual 162, 3) := by decide +kernel
theorem dX1_mixSpans_76 : decode cX1_mixSpans 76 = .ok (.ifCond .eq 7, 3) := by decide +kernel
theorem dX1_mixSpans_79 : decode cX1_mixSpans 79 = .ok (.iconst 1, 1) := by decide +kernel
theorem dX1_mixSpans_80 : decode cX1_mixSpans 80 = .ok (.goto 4, 3) := by decide +kernel
theorem dX1_mixSpans_83 : decode cX1_mixSpans 83 = .ok (.iconst 0, 1) := by decide +kernel
theorem dX1_mixSpans_84 : decode cX1_mixSpans 84 = .ok (.invokestatic 259, 3) := by decide +kernel
theorem dX1_mixSpans_87 : decode cX1_mixSpans 87 = .ok (.lstore_n 3, 1) := by decide +kernel
theorem dX1_mixSpans_88 : decode cX1_mixSpans 88 = .ok (.iinc 5 1, 3) := by decide +kernel
theorem dX1_mixSpans_91 : decode cX1_mixSpans 91 = .ok (.goto (-48), 3) := by decide +kernel
theorem dX1_mixSpans_94 : decode cX1_mixSpans 94 = .ok (.lload_n 3, 1) := by decide +kernel
theorem dX1_mixSpans_95 : decode cX1_mixSpans 95 = .ok (.aload_n 0, 1) := by decide +kernel
theorem dX1_mixSpans_96 : decode cX1_mixSpans 96 = .ok (.invokevirtual 329, 3) := by decide +kernel
theorem dX1_mixSpans_99 : decode cX1_mixSpans 99 = .ok (.invokestatic 259, 3) := by decide +kernel
theorem dX1_mixSpans_102 : decode cX1_mixSpans 102 = .ok (.lstore_n 3, 1) := by decide +kernel
theorem dX1_mixSpans_103 : decode cX1_mixSpans 103 = .ok (.lload_n 3, 1) := by decide +kernel
theorem dX1_mixSpans_104 : decode cX1_mixSpans 104 = .ok (.aload_n 0, 1) := by decide +kernel
theorem dX1_mixSpans_105 : decode cX1_mixSpans 105 = .ok (.invokevirtual 332, 3) := by decide +kernel
theorem dX1_mixSpans_108 : decode cX1_mixSpans 108 = .ok (.invokestatic 259, 3) := by decide +kernel
theorem dX1_mixSpans_111 : decode cX1_mixSpans 111 = .ok (.lreturn, 1) := by decide +kernel
theorem dX1_mixFrees_0 : decode cX1_mixFrees 0 = .ok (.lload_n 1, 1) := by decide +kernel
theorem dX1_mixFrees_1 : decode cX1_mixFrees 1 = .ok (.aload_n 0, 1) := by decide +kernel
theorem dX1_mixFrees_2 : decode cX1_mixFrees 2 = .ok (.getfield 32, 3) := by decide +kernel
theorem dX1_mixFrees_5 : decode cX1_mixFrees 5 = .ok (.invokevirtual 96, 3) := by decide +kernel
theorem dX1_mixFrees_8 : decode cX1_mixFrees 8 = .ok (.invokestatic 259, 3) := by decide +kernel
theorem dX1_mixFrees_11 : decode cX1_mixFrees 11 = .ok (.lstore_n 3, 1) := by decide +kernel
theorem dX1_mixFrees_12 : decode cX1_mixFrees 12 = .ok (.iconst 0, 1) := by decide +kernel
theorem dX1_mixFrees_13 : decode cX1_mixFrees 13 = .ok (.istore 5, 2) := by decide +kernel
theorem dX1_mixFrees_15 : decode cX1_mixFrees 15 = .ok (.iload 5, 2) := by decide +kernel
theorem dX1_mixFrees_17 : decode cX1_mixFrees 17 = .ok (.aload_n 0, 1) := by decide +kernel
theorem dX1_mixFrees_18 : decode cX1_mixFrees 18 = .ok (.getfield 32, 3) := by decide +kernel
theorem dX1_mixFrees_21 : decode cX1_mixFrees 21 = .ok (.invokevirtual 96, 3) := by decide +kernel
theorem dX1_mixFrees_24 : decode cX1_mixFrees 24 = .ok (.if_icmp .ge 20, 3) := by decide +kernel
theorem dX1_mixFrees_27 : decode cX1_mixFrees 27 = .ok (.lload_n 3, 1) := by decide +kernel
theorem dX1_mixFrees_28 : decode cX1_mixFrees 28 = .ok (.aload_n 0, 1) := by decide +kernel
theorem dX1_mixFrees_29 : decode cX1_mixFrees 29 = .ok (.getfield 32, 3) := by decide +kernel
theorem dX1_mixFrees_32 : decode cX1_mixFrees 32 = .ok (.iload 5, 2) := by decide +kernel
theorem dX1_mixFrees_34 : decode cX1_mixFrees 34 = .ok (.invokestatic 325, 3) := by decide +kernel
theorem dX1_mixFrees_37 : decode cX1_mixFrees 37 = .ok (.lstore_n 3, 1) := by decide +kernel
theorem dX1_mixFrees_38 : decode cX1_mixFrees 38 = .ok (.iinc 5 1, 3) := by decide +kernel
theorem dX1_mixFrees_41 : decode cX1_mixFrees 41 = .ok (.goto (-26), 3) := by decide +kernel
theorem dX1_mixFrees_44 : decode cX1_mixFrees 44 = .ok (.iconst 0, 1) := by decide +kernel
theorem dX1_mixFrees_45 : decode cX1_mixFrees 45 = .ok (.istore 5, 2) := by decide +kernel
theorem dX1_mixFrees_47 : decode cX1_mixFrees 47 = .ok (.iload 5, 2) := by decide +kernel
theorem dX1_mixFrees_49 : decode cX1_mixFrees 49 = .ok (.bipush 6, 2) := by decide +kernel
theorem dX1_mixFrees_51 : decode cX1_mixFrees 51 = .ok (.if_icmp .ge 20, 3) := by decide +kernel
theorem dX1_mixFrees_54 : decode cX1_mixFrees 54 = .ok (.lload_n 3, 1) := by decide +kernel
theorem dX1_mixFrees_55 : decode cX1_mixFrees 55 = .ok (.aload_n 0, 1) := by decide +kernel
theorem dX1_mixFrees_56 : decode cX1_mixFrees 56 = .ok (.iload 5, 2) := by decide +kernel
theorem dX1_mixFrees_58 : decode cX1_mixFrees 58 = .ok (.invokevirtual 335, 3) := by decide +kernel
theorem dX1_mixFrees_61 : decode cX1_mixFrees 61 = .ok (.invokestatic 259, 3) := by decide +kernel
theorem dX1_mixFrees_64 : decode cX1_mixFrees 64 = .ok (.lstore_n 3, 1) := by decide +kernel
theorem dX1_mixFrees_65 : decode cX1_mixFrees 65 = .ok (.iinc 5 1, 3) := by decide +kernel
theorem dX1_mixFrees_68 : decode cX1_mixFrees 68 = .ok (.goto (-21), 3) := by decide +kernel
theorem dX1_mixFrees_71 : decode cX1_mixFrees 71 = .ok (.lload_n 3, 1) := by decide +kernel
theorem dX1_mixFrees_72 : decode cX1_mixFrees 72 = .ok (.lreturn, 1) := by decide +kernel
theorem dX1_mixWishes_0 : decode cX1_mixWishes 0 = .ok (.lload_n 1, 1) := by decide +kernel
theorem dX1_mixWishes_1 : decode cX1_mixWishes 1 = .ok (.aload_n 0, 1) := by decide +kernel
theorem dX1_mixWishes_2 : decode cX1_mixWishes 2 = .ok (.getfield 29, 3) := by decide +kernel
theorem dX1_mixWishes_5 : decode cX1_mixWishes 5 = .ok (.invokevirtual 96, 3) := by decide +kernel
theorem dX1_mixWishes_8 : decode cX1_mixWishes 8 = .ok (.invokestatic 259, 3) := by decide +kernel
theorem dX1_mixWishes_11 : decode cX1_mixWishes 11 = .ok (.lstore_n 3, 1) := by decide +kernel
theorem dX1_mixWishes_12 : decode cX1_mixWishes 12 = .ok (.iconst 0, 1) := by decide +kernel
theorem dX1_mixWishes_13 : decode cX1_mixWishes 13 = .ok (.istore 5, 2) := by decide +kernel
theorem dX1_mixWishes_15 : decode cX1_mixWishes 15 = .ok (.iload 5, 2) := by decide +kernel
theorem dX1_mixWishes_17 : decode cX1_mixWishes 17 = .ok (.aload_n 0, 1) := by decide +kernel
theorem dX1_mixWishes_18 : decode cX1_mixWishes 18 = .ok (.getfield 29, 3) := by decide +kernel
theorem dX1_mixWishes_21 : decode cX1_mixWishes 21 = .ok (.invokevirtual 96, 3) := by decide +kernel
theorem dX1_mixWishes_24 : decode cX1_mixWishes 24 = .ok (.if_icmp .ge 32, 3) := by decide +kernel
theorem dX1_mixWishes_27 : decode cX1_mixWishes 27 = .ok (.lload_n 3, 1) := by decide +kernel
theorem dX1_mixWishes_28 : decode cX1_mixWishes 28 = .ok (.aload_n 0, 1) := by decide +kernel
theorem dX1_mixWishes_29 : decode cX1_mixWishes 29 = .ok (.getfield 29, 3) := by decide +kernel
theorem dX1_mixWishes_32 : decode cX1_mixWishes 32 = .ok (.iload 5, 2) := by decide +kernel
theorem dX1_mixWishes_34 : decode cX1_mixWishes 34 = .ok (.invokestatic 325, 3) := by decide +kernel
theorem dX1_mixWishes_37 : decode cX1_mixWishes 37 = .ok (.lstore_n 3, 1) := by decide +kernel
theorem dX1_mixWishes_38 : decode cX1_mixWishes 38 = .ok (.lload_n 3, 1) := by decide +kernel
theorem dX1_mixWishes_39 : decode cX1_mixWishes 39 = .ok (.aload_n 0, 1) := by decide +kernel
theorem dX1_mixWishes_40 : decode cX1_mixWishes 40 = .ok (.getfield 35, 3) := by decide +kernel
theorem dX1_mixWishes_43 : decode cX1_mixWishes 43 = .ok (.iload 5, 2) := by decide +kernel
theorem dX1_mixWishes_45 : decode cX1_mixWishes 45 = .ok (.iaload, 1) := by decide +kernel
theorem dX1_mixWishes_46 : decode cX1_mixWishes 46 = .ok (.invokestatic 259, 3) := by decide +kernel
theorem dX1_mixWishes_49 : decode cX1_mixWishes 49 = .ok (.lstore_n 3, 1) := by decide +kernel
theorem dX1_mixWishes_50 : decode cX1_mixWishes 50 = .ok (.iinc 5 1, 3) := by decide +kernel
theorem dX1_mixWishes_53 : decode cX1_mixWishes 53 = .ok (.goto (-38), 3) := by decide +kernel
theorem dX1_mixWishes_56 : decode cX1_mixWishes 56 = .ok (.lload_n 3, 1) := by decide +kernel
theorem dX1_mixWishes_57 : decode cX1_mixWishes 57 = .ok (.aload_n 0, 1) := by decide +kernel
theorem dX1_mixWishes_58 : decode cX1_mixWishes 58 = .ok (.invokevirtual 207, 3) := by decide +kernel
theorem dX1_mixWishes_61 : decode cX1_mixWishes 61 = .ok (.invokestatic 259, 3) := by decide +kernel
theorem dX1_mixWishes_64 : decode cX1_mixWishes 64 = .ok (.lstore_n 3, 1) := by decide +kernel
theorem dX1_mixWishes_65 : decode cX1_mixWishes 65 = .ok (.lload_n 3, 1) := by decide +kernel
theorem dX1_mixWishes_66 : decode cX1_mixWishes 66 = .ok (.aload_n 0, 1) := by decide +kernel
theorem dX1_mixWishes_67 : decode cX1_mixWishes 67 = .ok (.invokevirtual 215, 3) := by decide +kernel
theorem dX1_mixWishes_70 : decode cX1_mixWishes 70 = .ok (.invokestatic 259, 3) := by decide +kernel
theorem dX1_mixWishes_73 : decode cX1_mixWishes 73 = .ok (.lstore_n 3, 1) := by decide +kernel
theorem dX1_mixWishes_74 : decode cX1_mixWishes 74 = .ok (.lload_n 3, 1) := by decide +kernel
theorem dX1_mixWishes_75 : decode cX1_mixWishes 75 = .ok (.aload_n 0, 1) := by decide +kernel
theorem dX1_mixWishes_76 : decode cX1_mixWishes 76 = .ok (.invokevirtual 317, 3) := by decide +kernel
theorem dX1_mixWishes_79 : decode cX1_mixWishes 79 = .ok (.invokestatic 259, 3) := by decide +kernel
theorem dX1_mixWishes_82 : decode cX1_mixWishes 82 = .ok (.lreturn, 1) := by decide +kernel
theorem dX1_digest_0 : decode cX1_digest 0 = .ok (.aload_n 0, 1) := by decide +kernel
theorem dX1_digest_1 : decode cX1_digest 1 = .ok (.invokevirtual 188, 3) := by decide +kernel
theorem dX1_digest_4 : decode cX1_digest 4 = .ok (.aload_n 0, 1) := by decide +kernel
theorem dX1_digest_5 : decode cX1_digest 5 = .ok (.invokevirtual 218, 3) := by decide +kernel
theorem dX1_digest_8 : decode cX1_digest 8 = .ok (.ldc2_w 244, 3) := by decide +kernel
theorem dX1_digest_11 : decode cX1_digest 11 = .ok (.lstore_n 1, 1) := by decide +kernel
theorem dX1_digest_12 : decode cX1_digest 12 = .ok (.aload_n 0, 1) := by decide +kernel
theorem dX1_digest_13 : decode cX1_digest 13 = .ok (.lload_n 1, 1) := by decide +kernel
theorem dX1_digest_14 : decode cX1_digest 14 = .ok (.invokevirtual 246, 3) := by decide +kernel
theorem dX1_digest_17 : decode cX1_digest 17 = .ok (.lstore_n 1, 1) := by decide +kernel
theorem dX1_digest_18 : decode cX1_digest 18 = .ok (.aload_n 0, 1) := by decide +kernel
theorem dX1_digest_19 : decode cX1_digest 19 = .ok (.lload_n 1, 1) := by decide +kernel
theorem dX1_digest_20 : decode cX1_digest 20 = .ok (.invokevirtual 250, 3) := by decide +kernel
theorem dX1_digest_23 : decode cX1_digest 23 = .ok (.lstore_n 1, 1) := by decide +kernel
theorem dX1_digest_24 : decode cX1_digest 24 = .ok (.aload_n 0, 1) := by decide +kernel
theorem dX1_digest_25 : decode cX1_digest 25 = .ok (.lload_n 1, 1) := by decide +kernel
theorem dX1_digest_26 : decode cX1_digest 26 = .ok (.invokevirtual 253, 3) := by decide +kernel
theorem dX1_digest_29 : decode cX1_digest 29 = .ok (.lstore_n 1, 1) := by decide +kernel
theorem dX1_digest_30 : decode cX1_digest 30 = .ok (.aload_n 0, 1) := by decide +kernel
theorem dX1_digest_31 : decode cX1_digest 31 = .ok (.lload_n 1, 1) := by decide +kernel
theorem dX1_digest_32 : decode cX1_digest 32 = .ok (.invokevirtual 256, 3) := by decide +kernel
theorem dX1_digest_35 : decode cX1_digest 35 = .ok (.lstore_n 1, 1) := by decide +kernel
theorem dX1_digest_36 : decode cX1_digest 36 = .ok (.lload_n 1, 1) := by decide +kernel
theorem dX1_digest_37 : decode cX1_digest 37 = .ok (.aload_n 0, 1) := by decide +kernel
theorem dX1_digest_38 : decode cX1_digest 38 = .ok (.getfield 224, 3) := by decide +kernel
theorem dX1_digest_41 : decode cX1_digest 41 = .ok (.invokestatic 259, 3) := by decide +kernel
theorem dX1_digest_44 : decode cX1_digest 44 = .ok (.lstore_n 1, 1) := by decide +kernel
theorem dX1_digest_45 : decode cX1_digest 45 = .ok (.lload_n 1, 1) := by decide +kernel
theorem dX1_digest_46 : decode cX1_digest 46 = .ok (.aload_n 0, 1) := by decide +kernel
theorem dX1_digest_47 : decode cX1_digest 47 = .ok (.getfield 228, 3) := by decide +kernel
theorem dX1_digest_50 : decode cX1_digest 50 = .ok (.invokestatic 259, 3) := by decide +kernel
theorem dX1_digest_53 : decode cX1_digest 53 = .ok (.lstore_n 1, 1) := by decide +kernel
theorem dX1_digest_54 : decode cX1_digest 54 = .ok (.lload_n 1, 1) := by decide +kernel
theorem dX1_digest_55 : decode cX1_digest 55 = .ok (.aload_n 0, 1) := by decide +kernel
theorem dX1_digest_56 : decode cX1_digest 56 = .ok (.getfield 231, 3) := by decide +kernel
theorem dX1_digest_59 : decode cX1_digest 59 = .ok (.invokestatic 259, 3) := by decide +kernel
theorem dX1_digest_62 : decode cX1_digest 62 = .ok (.lstore_n 1, 1) := by decide +kernel
theorem dX1_digest_63 : decode cX1_digest 63 = .ok (.lload_n 1, 1) := by decide +kernel
theorem dX1_digest_64 : decode cX1_digest 64 = .ok (.aload_n 0, 1) := by decide +kernel
theorem dX1_digest_65 : decode cX1_digest 65 = .ok (.invokevirtual 263, 3) := by decide +kernel
theorem dX1_digest_68 : decode cX1_digest 68 = .ok (.ifCond .eq 7, 3) := by decide +kernel
theorem dX1_digest_71 : decode cX1_digest 71 = .ok (.iconst 1, 1) := by decide +kernel
theorem dX1_digest_72 : decode cX1_digest 72 = .ok (.goto 4, 3) := by decide +kernel
theorem dX1_digest_75 : decode cX1_digest 75 = .ok (.iconst 0, 1) := by decide +kernel
theorem dX1_digest_76 : decode cX1_digest 76 = .ok (.invokestatic 259, 3) := by decide +kernel
theorem dX1_digest_79 : decode cX1_digest 79 = .ok (.lreturn, 1) := by decide +kernel
theorem dJ6_stringSize_0f7a4_0 : decode cJ6_stringSize_0f7a4 0 = .ok (.iconst 1, 1) := by decide +kernel
theorem dJ6_stringSize_0f7a4_1 : decode cJ6_stringSize_0f7a4 1 = .ok (.istore_n 1, 1) := by decide +kernel
theorem dJ6_stringSize_0f7a4_2 : decode cJ6_stringSize_0f7a4 2 = .ok (.iload_n 0, 1) := by decide +kernel
theorem dJ6_stringSize_0f7a4_3 : decode cJ6_stringSize_0f7a4 3 = .ok (.ifCond .lt 8, 3) := by decide +kernel
theorem dJ6_stringSize_0f7a4_6 : decode cJ6_stringSize_0f7a4 6 = .ok (.iconst 0, 1) := by decide +kernel
theorem dJ6_stringSize_0f7a4_7 : decode cJ6_stringSize_0f7a4 7 = .ok (.istore_n 1, 1) := by decide +kernel
theorem dJ6_stringSize_0f7a4_8 : decode cJ6_stringSize_0f7a4 8 = .ok (.iload_n 0, 1) := by decide +kernel
theorem dJ6_stringSize_0f7a4_9 : decode cJ6_stringSize_0f7a4 9 = .ok (.ineg, 1) := by decide +kernel
theorem dJ6_stringSize_0f7a4_10 : decode cJ6_stringSize_0f7a4 10 = .ok (.istore_n 0, 1) := by decide +kernel
theorem dJ6_stringSize_0f7a4_11 : decode cJ6_stringSize_0f7a4 11 = .ok (.bipush (-10), 2) := by decide +kernel
theorem dJ6_stringSize_0f7a4_13 : decode cJ6_stringSize_0f7a4 13 = .ok (.istore_n 2, 1) := by decide +kernel
theorem dJ6_stringSize_0f7a4_14 : decode cJ6_stringSize_0f7a4 14 = .ok (.iconst 1, 1) := by decide +kernel
theorem dJ6_stringSize_0f7a4_15 : decode cJ6_stringSize_0f7a4 15 = .ok (.istore_n 3, 1) := by decide +kernel
theorem dJ6_stringSize_0f7a4_16 : decode cJ6_stringSize_0f7a4 16 = .ok (.iload_n 3, 1) := by decide +kernel
theorem dJ6_stringSize_0f7a4_17 : decode cJ6_stringSize_0f7a4 17 = .ok (.bipush 10, 2) := by decide +kernel
theorem dJ6_stringSize_0f7a4_19 : decode cJ6_stringSize_0f7a4 19 = .ok (.if_icmp .ge 23, 3) := by decide +kernel
theorem dJ6_stringSize_0f7a4_22 : decode cJ6_stringSize_0f7a4 22 = .ok (.iload_n 0, 1) := by decide +kernel
theorem dJ6_stringSize_0f7a4_23 : decode cJ6_stringSize_0f7a4 23 = .ok (.iload_n 2, 1) := by decide +kernel
theorem dJ6_stringSize_0f7a4_24 : decode cJ6_stringSize_0f7a4 24 = .ok (.if_icmp .le 7, 3) := by decide +kernel
theorem dJ6_stringSize_0f7a4_27 : decode cJ6_stringSize_0f7a4 27 = .ok (.iload_n 3, 1) := by decide +kernel
theorem dJ6_stringSize_0f7a4_28 : decode cJ6_stringSize_0f7a4 28 = .ok (.iload_n 1, 1) := by decide +kernel
theorem dJ6_stringSize_0f7a4_29 : decode cJ6_stringSize_0f7a4 29 = .ok (.iadd, 1) := by decide +kernel
theorem dJ6_stringSize_0f7a4_30 : decode cJ6_stringSize_0f7a4 30 = .ok (.ireturn, 1) := by decide +kernel
theorem dJ6_stringSize_0f7a4_31 : decode cJ6_stringSize_0f7a4 31 = .ok (.bipush 10, 2) := by decide +kernel
theorem dJ6_stringSize_0f7a4_33 : decode cJ6_stringSize_0f7a4 33 = .ok (.iload_n 2, 1) := by decide +kernel
theorem dJ6_stringSize_0f7a4_34 : decode cJ6_stringSize_0f7a4 34 = .ok (.imul, 1) := by decide +kernel
theorem dJ6_stringSize_0f7a4_35 : decode cJ6_stringSize_0f7a4 35 = .ok (.istore_n 2, 1) := by decide +kernel
theorem dJ6_stringSize_0f7a4_36 : decode cJ6_stringSize_0f7a4 36 = .ok (.iinc 3 1, 3) := by decide +kernel
theorem dJ6_stringSize_0f7a4_39 : decode cJ6_stringSize_0f7a4 39 = .ok (.goto (-23), 3) := by decide +kernel
theorem dJ6_stringSize_0f7a4_42 : decode cJ6_stringSize_0f7a4 42 = .ok (.bipush 10, 2) := by decide +kernel
theorem dJ6_stringSize_0f7a4_44 : decode cJ6_stringSize_0f7a4 44 = .ok (.iload_n 1, 1) := by decide +kernel
theorem dJ6_stringSize_0f7a4_45 : decode cJ6_stringSize_0f7a4 45 = .ok (.iadd, 1) := by decide +kernel
theorem dJ6_stringSize_0f7a4_46 : decode cJ6_stringSize_0f7a4 46 = .ok (.ireturn, 1) := by decide +kernel
theorem dJ8_newLength_cabcc_0 : decode cJ8_newLength_cabcc 0 = .ok (.iload_n 0, 1) := by decide +kernel
theorem dJ8_newLength_cabcc_1 : decode cJ8_newLength_cabcc 1 = .ok (.iload_n 1, 1) := by decide +kernel
theorem dJ8_newLength_cabcc_2 : decode cJ8_newLength_cabcc 2 = .ok (.iload_n 2, 1) := by decide +kernel
theorem dJ8_newLength_cabcc_3 : decode cJ8_newLength_cabcc 3 = .ok (.invokestatic 194, 3) := by decide +kernel
theorem dJ8_newLength_cabcc_6 : decode cJ8_newLength_cabcc 6 = .ok (.iadd, 1) := by decide +kernel
theorem dJ8_newLength_cabcc_7 : decode cJ8_newLength_cabcc 7 = .ok (.istore_n 3, 1) := by decide +kernel
theorem dJ8_newLength_cabcc_8 : decode cJ8_newLength_cabcc 8 = .ok (.iconst 0, 1) := by decide +kernel
theorem dJ8_newLength_cabcc_9 : decode cJ8_newLength_cabcc 9 = .ok (.iload_n 3, 1) := by decide +kernel
theorem dJ8_newLength_cabcc_10 : decode cJ8_newLength_cabcc 10 = .ok (.if_icmp .ge 11, 3) := by decide +kernel
theorem dJ8_newLength_cabcc_13 : decode cJ8_newLength_cabcc 13 = .ok (.iload_n 3, 1) := by decide +kernel
theorem dJ8_newLength_cabcc_14 : decode cJ8_newLength_cabcc 14 = .ok (.ldc 200, 2) := by decide +kernel
theorem dJ8_newLength_cabcc_16 : decode cJ8_newLength_cabcc 16 = .ok (.if_icmp .gt 5, 3) := by decide +kernel
theorem dJ8_newLength_cabcc_19 : decode cJ8_newLength_cabcc 19 = .ok (.iload_n 3, 1) := by decide +kernel
theorem dJ8_newLength_cabcc_20 : decode cJ8_newLength_cabcc 20 = .ok (.ireturn, 1) := by decide +kernel
theorem dJ8_newLength_cabcc_21 : decode cJ8_newLength_cabcc 21 = .ok (.iload_n 0, 1) := by decide +kernel
theorem dJ8_newLength_cabcc_22 : decode cJ8_newLength_cabcc 22 = .ok (.iload_n 1, 1) := by decide +kernel
theorem dJ8_newLength_cabcc_23 : decode cJ8_newLength_cabcc 23 = .ok (.invokestatic 201, 3) := by decide +kernel
theorem dJ8_newLength_cabcc_26 : decode cJ8_newLength_cabcc 26 = .ok (.ireturn, 1) := by decide +kernel
theorem dJ5_newCapacity_0f7a4_0 : decode cJ5_newCapacity_0f7a4 0 = .ok (.aload_n 0, 1) := by decide +kernel
theorem dJ5_newCapacity_0f7a4_1 : decode cJ5_newCapacity_0f7a4 1 = .ok (.getfield 15, 3) := by decide +kernel
theorem dJ5_newCapacity_0f7a4_4 : decode cJ5_newCapacity_0f7a4 4 = .ok (.arraylength, 1) := by decide +kernel
theorem dJ5_newCapacity_0f7a4_5 : decode cJ5_newCapacity_0f7a4 5 = .ok (.istore_n 2, 1) := by decide +kernel
theorem dJ5_newCapacity_0f7a4_6 : decode cJ5_newCapacity_0f7a4 6 = .ok (.iload_n 1, 1) := by decide +kernel
theorem dJ5_newCapacity_0f7a4_7 : decode cJ5_newCapacity_0f7a4 7 = .ok (.aload_n 0, 1) := by decide +kernel
theorem dJ5_newCapacity_0f7a4_8 : decode cJ5_newCapacity_0f7a4 8 = .ok (.getfield 22, 3) := by decide +kernel
theorem dJ5_newCapacity_0f7a4_11 : decode cJ5_newCapacity_0f7a4 11 = .ok (.ishl, 1) := by decide +kernel
theorem dJ5_newCapacity_0f7a4_12 : decode cJ5_newCapacity_0f7a4 12 = .ok (.istore_n 3, 1) := by decide +kernel
theorem dJ5_newCapacity_0f7a4_13 : decode cJ5_newCapacity_0f7a4 13 = .ok (.iload_n 3, 1) := by decide +kernel
theorem dJ5_newCapacity_0f7a4_14 : decode cJ5_newCapacity_0f7a4 14 = .ok (.iload_n 2, 1) := by decide +kernel
theorem dJ5_newCapacity_0f7a4_15 : decode cJ5_newCapacity_0f7a4 15 = .ok (.isub, 1) := by decide +kernel
theorem dJ5_newCapacity_0f7a4_16 : decode cJ5_newCapacity_0f7a4 16 = .ok (.istore 4, 2) := by decide +kernel
theorem dJ5_newCapacity_0f7a4_18 : decode cJ5_newCapacity_0f7a4 18 = .ok (.iload_n 2, 1) := by decide +kernel
theorem dJ5_newCapacity_0f7a4_19 : decode cJ5_newCapacity_0f7a4 19 = .ok (.iload 4, 2) := by decide +kernel
theorem dJ5_newCapacity_0f7a4_21 : decode cJ5_newCapacity_0f7a4 21 = .ok (.iload_n 2, 1) := by decide +kernel
theorem dJ5_newCapacity_0f7a4_22 : decode cJ5_newCapacity_0f7a4 22 = .ok (.iconst 2, 1) := by decide +kernel
theorem dJ5_newCapacity_0f7a4_23 : decode cJ5_newCapacity_0f7a4 23 = .ok (.aload_n 0, 1) := by decide +kernel
theorem dJ5_newCapacity_0f7a4_24 : decode cJ5_newCapacity_0f7a4 24 = .ok (.getfield 22, 3) := by decide +kernel
theorem dJ5_newCapacity_0f7a4_27 : decode cJ5_newCapacity_0f7a4 27 = .ok (.ishl, 1) := by decide +kernel
theorem dJ5_newCapacity_0f7a4_28 : decode cJ5_newCapacity_0f7a4 28 = .ok (.iadd, 1) := by decide +kernel
theorem dJ5_newCapacity_0f7a4_29 : decode cJ5_newCapacity_0f7a4 29 = .ok (.invokestatic 114, 3) := by decide +kernel
theorem dJ5_newCapacity_0f7a4_32 : decode cJ5_newCapacity_0f7a4 32 = .ok (.istore 5, 2) := by decide +kernel
theorem dJ5_newCapacity_0f7a4_34 : decode cJ5_newCapacity_0f7a4 34 = .ok (.iload 5, 2) := by decide +kernel
theorem dJ5_newCapacity_0f7a4_36 : decode cJ5_newCapacity_0f7a4 36 = .ok (.ldc 39, 2) := by decide +kernel
theorem dJ5_newCapacity_0f7a4_38 : decode cJ5_newCapacity_0f7a4 38 = .ok (.if_icmp .ne 13, 3) := by decide +kernel
theorem dJ5_newCapacity_0f7a4_41 : decode cJ5_newCapacity_0f7a4 41 = .ok (.new 120, 3) := by decide +kernel
theorem dJ5_newCapacity_0f7a4_44 : decode cJ5_newCapacity_0f7a4 44 = .ok (.dup, 1) := by decide +kernel
theorem dJ5_newCapacity_0f7a4_45 : decode cJ5_newCapacity_0f7a4 45 = .ok (.ldc 122, 2) := by decide +kernel
theorem dJ5_newCapacity_0f7a4_47 : decode cJ5_newCapacity_0f7a4 47 = .ok (.invokespecial 124, 3) := by decide +kernel
theorem dJ5_newCapacity_0f7a4_50 : decode cJ5_newCapacity_0f7a4 50 = .ok (.athrow, 1) := by decide +kernel
theorem dJ5_newCapacity_0f7a4_51 : decode cJ5_newCapacity_0f7a4 51 = .ok (.iload 5, 2) := by decide +kernel
theorem dJ5_newCapacity_0f7a4_53 : decode cJ5_newCapacity_0f7a4 53 = .ok (.aload_n 0, 1) := by decide +kernel
theorem dJ5_newCapacity_0f7a4_54 : decode cJ5_newCapacity_0f7a4 54 = .ok (.getfield 22, 3) := by decide +kernel
theorem dJ5_newCapacity_0f7a4_57 : decode cJ5_newCapacity_0f7a4 57 = .ok (.ishr, 1) := by decide +kernel
theorem dJ5_newCapacity_0f7a4_58 : decode cJ5_newCapacity_0f7a4 58 = .ok (.ireturn, 1) := by decide +kernel
theorem dJ7_copyOf_9075b_0 : decode cJ7_copyOf_9075b 0 = .ok (.iload_n 1, 1) := by decide +kernel
theorem dJ7_copyOf_9075b_1 : decode cJ7_copyOf_9075b 1 = .ok (.aload_n 0, 1) := by decide +kernel
theorem dJ7_copyOf_9075b_2 : decode cJ7_copyOf_9075b 2 = .ok (.arraylength, 1) := by decide +kernel
theorem dJ7_copyOf_9075b_3 : decode cJ7_copyOf_9075b 3 = .ok (.if_icmp .ne 11, 3) := by decide +kernel
theorem dJ7_copyOf_9075b_6 : decode cJ7_copyOf_9075b 6 = .ok (.aload_n 0, 1) := by decide +kernel
theorem dJ7_copyOf_9075b_7 : decode cJ7_copyOf_9075b 7 = .ok (.invokevirtual 310, 3) := by decide +kernel
theorem dJ7_copyOf_9075b_10 : decode cJ7_copyOf_9075b 10 = .ok (.checkcast 311, 3) := by decide +kernel
theorem dJ7_copyOf_9075b_13 : decode cJ7_copyOf_9075b 13 = .ok (.areturn, 1) := by decide +kernel
theorem dJ7_copyOf_9075b_14 : decode cJ7_copyOf_9075b 14 = .ok (.iload_n 1, 1) := by decide +kernel
theorem dJ7_copyOf_9075b_15 : decode cJ7_copyOf_9075b 15 = .ok (.newarray .byte, 2) := by decide +kernel
theorem dJ7_copyOf_9075b_17 : decode cJ7_copyOf_9075b 17 = .ok (.astore_n 2, 1) := by decide +kernel
theorem dJ7_copyOf_9075b_18 : decode cJ7_copyOf_9075b 18 = .ok (.aload_n 0, 1) := by decide +kernel
theorem dJ7_copyOf_9075b_19 : decode cJ7_copyOf_9075b 19 = .ok (.iconst 0, 1) := by decide +kernel
theorem dJ7_copyOf_9075b_20 : decode cJ7_copyOf_9075b 20 = .ok (.aload_n 2, 1) := by decide +kernel
theorem dJ7_copyOf_9075b_21 : decode cJ7_copyOf_9075b 21 = .ok (.iconst 0, 1) := by decide +kernel
theorem dJ7_copyOf_9075b_22 : decode cJ7_copyOf_9075b 22 = .ok (.aload_n 0, 1) := by decide +kernel
theorem dJ7_copyOf_9075b_23 : decode cJ7_copyOf_9075b 23 = .ok (.arraylength, 1) := by decide +kernel
theorem dJ7_copyOf_9075b_24 : decode cJ7_copyOf_9075b 24 = .ok (.iload_n 1, 1) := by decide +kernel
theorem dJ7_copyOf_9075b_25 : decode cJ7_copyOf_9075b 25 = .ok (.invokestatic 304, 3) := by decide +kernel
theorem dJ7_copyOf_9075b_28 : decode cJ7_copyOf_9075b 28 = .ok (.invokestatic 150, 3) := by decide +kernel
theorem dJ7_copyOf_9075b_31 : decode cJ7_copyOf_9075b 31 = .ok (.aload_n 2, 1) := by decide +kernel
theorem dJ7_copyOf_9075b_32 : decode cJ7_copyOf_9075b 32 = .ok (.areturn, 1) := by decide +kernel
theorem dJ5_ensureCapacityInternal_d00df_0 : decode cJ5_ensureCapacityInternal_d00df 0 = .ok (.aload_n 0, 1) := by decide +kernel
theorem dJ5_ensureCapacityInternal_d00df_1 : decode cJ5_ensureCapacityInternal_d00df 1 = .ok (.getfield 15, 3) := by decide +kernel
theorem dJ5_ensureCapacityInternal_d00df_4 : decode cJ5_ensureCapacityInternal_d00df 4 = .ok (.arraylength, 1) := by decide +kernel
theorem dJ5_ensureCapacityInternal_d00df_5 : decode cJ5_ensureCapacityInternal_d00df 5 = .ok (.aload_n 0, 1) := by decide +kernel
theorem dJ5_ensureCapacityInternal_d00df_6 : decode cJ5_ensureCapacityInternal_d00df 6 = .ok (.getfield 22, 3) := by decide +kernel
theorem dJ5_ensureCapacityInternal_d00df_9 : decode cJ5_ensureCapacityInternal_d00df 9 = .ok (.ishr, 1) := by decide +kernel
theorem dJ5_ensureCapacityInternal_d00df_10 : decode cJ5_ensureCapacityInternal_d00df 10 = .ok (.istore_n 2, 1) := by decide +kernel
theorem dJ5_ensureCapacityInternal_d00df_11 : decode cJ5_ensureCapacityInternal_d00df 11 = .ok (.iload_n 1, 1) := by decide +kernel
theorem dJ5_ensureCapacityInternal_d00df_12 : decode cJ5_ensureCapacityInternal_d00df 12 = .ok (.iload_n 2, 1) := by decide +kernel
theorem dJ5_ensureCapacityInternal_d00df_13 : decode cJ5_ensureCapacityInternal_d00df 13 = .ok (.isub, 1) := by decide +kernel
theorem dJ5_ensureCapacityInternal_d00df_14 : decode cJ5_ensureCapacityInternal_d00df 14 = .ok (.ifCond .le 24, 3) := by decide +kernel
theorem dJ5_ensureCapacityInternal_d00df_17 : decode cJ5_ensureCapacityInternal_d00df 17 = .ok (.aload_n 0, 1) := by decide +kernel
theorem dJ5_ensureCapacityInternal_d00df_18 : decode cJ5_ensureCapacityInternal_d00df 18 = .ok (.aload_n 0, 1) := by decide +kernel
theorem dJ5_ensureCapacityInternal_d00df_19 : decode cJ5_ensureCapacityInternal_d00df 19 = .ok (.getfield 15, 3) := by decide +kernel
theorem dJ5_ensureCapacityInternal_d00df_22 : decode cJ5_ensureCapacityInternal_d00df 22 = .ok (.aload_n 0, 1) := by decide +kernel
theorem dJ5_ensureCapacityInternal_d00df_23 : decode cJ5_ensureCapacityInternal_d00df 23 = .ok (.iload_n 1, 1) := by decide +kernel
theorem dJ5_ensureCapacityInternal_d00df_24 : decode cJ5_ensureCapacityInternal_d00df 24 = .ok (.invokevirtual 104, 3) := by decide +kernel
theorem dJ5_ensureCapacityInternal_d00df_27 : decode cJ5_ensureCapacityInternal_d00df 27 = .ok (.aload_n 0, 1) := by decide +kernel
theorem dJ5_ensureCapacityInternal_d00df_28 : decode cJ5_ensureCapacityInternal_d00df 28 = .ok (.getfield 22, 3) := by decide +kernel
theorem dJ5_ensureCapacityInternal_d00df_31 : decode cJ5_ensureCapacityInternal_d00df 31 = .ok (.ishl, 1) := by decide +kernel
theorem dJ5_ensureCapacityInternal_d00df_32 : decode cJ5_ensureCapacityInternal_d00df 32 = .ok (.invokestatic 108, 3) := by decide +kernel
theorem dJ5_ensureCapacityInternal_d00df_35 : decode cJ5_ensureCapacityInternal_d00df 35 = .ok (.putfield 15, 3) := by decide +kernel
theorem dJ5_ensureCapacityInternal_d00df_38 : decode cJ5_ensureCapacityInternal_d00df 38 = .ok (.return_, 1) := by decide +kernel
theorem dJ5_isLatin1_aae02_0 : decode cJ5_isLatin1_aae02 0 = .ok (.getstatic 18, 3) := by decide +kernel
theorem dJ5_isLatin1_aae02_3 : decode cJ5_isLatin1_aae02 3 = .ok (.ifCond .eq 14, 3) := by decide +kernel
theorem dJ5_isLatin1_aae02_6 : decode cJ5_isLatin1_aae02 6 = .ok (.aload_n 0, 1) := by decide +kernel
theorem dJ5_isLatin1_aae02_7 : decode cJ5_isLatin1_aae02 7 = .ok (.getfield 22, 3) := by decide +kernel
theorem dJ5_isLatin1_aae02_10 : decode cJ5_isLatin1_aae02 10 = .ok (.ifCond .ne 7, 3) := by decide +kernel
theorem dJ5_isLatin1_aae02_13 : decode cJ5_isLatin1_aae02 13 = .ok (.iconst 1, 1) := by decide +kernel
theorem dJ5_isLatin1_aae02_14 : decode cJ5_isLatin1_aae02 14 = .ok (.goto 4, 3) := by decide +kernel
theorem dJ5_isLatin1_aae02_17 : decode cJ5_isLatin1_aae02 17 = .ok (.iconst 0, 1) := by decide +kernel
theorem dJ5_isLatin1_aae02_18 : decode cJ5_isLatin1_aae02 18 = .ok (.ireturn, 1) := by decide +kernel
theorem dJ1_canEncode_fc78d_0 : decode cJ1_canEncode_fc78d 0 = .ok (.iload_n 0, 1) := by decide +kernel
theorem dJ1_canEncode_fc78d_1 : decode cJ1_canEncode_fc78d 1 = .ok (.sipush 255, 3) := by decide +kernel
theorem dJ1_canEncode_fc78d_4 : decode cJ1_canEncode_fc78d 4 = .ok (.if_icmp .gt 7, 3) := by decide +kernel
theorem dJ1_canEncode_fc78d_7 : decode cJ1_canEncode_fc78d 7 = .ok (.iconst 1, 1) := by decide +kernel
theorem dJ1_canEncode_fc78d_8 : decode cJ1_canEncode_fc78d 8 = .ok (.goto 4, 3) := by decide +kernel
theorem dJ1_canEncode_fc78d_11 : decode cJ1_canEncode_fc78d 11 = .ok (.iconst 0, 1) := by decide +kernel
theorem dJ1_canEncode_fc78d_12 : decode cJ1_canEncode_fc78d 12 = .ok (.ireturn, 1) := by decide +kernel
theorem dJ6_getChars_ba4f3_0 : decode cJ6_getChars_ba4f3 0 = .ok (.iload_n 1, 1) := by decide +kernel
theorem dJ6_getChars_ba4f3_1 : decode cJ6_getChars_ba4f3 1 = .ok (.istore 5, 2) := by decide +kernel
theorem dJ6_getChars_ba4f3_3 : decode cJ6_getChars_ba4f3 3 = .ok (.iload_n 0, 1) := by decide +kernel
theorem dJ6_getChars_ba4f3_4 : decode cJ6_getChars_ba4f3 4 = .ok (.ifCond .ge 7, 3) := by decide +kernel
theorem dJ6_getChars_ba4f3_7 : decode cJ6_getChars_ba4f3 7 = .ok (.iconst 1, 1) := by decide +kernel
theorem dJ6_getChars_ba4f3_8 : decode cJ6_getChars_ba4f3 8 = .ok (.goto 4, 3) := by decide +kernel
theorem dJ6_getChars_ba4f3_11 : decode cJ6_getChars_ba4f3 11 = .ok (.iconst 0, 1) := by decide +kernel
theorem dJ6_getChars_ba4f3_12 : decode cJ6_getChars_ba4f3 12 = .ok (.istore 6, 2) := by decide +kernel
theorem dJ6_getChars_ba4f3_14 : decode cJ6_getChars_ba4f3 14 = .ok (.iload 6, 2) := by decide +kernel
theorem dJ6_getChars_ba4f3_16 : decode cJ6_getChars_ba4f3 16 = .ok (.ifCond .ne 6, 3) := by decide +kernel
theorem dJ6_getChars_ba4f3_19 : decode cJ6_getChars_ba4f3 19 = .ok (.iload_n 0, 1) := by decide +kernel
theorem dJ6_getChars_ba4f3_20 : decode cJ6_getChars_ba4f3 20 = .ok (.ineg, 1) := by decide +kernel
theorem dJ6_getChars_ba4f3_21 : decode cJ6_getChars_ba4f3 21 = .ok (.istore_n 0, 1) := by decide +kernel
theorem dJ6_getChars_ba4f3_22 : decode cJ6_getChars_ba4f3 22 = .ok (.iload_n 0, 1) := by decide +kernel
theorem dJ6_getChars_ba4f3_23 : decode cJ6_getChars_ba4f3 23 = .ok (.bipush (-100), 2) := by decide +kernel
theorem dJ6_getChars_ba4f3_25 : decode cJ6_getChars_ba4f3 25 = .ok (.if_icmp .gt 47, 3) := by decide +kernel
theorem dJ6_getChars_ba4f3_28 : decode cJ6_getChars_ba4f3 28 = .ok (.iload_n 0, 1) := by decide +kernel
theorem dJ6_getChars_ba4f3_29 : decode cJ6_getChars_ba4f3 29 = .ok (.bipush 100, 2) := by decide +kernel
theorem dJ6_getChars_ba4f3_31 : decode cJ6_getChars_ba4f3 31 = .ok (.idiv, 1) := by decide +kernel
theorem dJ6_getChars_ba4f3_32 : decode cJ6_getChars_ba4f3 32 = .ok (.istore_n 3, 1) := by decide +kernel
theorem dJ6_getChars_ba4f3_33 : decode cJ6_getChars_ba4f3 33 = .ok (.iload_n 3, 1) := by decide +kernel
theorem dJ6_getChars_ba4f3_34 : decode cJ6_getChars_ba4f3 34 = .ok (.bipush 100, 2) := by decide +kernel
theorem dJ6_getChars_ba4f3_36 : decode cJ6_getChars_ba4f3 36 = .ok (.imul, 1) := by decide +kernel
theorem dJ6_getChars_ba4f3_37 : decode cJ6_getChars_ba4f3 37 = .ok (.iload_n 0, 1) := by decide +kernel
theorem dJ6_getChars_ba4f3_38 : decode cJ6_getChars_ba4f3 38 = .ok (.isub, 1) := by decide +kernel
theorem dJ6_getChars_ba4f3_39 : decode cJ6_getChars_ba4f3 39 = .ok (.istore 4, 2) := by decide +kernel
theorem dJ6_getChars_ba4f3_41 : decode cJ6_getChars_ba4f3 41 = .ok (.iload_n 3, 1) := by decide +kernel
theorem dJ6_getChars_ba4f3_42 : decode cJ6_getChars_ba4f3 42 = .ok (.istore_n 0, 1) := by decide +kernel
theorem dJ6_getChars_ba4f3_43 : decode cJ6_getChars_ba4f3 43 = .ok (.aload_n 2, 1) := by decide +kernel
theorem dJ6_getChars_ba4f3_44 : decode cJ6_getChars_ba4f3 44 = .ok (.iinc 5 (-1), 3) := by decide +kernel
theorem dJ6_getChars_ba4f3_47 : decode cJ6_getChars_ba4f3 47 = .ok (.iload 5, 2) := by decide +kernel
theorem dJ6_getChars_ba4f3_49 : decode cJ6_getChars_ba4f3 49 = .ok (.getstatic 83, 3) := by decide +kernel
theorem dJ6_getChars_ba4f3_52 : decode cJ6_getChars_ba4f3 52 = .ok (.iload 4, 2) := by decide +kernel
theorem dJ6_getChars_ba4f3_54 : decode cJ6_getChars_ba4f3 54 = .ok (.baload, 1) := by decide +kernel
theorem dJ6_getChars_ba4f3_55 : decode cJ6_getChars_ba4f3 55 = .ok (.bastore, 1) := by decide +kernel
theorem dJ6_getChars_ba4f3_56 : decode cJ6_getChars_ba4f3 56 = .ok (.aload_n 2, 1) := by decide +kernel
theorem dJ6_getChars_ba4f3_57 : decode cJ6_getChars_ba4f3 57 = .ok (.iinc 5 (-1), 3) := by decide +kernel
theorem dJ6_getChars_ba4f3_60 : decode cJ6_getChars_ba4f3 60 = .ok (.iload 5, 2) := by decide +kernel
theorem dJ6_getChars_ba4f3_62 : decode cJ6_getChars_ba4f3 62 = .ok (.getstatic 87, 3) := by decide +kernel
theorem dJ6_getChars_ba4f3_65 : decode cJ6_getChars_ba4f3 65 = .ok (.iload 4, 2) := by decide +kernel
theorem dJ6_getChars_ba4f3_67 : decode cJ6_getChars_ba4f3 67 = .ok (.baload, 1) := by decide +kernel
theorem dJ6_getChars_ba4f3_68 : decode cJ6_getChars_ba4f3 68 = .ok (.bastore, 1) := by decide +kernel
theorem dJ6_getChars_ba4f3_69 : decode cJ6_getChars_ba4f3 69 = .ok (.goto (-47), 3) := by decide +kernel
theorem dJ6_getChars_ba4f3_72 : decode cJ6_getChars_ba4f3 72 = .ok (.aload_n 2, 1) := by decide +kernel
theorem dJ6_getChars_ba4f3_73 : decode cJ6_getChars_ba4f3 73 = .ok (.iinc 5 (-1), 3) := by decide +kernel
theorem dJ6_getChars_ba4f3_76 : decode cJ6_getChars_ba4f3 76 = .ok (.iload 5, 2) := by decide +kernel
theorem dJ6_getChars_ba4f3_78 : decode cJ6_getChars_ba4f3 78 = .ok (.getstatic 83, 3) := by decide +kernel
theorem dJ6_getChars_ba4f3_81 : decode cJ6_getChars_ba4f3 81 = .ok (.iload_n 0, 1) := by decide +kernel
theorem dJ6_getChars_ba4f3_82 : decode cJ6_getChars_ba4f3 82 = .ok (.ineg, 1) := by decide +kernel
theorem dJ6_getChars_ba4f3_83 : decode cJ6_getChars_ba4f3 83 = .ok (.baload, 1) := by decide +kernel
theorem dJ6_getChars_ba4f3_84 : decode cJ6_getChars_ba4f3 84 = .ok (.bastore, 1) := by decide +kernel
theorem dJ6_getChars_ba4f3_85 : decode cJ6_getChars_ba4f3 85 = .ok (.iload_n 0, 1) := by decide +kernel
theorem dJ6_getChars_ba4f3_86 : decode cJ6_getChars_ba4f3 86 = .ok (.bipush (-9), 2) := by decide +kernel
theorem dJ6_getChars_ba4f3_88 : decode cJ6_getChars_ba4f3 88 = .ok (.if_icmp .ge 16, 3) := by decide +kernel
theorem dJ6_getChars_ba4f3_91 : decode cJ6_getChars_ba4f3 91 = .ok (.aload_n 2, 1) := by decide +kernel
theorem dJ6_getChars_ba4f3_92 : decode cJ6_getChars_ba4f3 92 = .ok (.iinc 5 (-1), 3) := by decide +kernel
theorem dJ6_getChars_ba4f3_95 : decode cJ6_getChars_ba4f3 95 = .ok (.iload 5, 2) := by decide +kernel
theorem dJ6_getChars_ba4f3_97 : decode cJ6_getChars_ba4f3 97 = .ok (.getstatic 87, 3) := by decide +kernel
theorem dJ6_getChars_ba4f3_100 : decode cJ6_getChars_ba4f3 100 = .ok (.iload_n 0, 1) := by decide +kernel
theorem dJ6_getChars_ba4f3_101 : decode cJ6_getChars_ba4f3 101 = .ok (.ineg, 1) := by decide +kernel
theorem dJ6_getChars_ba4f3_102 : decode cJ6_getChars_ba4f3 102 = .ok (.baload, 1) := by decide +kernel
theorem dJ6_getChars_ba4f3_103 : decode cJ6_getChars_ba4f3 103 = .ok (.bastore, 1) := by decide +kernel
theorem dJ6_getChars_ba4f3_104 : decode cJ6_getChars_ba4f3 104 = .ok (.iload 6, 2) := by decide +kernel
theorem dJ6_getChars_ba4f3_106 : decode cJ6_getChars_ba4f3 106 = .ok (.ifCond .eq 12, 3) := by decide +kernel
theorem dJ6_getChars_ba4f3_109 : decode cJ6_getChars_ba4f3 109 = .ok (.aload_n 2, 1) := by decide +kernel
theorem dJ6_getChars_ba4f3_110 : decode cJ6_getChars_ba4f3 110 = .ok (.iinc 5 (-1), 3) := by decide +kernel
theorem dJ6_getChars_ba4f3_113 : decode cJ6_getChars_ba4f3 113 = .ok (.iload 5, 2) := by decide +kernel
theorem dJ6_getChars_ba4f3_115 : decode cJ6_getChars_ba4f3 115 = .ok (.bipush 45, 2) := by decide +kernel
theorem dJ6_getChars_ba4f3_117 : decode cJ6_getChars_ba4f3 117 = .ok (.bastore, 1) := by decide +kernel
theorem dJ6_getChars_ba4f3_118 : decode cJ6_getChars_ba4f3 118 = .ok (.iload 5, 2) := by decide +kernel
theorem dJ6_getChars_ba4f3_120 : decode cJ6_getChars_ba4f3 120 = .ok (.ireturn, 1) := by decide +kernel
theorem dJ5_append_c97b9_0 : decode cJ5_append_c97b9 0 = .ok (.aload_n 0, 1) := by decide +kernel
theorem dJ5_append_c97b9_1 : decode cJ5_append_c97b9 1 = .ok (.getfield 79, 3) := by decide +kernel
theorem dJ5_append_c97b9_4 : decode cJ5_append_c97b9 4 = .ok (.istore_n 2, 1) := by decide +kernel
theorem dJ5_append_c97b9_5 : decode cJ5_append_c97b9 5 = .ok (.iload_n 2, 1) := by decide +kernel
theorem dJ5_append_c97b9_6 : decode cJ5_append_c97b9 6 = .ok (.iload_n 1, 1) := by decide +kernel
theorem dJ5_append_c97b9_7 : decode cJ5_append_c97b9 7 = .ok (.invokestatic 245, 3) := by decide +kernel
theorem dJ5_append_c97b9_10 : decode cJ5_append_c97b9 10 = .ok (.iadd, 1) := by decide +kernel
theorem dJ5_append_c97b9_11 : decode cJ5_append_c97b9 11 = .ok (.istore_n 3, 1) := by decide +kernel
theorem dJ5_append_c97b9_12 : decode cJ5_append_c97b9 12 = .ok (.aload_n 0, 1) := by decide +kernel
theorem dJ5_append_c97b9_13 : decode cJ5_append_c97b9 13 = .ok (.iload_n 3, 1) := by decide +kernel
theorem dJ5_append_c97b9_14 : decode cJ5_append_c97b9 14 = .ok (.invokevirtual 100, 3) := by decide +kernel
theorem dJ5_append_c97b9_17 : decode cJ5_append_c97b9 17 = .ok (.aload_n 0, 1) := by decide +kernel
theorem dJ5_append_c97b9_18 : decode cJ5_append_c97b9 18 = .ok (.invokevirtual 83, 3) := by decide +kernel
theorem dJ5_append_c97b9_21 : decode cJ5_append_c97b9 21 = .ok (.ifCond .eq 16, 3) := by decide +kernel
theorem dJ5_append_c97b9_24 : decode cJ5_append_c97b9 24 = .ok (.iload_n 1, 1) := by decide +kernel
theorem dJ5_append_c97b9_25 : decode cJ5_append_c97b9 25 = .ok (.iload_n 3, 1) := by decide +kernel
theorem dJ5_append_c97b9_26 : decode cJ5_append_c97b9 26 = .ok (.aload_n 0, 1) := by decide +kernel
theorem dJ5_append_c97b9_27 : decode cJ5_append_c97b9 27 = .ok (.getfield 15, 3) := by decide +kernel
theorem dJ5_append_c97b9_30 : decode cJ5_append_c97b9 30 = .ok (.invokestatic 248, 3) := by decide +kernel
theorem dJ5_append_c97b9_33 : decode cJ5_append_c97b9 33 = .ok (.pop, 1) := by decide +kernel
theorem dJ5_append_c97b9_34 : decode cJ5_append_c97b9 34 = .ok (.goto 14, 3) := by decide +kernel
theorem dJ5_append_c97b9_37 : decode cJ5_append_c97b9 37 = .ok (.iload_n 1, 1) := by decide +kernel
theorem dJ5_append_c97b9_38 : decode cJ5_append_c97b9 38 = .ok (.iload_n 2, 1) := by decide +kernel
theorem dJ5_append_c97b9_39 : decode cJ5_append_c97b9 39 = .ok (.iload_n 3, 1) := by decide +kernel
theorem dJ5_append_c97b9_40 : decode cJ5_append_c97b9 40 = .ok (.aload_n 0, 1) := by decide +kernel
theorem dJ5_append_c97b9_41 : decode cJ5_append_c97b9 41 = .ok (.getfield 15, 3) := by decide +kernel
theorem dJ5_append_c97b9_44 : decode cJ5_append_c97b9 44 = .ok (.invokestatic 251, 3) := by decide +kernel
theorem dJ5_append_c97b9_47 : decode cJ5_append_c97b9 47 = .ok (.pop, 1) := by decide +kernel
theorem dJ5_append_c97b9_48 : decode cJ5_append_c97b9 48 = .ok (.aload_n 0, 1) := by decide +kernel
theorem dJ5_append_c97b9_49 : decode cJ5_append_c97b9 49 = .ok (.iload_n 3, 1) := by decide +kernel
theorem dJ5_append_c97b9_50 : decode cJ5_append_c97b9 50 = .ok (.putfield 79, 3) := by decide +kernel
theorem dJ5_append_c97b9_53 : decode cJ5_append_c97b9 53 = .ok (.aload_n 0, 1) := by decide +kernel
theorem dJ5_append_c97b9_54 : decode cJ5_append_c97b9 54 = .ok (.areturn, 1) := by decide +kernel
theorem dJ5_append_3fe6f_0 : decode cJ5_append_3fe6f 0 = .ok (.aload_n 0, 1) := by decide +kernel
theorem dJ5_append_3fe6f_1 : decode cJ5_append_3fe6f 1 = .ok (.aload_n 0, 1) := by decide +kernel
theorem dJ5_append_3fe6f_2 : decode cJ5_append_3fe6f 2 = .ok (.getfield 79, 3) := by decide +kernel
theorem dJ5_append_3fe6f_5 : decode cJ5_append_3fe6f 5 = .ok (.iconst 1, 1) := by decide +kernel
theorem dJ5_append_3fe6f_6 : decode cJ5_append_3fe6f 6 = .ok (.iadd, 1) := by decide +kernel
theorem dJ5_append_3fe6f_7 : decode cJ5_append_3fe6f 7 = .ok (.invokevirtual 100, 3) := by decide +kernel
theorem dJ5_append_3fe6f_10 : decode cJ5_append_3fe6f 10 = .ok (.aload_n 0, 1) := by decide +kernel
theorem dJ5_append_3fe6f_11 : decode cJ5_append_3fe6f 11 = .ok (.invokevirtual 83, 3) := by decide +kernel
theorem dJ5_append_3fe6f_14 : decode cJ5_append_3fe6f 14 = .ok (.ifCond .eq 31, 3) := by decide +kernel
theorem dJ5_append_3fe6f_17 : decode cJ5_append_3fe6f 17 = .ok (.iload_n 1, 1) := by decide +kernel
theorem dJ5_append_3fe6f_18 : decode cJ5_append_3fe6f 18 = .ok (.invokestatic 191, 3) := by decide +kernel
theorem dJ5_append_3fe6f_21 : decode cJ5_append_3fe6f 21 = .ok (.ifCond .eq 24, 3) := by decide +kernel
theorem dJ5_append_3fe6f_24 : decode cJ5_append_3fe6f 24 = .ok (.aload_n 0, 1) := by decide +kernel
theorem dJ5_append_3fe6f_25 : decode cJ5_append_3fe6f 25 = .ok (.getfield 15, 3) := by decide +kernel
theorem dJ5_append_3fe6f_28 : decode cJ5_append_3fe6f 28 = .ok (.aload_n 0, 1) := by decide +kernel
theorem dJ5_append_3fe6f_29 : decode cJ5_append_3fe6f 29 = .ok (.dup, 1) := by decide +kernel
theorem dJ5_append_3fe6f_30 : decode cJ5_append_3fe6f 30 = .ok (.getfield 79, 3) := by decide +kernel
theorem dJ5_append_3fe6f_33 : decode cJ5_append_3fe6f 33 = .ok (.dup_x1, 1) := by decide +kernel
theorem dJ5_append_3fe6f_34 : decode cJ5_append_3fe6f 34 = .ok (.iconst 1, 1) := by decide +kernel
theorem dJ5_append_3fe6f_35 : decode cJ5_append_3fe6f 35 = .ok (.iadd, 1) := by decide +kernel
theorem dJ5_append_3fe6f_36 : decode cJ5_append_3fe6f 36 = .ok (.putfield 79, 3) := by decide +kernel
theorem dJ5_append_3fe6f_39 : decode cJ5_append_3fe6f 39 = .ok (.iload_n 1, 1) := by decide +kernel
theorem dJ5_append_3fe6f_40 : decode cJ5_append_3fe6f 40 = .ok (.i2b, 1) := by decide +kernel
theorem dJ5_append_3fe6f_41 : decode cJ5_append_3fe6f 41 = .ok (.bastore, 1) := by decide +kernel
theorem dJ5_append_3fe6f_42 : decode cJ5_append_3fe6f 42 = .ok (.goto 33, 3) := by decide +kernel
theorem dJ5_append_3fe6f_45 : decode cJ5_append_3fe6f 45 = .ok (.aload_n 0, 1) := by decide +kernel
theorem dJ5_append_3fe6f_46 : decode cJ5_append_3fe6f 46 = .ok (.invokevirtual 83, 3) := by decide +kernel
theorem dJ5_append_3fe6f_49 : decode cJ5_append_3fe6f 49 = .ok (.ifCond .eq 7, 3) := by decide +kernel
theorem dJ5_append_3fe6f_52 : decode cJ5_append_3fe6f 52 = .ok (.aload_n 0, 1) := by decide +kernel
theorem dJ5_append_3fe6f_53 : decode cJ5_append_3fe6f 53 = .ok (.invokevirtual 195, 3) := by decide +kernel
theorem dJ5_append_3fe6f_56 : decode cJ5_append_3fe6f 56 = .ok (.aload_n 0, 1) := by decide +kernel
theorem dJ5_append_3fe6f_57 : decode cJ5_append_3fe6f 57 = .ok (.getfield 15, 3) := by decide +kernel
theorem dJ5_append_3fe6f_60 : decode cJ5_append_3fe6f 60 = .ok (.aload_n 0, 1) := by decide +kernel
theorem dJ5_append_3fe6f_61 : decode cJ5_append_3fe6f 61 = .ok (.dup, 1) := by decide +kernel
theorem dJ5_append_3fe6f_62 : decode cJ5_append_3fe6f 62 = .ok (.getfield 79, 3) := by decide +kernel
theorem dJ5_append_3fe6f_65 : decode cJ5_append_3fe6f 65 = .ok (.dup_x1, 1) := by decide +kernel
theorem dJ5_append_3fe6f_66 : decode cJ5_append_3fe6f 66 = .ok (.iconst 1, 1) := by decide +kernel
theorem dJ5_append_3fe6f_67 : decode cJ5_append_3fe6f 67 = .ok (.iadd, 1) := by decide +kernel
theorem dJ5_append_3fe6f_68 : decode cJ5_append_3fe6f 68 = .ok (.putfield 79, 3) := by decide +kernel
theorem dJ5_append_3fe6f_71 : decode cJ5_append_3fe6f 71 = .ok (.iload_n 1, 1) := by decide +kernel
theorem dJ5_append_3fe6f_72 : decode cJ5_append_3fe6f 72 = .ok (.invokestatic 197, 3) := by decide +kernel
theorem dJ5_append_3fe6f_75 : decode cJ5_append_3fe6f 75 = .ok (.aload_n 0, 1) := by decide +kernel
theorem dJ5_append_3fe6f_76 : decode cJ5_append_3fe6f 76 = .ok (.areturn, 1) := by decide +kernel
theorem dJ4_append_bf812_0 : decode cJ4_append_bf812 0 = .ok (.aload_n 0, 1) := by decide +kernel
theorem dJ4_append_bf812_1 : decode cJ4_append_bf812 1 = .ok (.iload_n 1, 1) := by decide +kernel
theorem dJ4_append_bf812_2 : decode cJ4_append_bf812 2 = .ok (.invokespecial 53, 3) := by decide +kernel
theorem dJ4_append_bf812_5 : decode cJ4_append_bf812 5 = .ok (.pop, 1) := by decide +kernel
theorem dJ4_append_bf812_6 : decode cJ4_append_bf812 6 = .ok (.aload_n 0, 1) := by decide +kernel
theorem dJ4_append_bf812_7 : decode cJ4_append_bf812 7 = .ok (.areturn, 1) := by decide +kernel
theorem dJ4_append_cf468_0 : decode cJ4_append_cf468 0 = .ok (.aload_n 0, 1) := by decide +kernel
theorem dJ4_append_cf468_1 : decode cJ4_append_cf468 1 = .ok (.iload_n 1, 1) := by decide +kernel
theorem dJ4_append_cf468_2 : decode cJ4_append_cf468 2 = .ok (.invokespecial 50, 3) := by decide +kernel
theorem dJ4_append_cf468_5 : decode cJ4_append_cf468 5 = .ok (.pop, 1) := by decide +kernel
theorem dJ4_append_cf468_6 : decode cJ4_append_cf468 6 = .ok (.aload_n 0, 1) := by decide +kernel
theorem dJ4_append_cf468_7 : decode cJ4_append_cf468 7 = .ok (.areturn, 1) := by decide +kernel
theorem dJ5_init_d00df_0 : decode cJ5_init_d00df 0 = .ok (.aload_n 0, 1) := by decide +kernel
theorem dJ5_init_d00df_1 : decode cJ5_init_d00df 1 = .ok (.invokespecial 3, 3) := by decide +kernel
theorem dJ5_init_d00df_4 : decode cJ5_init_d00df 4 = .ok (.getstatic 18, 3) := by decide +kernel
theorem dJ5_init_d00df_7 : decode cJ5_init_d00df 7 = .ok (.ifCond .eq 18, 3) := by decide +kernel
theorem dJ5_init_d00df_10 : decode cJ5_init_d00df 10 = .ok (.aload_n 0, 1) := by decide +kernel
theorem dJ5_init_d00df_11 : decode cJ5_init_d00df 11 = .ok (.iload_n 1, 1) := by decide +kernel
theorem dJ5_init_d00df_12 : decode cJ5_init_d00df 12 = .ok (.newarray .byte, 2) := by decide +kernel
theorem dJ5_init_d00df_14 : decode cJ5_init_d00df 14 = .ok (.putfield 15, 3) := by decide +kernel
theorem dJ5_init_d00df_17 : decode cJ5_init_d00df 17 = .ok (.aload_n 0, 1) := by decide +kernel
theorem dJ5_init_d00df_18 : decode cJ5_init_d00df 18 = .ok (.iconst 0, 1) := by decide +kernel
theorem dJ5_init_d00df_19 : decode cJ5_init_d00df 19 = .ok (.putfield 22, 3) := by decide +kernel
theorem dJ5_init_d00df_22 : decode cJ5_init_d00df 22 = .ok (.goto 16, 3) := by decide +kernel
theorem dJ5_init_d00df_25 : decode cJ5_init_d00df 25 = .ok (.aload_n 0, 1) := by decide +kernel
theorem dJ5_init_d00df_26 : decode cJ5_init_d00df 26 = .ok (.iload_n 1, 1) := by decide +kernel
theorem dJ5_init_d00df_27 : decode cJ5_init_d00df 27 = .ok (.invokestatic 26, 3) := by decide +kernel
theorem dJ5_init_d00df_30 : decode cJ5_init_d00df 30 = .ok (.putfield 15, 3) := by decide +kernel
theorem dJ5_init_d00df_33 : decode cJ5_init_d00df 33 = .ok (.aload_n 0, 1) := by decide +kernel
theorem dJ5_init_d00df_34 : decode cJ5_init_d00df 34 = .ok (.iconst 1, 1) := by decide +kernel
theorem dJ5_init_d00df_35 : decode cJ5_init_d00df 35 = .ok (.putfield 22, 3) := by decide +kernel
theorem dJ5_init_d00df_38 : decode cJ5_init_d00df 38 = .ok (.return_, 1) := by decide +kernel
theorem dJ4_init_da8c8_0 : decode cJ4_init_da8c8 0 = .ok (.aload_n 0, 1) := by decide +kernel
theorem dJ4_init_da8c8_1 : decode cJ4_init_da8c8 1 = .ok (.bipush 16, 2) := by decide +kernel
theorem dJ4_init_da8c8_3 : decode cJ4_init_da8c8 3 = .ok (.invokespecial 1, 3) := by decide +kernel
theorem dJ4_init_da8c8_6 : decode cJ4_init_da8c8 6 = .ok (.return_, 1) := by decide +kernel
theorem dJ5_getValue_6d5f1_0 : decode cJ5_getValue_6d5f1 0 = .ok (.aload_n 0, 1) := by decide +kernel
theorem dJ5_getValue_6d5f1_1 : decode cJ5_getValue_6d5f1 1 = .ok (.getfield 15, 3) := by decide +kernel
theorem dJ5_getValue_6d5f1_4 : decode cJ5_getValue_6d5f1 4 = .ok (.areturn, 1) := by decide +kernel
theorem dJ5_length_8abf5_0 : decode cJ5_length_8abf5 0 = .ok (.aload_n 0, 1) := by decide +kernel
theorem dJ5_length_8abf5_1 : decode cJ5_length_8abf5 1 = .ok (.getfield 79, 3) := by decide +kernel
theorem dJ5_length_8abf5_4 : decode cJ5_length_8abf5 4 = .ok (.ireturn, 1) := by decide +kernel
theorem dJ4_length_8abf5_0 : decode cJ4_length_8abf5 0 = .ok (.aload_n 0, 1) := by decide +kernel
theorem dJ4_length_8abf5_1 : decode cJ4_length_8abf5 1 = .ok (.invokespecial 343, 3) := by decide +kernel
theorem dJ4_length_8abf5_4 : decode cJ4_length_8abf5 4 = .ok (.ireturn, 1) := by decide +kernel
theorem dJ7_checkLength_df160_0 : decode cJ7_checkLength_df160 0 = .ok (.iload_n 1, 1) := by decide +kernel
theorem dJ7_checkLength_df160_1 : decode cJ7_checkLength_df160 1 = .ok (.iload_n 0, 1) := by decide +kernel
theorem dJ7_checkLength_df160_2 : decode cJ7_checkLength_df160 2 = .ok (.if_icmp .ge 35, 3) := by decide +kernel
theorem dJ7_checkLength_df160_5 : decode cJ7_checkLength_df160 5 = .ok (.new 43, 3) := by decide +kernel
theorem dJ7_checkLength_df160_8 : decode cJ7_checkLength_df160 8 = .ok (.dup, 1) := by decide +kernel
theorem dJ7_checkLength_df160_9 : decode cJ7_checkLength_df160 9 = .ok (.new 45, 3) := by decide +kernel
theorem dJ7_checkLength_df160_12 : decode cJ7_checkLength_df160 12 = .ok (.dup, 1) := by decide +kernel
theorem dJ7_checkLength_df160_13 : decode cJ7_checkLength_df160 13 = .ok (.invokespecial 47, 3) := by decide +kernel
theorem dJ7_checkLength_df160_16 : decode cJ7_checkLength_df160 16 = .ok (.iload_n 0, 1) := by decide +kernel
theorem dJ7_checkLength_df160_17 : decode cJ7_checkLength_df160 17 = .ok (.invokevirtual 54, 3) := by decide +kernel
theorem dJ7_checkLength_df160_20 : decode cJ7_checkLength_df160 20 = .ok (.ldc_w 337, 3) := by decide +kernel
theorem dJ7_checkLength_df160_23 : decode cJ7_checkLength_df160 23 = .ok (.invokevirtual 50, 3) := by decide +kernel
theorem dJ7_checkLength_df160_26 : decode cJ7_checkLength_df160 26 = .ok (.iload_n 1, 1) := by decide +kernel
theorem dJ7_checkLength_df160_27 : decode cJ7_checkLength_df160 27 = .ok (.invokevirtual 54, 3) := by decide +kernel
theorem dJ7_checkLength_df160_30 : decode cJ7_checkLength_df160 30 = .ok (.invokevirtual 61, 3) := by decide +kernel
theorem dJ7_checkLength_df160_33 : decode cJ7_checkLength_df160 33 = .ok (.invokespecial 65, 3) := by decide +kernel
theorem dJ7_checkLength_df160_36 : decode cJ7_checkLength_df160 36 = .ok (.athrow, 1) := by decide +kernel
theorem dJ7_checkLength_df160_37 : decode cJ7_checkLength_df160 37 = .ok (.return_, 1) := by decide +kernel
theorem dJ7_copyOfRangeByte_39247_0 : decode cJ7_copyOfRangeByte_39247 0 = .ok (.iload_n 1, 1) := by decide +kernel
theorem dJ7_copyOfRangeByte_39247_1 : decode cJ7_copyOfRangeByte_39247 1 = .ok (.iload_n 2, 1) := by decide +kernel
theorem dJ7_copyOfRangeByte_39247_2 : decode cJ7_copyOfRangeByte_39247 2 = .ok (.invokestatic 343, 3) := by decide +kernel
theorem dJ7_copyOfRangeByte_39247_5 : decode cJ7_copyOfRangeByte_39247 5 = .ok (.iload_n 2, 1) := by decide +kernel
theorem dJ7_copyOfRangeByte_39247_6 : decode cJ7_copyOfRangeByte_39247 6 = .ok (.iload_n 1, 1) := by decide +kernel
theorem dJ7_copyOfRangeByte_39247_7 : decode cJ7_copyOfRangeByte_39247 7 = .ok (.isub, 1) := by decide +kernel
theorem dJ7_copyOfRangeByte_39247_8 : decode cJ7_copyOfRangeByte_39247 8 = .ok (.istore_n 3, 1) := by decide +kernel
theorem dJ7_copyOfRangeByte_39247_9 : decode cJ7_copyOfRangeByte_39247 9 = .ok (.iload_n 3, 1) := by decide +kernel
theorem dJ7_copyOfRangeByte_39247_10 : decode cJ7_copyOfRangeByte_39247 10 = .ok (.newarray .byte, 2) := by decide +kernel
theorem dJ7_copyOfRangeByte_39247_12 : decode cJ7_copyOfRangeByte_39247 12 = .ok (.astore 4, 2) := by decide +kernel
theorem dJ7_copyOfRangeByte_39247_14 : decode cJ7_copyOfRangeByte_39247 14 = .ok (.aload_n 0, 1) := by decide +kernel
theorem dJ7_copyOfRangeByte_39247_15 : decode cJ7_copyOfRangeByte_39247 15 = .ok (.iload_n 1, 1) := by decide +kernel
theorem dJ7_copyOfRangeByte_39247_16 : decode cJ7_copyOfRangeByte_39247 16 = .ok (.aload 4, 2) := by decide +kernel
theorem dJ7_copyOfRangeByte_39247_18 : decode cJ7_copyOfRangeByte_39247 18 = .ok (.iconst 0, 1) := by decide +kernel
theorem dJ7_copyOfRangeByte_39247_19 : decode cJ7_copyOfRangeByte_39247 19 = .ok (.aload_n 0, 1) := by decide +kernel
theorem dJ7_copyOfRangeByte_39247_20 : decode cJ7_copyOfRangeByte_39247 20 = .ok (.arraylength, 1) := by decide +kernel
theorem dJ7_copyOfRangeByte_39247_21 : decode cJ7_copyOfRangeByte_39247 21 = .ok (.iload_n 1, 1) := by decide +kernel
theorem dJ7_copyOfRangeByte_39247_22 : decode cJ7_copyOfRangeByte_39247 22 = .ok (.isub, 1) := by decide +kernel
theorem dJ7_copyOfRangeByte_39247_23 : decode cJ7_copyOfRangeByte_39247 23 = .ok (.iload_n 3, 1) := by decide +kernel
theorem dJ7_copyOfRangeByte_39247_24 : decode cJ7_copyOfRangeByte_39247 24 = .ok (.invokestatic 304, 3) := by decide +kernel
theorem dJ7_copyOfRangeByte_39247_27 : decode cJ7_copyOfRangeByte_39247 27 = .ok (.invokestatic 150, 3) := by decide +kernel
theorem dJ7_copyOfRangeByte_39247_30 : decode cJ7_copyOfRangeByte_39247 30 = .ok (.aload 4, 2) := by decide +kernel
theorem dJ7_copyOfRangeByte_39247_32 : decode cJ7_copyOfRangeByte_39247 32 = .ok (.areturn, 1) := by decide +kernel
theorem dJ7_copyOfRange_39247_0 : decode cJ7_copyOfRange_39247 0 = .ok (.iload_n 1, 1) := by decide +kernel
theorem dJ7_copyOfRange_39247_1 : decode cJ7_copyOfRange_39247 1 = .ok (.ifCond .ne 9, 3) := by decide +kernel
theorem dJ7_copyOfRange_39247_4 : decode cJ7_copyOfRange_39247 4 = .ok (.iload_n 2, 1) := by decide +kernel
theorem dJ7_copyOfRange_39247_5 : decode cJ7_copyOfRange_39247 5 = .ok (.aload_n 0, 1) := by decide +kernel
theorem dJ7_copyOfRange_39247_6 : decode cJ7_copyOfRange_39247 6 = .ok (.arraylength, 1) := by decide +kernel
theorem dJ7_copyOfRange_39247_7 : decode cJ7_copyOfRange_39247 7 = .ok (.if_icmp .eq 10, 3) := by decide +kernel
theorem dJ7_copyOfRange_39247_10 : decode cJ7_copyOfRange_39247 10 = .ok (.aload_n 0, 1) := by decide +kernel
theorem dJ7_copyOfRange_39247_11 : decode cJ7_copyOfRange_39247 11 = .ok (.iload_n 1, 1) := by decide +kernel
theorem dJ7_copyOfRange_39247_12 : decode cJ7_copyOfRange_39247 12 = .ok (.iload_n 2, 1) := by decide +kernel
theorem dJ7_copyOfRange_39247_13 : decode cJ7_copyOfRange_39247 13 = .ok (.invokestatic 339, 3) := by decide +kernel
theorem dJ7_copyOfRange_39247_16 : decode cJ7_copyOfRange_39247 16 = .ok (.areturn, 1) := by decide +kernel
theorem dJ7_copyOfRange_39247_17 : decode cJ7_copyOfRange_39247 17 = .ok (.aload_n 0, 1) := by decide +kernel
theorem dJ7_copyOfRange_39247_18 : decode cJ7_copyOfRange_39247 18 = .ok (.invokevirtual 310, 3) := by decide +kernel
theorem dJ7_copyOfRange_39247_21 : decode cJ7_copyOfRange_39247 21 = .ok (.checkcast 311, 3) := by decide +kernel
theorem dJ7_copyOfRange_39247_24 : decode cJ7_copyOfRange_39247 24 = .ok (.areturn, 1) := by decide +kernel
theorem dJ0_init_db425_0 : decode cJ0_init_db425 0 = .ok (.aload_n 0, 1) := by decide +kernel
theorem dJ0_init_db425_1 : decode cJ0_init_db425 1 = .ok (.invokespecial 1, 3) := by decide +kernel
theorem dJ0_init_db425_4 : decode cJ0_init_db425 4 = .ok (.aload_n 1, 1) := by decide +kernel
theorem dJ0_init_db425_5 : decode cJ0_init_db425 5 = .ok (.invokevirtual 552, 3) := by decide +kernel
theorem dJ0_init_db425_8 : decode cJ0_init_db425 8 = .ok (.astore_n 3, 1) := by decide +kernel
theorem dJ0_init_db425_9 : decode cJ0_init_db425 9 = .ok (.aload_n 1, 1) := by decide +kernel
theorem dJ0_init_db425_10 : decode cJ0_init_db425 10 = .ok (.invokevirtual 549, 3) := by decide +kernel
theorem dJ0_init_db425_13 : decode cJ0_init_db425 13 = .ok (.istore 4, 2) := by decide +kernel
theorem dJ0_init_db425_15 : decode cJ0_init_db425 15 = .ok (.aload_n 1, 1) := by decide +kernel
theorem dJ0_init_db425_16 : decode cJ0_init_db425 16 = .ok (.invokevirtual 1047, 3) := by decide +kernel
theorem dJ0_init_db425_19 : decode cJ0_init_db425 19 = .ok (.ifCond .eq 22, 3) := by decide +kernel
theorem dJ0_init_db425_22 : decode cJ0_init_db425 22 = .ok (.aload_n 0, 1) := by decide +kernel
theorem dJ0_init_db425_23 : decode cJ0_init_db425 23 = .ok (.iconst 0, 1) := by decide +kernel
theorem dJ0_init_db425_24 : decode cJ0_init_db425 24 = .ok (.putfield 15, 3) := by decide +kernel
theorem dJ0_init_db425_27 : decode cJ0_init_db425 27 = .ok (.aload_n 0, 1) := by decide +kernel
theorem dJ0_init_db425_28 : decode cJ0_init_db425 28 = .ok (.aload_n 3, 1) := by decide +kernel
theorem dJ0_init_db425_29 : decode cJ0_init_db425 29 = .ok (.iconst 0, 1) := by decide +kernel
theorem dJ0_init_db425_30 : decode cJ0_init_db425 30 = .ok (.iload 4, 2) := by decide +kernel
theorem dJ0_init_db425_32 : decode cJ0_init_db425 32 = .ok (.invokestatic 54, 3) := by decide +kernel
theorem dJ0_init_db425_35 : decode cJ0_init_db425 35 = .ok (.putfield 9, 3) := by decide +kernel
theorem dJ0_init_db425_38 : decode cJ0_init_db425 38 = .ok (.goto 59, 3) := by decide +kernel
theorem dJ0_init_db425_41 : decode cJ0_init_db425 41 = .ok (.getstatic 38, 3) := by decide +kernel
theorem dJ0_init_db425_44 : decode cJ0_init_db425 44 = .ok (.ifCond .eq 35, 3) := by decide +kernel
theorem dJ0_init_db425_47 : decode cJ0_init_db425 47 = .ok (.aload_n 1, 1) := by decide +kernel
theorem dJ0_init_db425_48 : decode cJ0_init_db425 48 = .ok (.getfield 1048, 3) := by decide +kernel
theorem dJ0_init_db425_51 : decode cJ0_init_db425 51 = .ok (.ifCond .eq 28, 3) := by decide +kernel
theorem dJ0_init_db425_54 : decode cJ0_init_db425 54 = .ok (.aload_n 0, 1) := by decide +kernel
theorem dJ0_init_db425_55 : decode cJ0_init_db425 55 = .ok (.aload_n 3, 1) := by decide +kernel
theorem dJ0_init_db425_56 : decode cJ0_init_db425 56 = .ok (.iconst 0, 1) := by decide +kernel
theorem dJ0_init_db425_57 : decode cJ0_init_db425 57 = .ok (.iload 4, 2) := by decide +kernel
theorem dJ0_init_db425_59 : decode cJ0_init_db425 59 = .ok (.invokestatic 1051, 3) := by decide +kernel
theorem dJ0_init_db425_62 : decode cJ0_init_db425 62 = .ok (.putfield 9, 3) := by decide +kernel
theorem dJ0_init_db425_65 : decode cJ0_init_db425 65 = .ok (.aload_n 0, 1) := by decide +kernel
theorem dJ0_init_db425_66 : decode cJ0_init_db425 66 = .ok (.aload_n 0, 1) := by decide +kernel
theorem dJ0_init_db425_67 : decode cJ0_init_db425 67 = .ok (.getfield 9, 3) := by decide +kernel
theorem dJ0_init_db425_70 : decode cJ0_init_db425 70 = .ok (.iload 4, 2) := by decide +kernel
theorem dJ0_init_db425_72 : decode cJ0_init_db425 72 = .ok (.invokestatic 47, 3) := by decide +kernel
theorem dJ0_init_db425_75 : decode cJ0_init_db425 75 = .ok (.putfield 15, 3) := by decide +kernel
theorem dJ0_init_db425_78 : decode cJ0_init_db425 78 = .ok (.return_, 1) := by decide +kernel
theorem dJ0_init_db425_79 : decode cJ0_init_db425 79 = .ok (.aload_n 0, 1) := by decide +kernel
theorem dJ0_init_db425_80 : decode cJ0_init_db425 80 = .ok (.iconst 1, 1) := by decide +kernel
theorem dJ0_init_db425_81 : decode cJ0_init_db425 81 = .ok (.putfield 15, 3) := by decide +kernel
theorem dJ0_init_db425_84 : decode cJ0_init_db425 84 = .ok (.aload_n 0, 1) := by decide +kernel
theorem dJ0_init_db425_85 : decode cJ0_init_db425 85 = .ok (.aload_n 3, 1) := by decide +kernel
theorem dJ0_init_db425_86 : decode cJ0_init_db425 86 = .ok (.iconst 0, 1) := by decide +kernel
theorem dJ0_init_db425_87 : decode cJ0_init_db425 87 = .ok (.iload 4, 2) := by decide +kernel
theorem dJ0_init_db425_89 : decode cJ0_init_db425 89 = .ok (.iconst 1, 1) := by decide +kernel
theorem dJ0_init_db425_90 : decode cJ0_init_db425 90 = .ok (.ishl, 1) := by decide +kernel
theorem dJ0_init_db425_91 : decode cJ0_init_db425 91 = .ok (.invokestatic 54, 3) := by decide +kernel
theorem dJ0_init_db425_94 : decode cJ0_init_db425 94 = .ok (.putfield 9, 3) := by decide +kernel
theorem dJ0_init_db425_97 : decode cJ0_init_db425 97 = .ok (.return_, 1) := by decide +kernel
theorem dJ0_init_81219_0 : decode cJ0_init_81219 0 = .ok (.aload_n 0, 1) := by decide +kernel
theorem dJ0_init_81219_1 : decode cJ0_init_81219 1 = .ok (.aload_n 1, 1) := by decide +kernel
theorem dJ0_init_81219_2 : decode cJ0_init_81219 2 = .ok (.aconst_null, 1) := by decide +kernel
theorem dJ0_init_81219_3 : decode cJ0_init_81219 3 = .ok (.invokespecial 489, 3) := by decide +kernel
theorem dJ0_init_81219_6 : decode cJ0_init_81219 6 = .ok (.return_, 1) := by decide +kernel
theorem dJ4_toString_0e30d_0 : decode cJ4_toString_0e30d 0 = .ok (.new 18, 3) := by decide +kernel
theorem dJ4_toString_0e30d_3 : decode cJ4_toString_0e30d 3 = .ok (.dup, 1) := by decide +kernel
theorem dJ4_toString_0e30d_4 : decode cJ4_toString_0e30d 4 = .ok (.aload_n 0, 1) := by decide +kernel
theorem dJ4_toString_0e30d_5 : decode cJ4_toString_0e30d 5 = .ok (.invokespecial 137, 3) := by decide +kernel
theorem dJ4_toString_0e30d_8 : decode cJ4_toString_0e30d 8 = .ok (.areturn, 1) := by decide +kernel
theorem dJ0_coder_7d493_0 : decode cJ0_coder_7d493 0 = .ok (.getstatic 38, 3) := by decide +kernel
theorem dJ0_coder_7d493_3 : decode cJ0_coder_7d493 3 = .ok (.ifCond .eq 10, 3) := by decide +kernel
theorem dJ0_coder_7d493_6 : decode cJ0_coder_7d493 6 = .ok (.aload_n 0, 1) := by decide +kernel
theorem dJ0_coder_7d493_7 : decode cJ0_coder_7d493 7 = .ok (.getfield 15, 3) := by decide +kernel
theorem dJ0_coder_7d493_10 : decode cJ0_coder_7d493 10 = .ok (.goto 4, 3) := by decide +kernel
theorem dJ0_coder_7d493_13 : decode cJ0_coder_7d493 13 = .ok (.iconst 1, 1) := by decide +kernel
theorem dJ0_coder_7d493_14 : decode cJ0_coder_7d493 14 = .ok (.ireturn, 1) := by decide +kernel
theorem dJ0_length_8abf5_0 : decode cJ0_length_8abf5 0 = .ok (.aload_n 0, 1) := by decide +kernel
theorem dJ0_length_8abf5_1 : decode cJ0_length_8abf5 1 = .ok (.getfield 9, 3) := by decide +kernel
theorem dJ0_length_8abf5_4 : decode cJ0_length_8abf5 4 = .ok (.arraylength, 1) := by decide +kernel
theorem dJ0_length_8abf5_5 : decode cJ0_length_8abf5 5 = .ok (.aload_n 0, 1) := by decide +kernel
theorem dJ0_length_8abf5_6 : decode cJ0_length_8abf5 6 = .ok (.invokevirtual 335, 3) := by decide +kernel
theorem dJ0_length_8abf5_9 : decode cJ0_length_8abf5 9 = .ok (.ishr, 1) := by decide +kernel
theorem dJ0_length_8abf5_10 : decode cJ0_length_8abf5 10 = .ok (.ireturn, 1) := by decide +kernel
theorem dJ0_getBytes_840e7_0 : decode cJ0_getBytes_840e7 0 = .ok (.aload_n 0, 1) := by decide +kernel
theorem dJ0_getBytes_840e7_1 : decode cJ0_getBytes_840e7 1 = .ok (.invokevirtual 335, 3) := by decide +kernel
theorem dJ0_getBytes_840e7_4 : decode cJ0_getBytes_840e7 4 = .ok (.iload_n 3, 1) := by decide +kernel
theorem dJ0_getBytes_840e7_5 : decode cJ0_getBytes_840e7 5 = .ok (.if_icmp .ne 23, 3) := by decide +kernel
theorem dJ0_getBytes_840e7_8 : decode cJ0_getBytes_840e7 8 = .ok (.aload_n 0, 1) := by decide +kernel
theorem dJ0_getBytes_840e7_9 : decode cJ0_getBytes_840e7 9 = .ok (.getfield 9, 3) := by decide +kernel
theorem dJ0_getBytes_840e7_12 : decode cJ0_getBytes_840e7 12 = .ok (.iconst 0, 1) := by decide +kernel
theorem dJ0_getBytes_840e7_13 : decode cJ0_getBytes_840e7 13 = .ok (.aload_n 1, 1) := by decide +kernel
theorem dJ0_getBytes_840e7_14 : decode cJ0_getBytes_840e7 14 = .ok (.iload_n 2, 1) := by decide +kernel
theorem dJ0_getBytes_840e7_15 : decode cJ0_getBytes_840e7 15 = .ok (.iload_n 3, 1) := by decide +kernel
theorem dJ0_getBytes_840e7_16 : decode cJ0_getBytes_840e7 16 = .ok (.ishl, 1) := by decide +kernel
theorem dJ0_getBytes_840e7_17 : decode cJ0_getBytes_840e7 17 = .ok (.aload_n 0, 1) := by decide +kernel
theorem dJ0_getBytes_840e7_18 : decode cJ0_getBytes_840e7 18 = .ok (.getfield 9, 3) := by decide +kernel
theorem dJ0_getBytes_840e7_21 : decode cJ0_getBytes_840e7 21 = .ok (.arraylength, 1) := by decide +kernel
theorem dJ0_getBytes_840e7_22 : decode cJ0_getBytes_840e7 22 = .ok (.invokestatic 212, 3) := by decide +kernel
theorem dJ0_getBytes_840e7_25 : decode cJ0_getBytes_840e7 25 = .ok (.goto 18, 3) := by decide +kernel
theorem dJ0_getBytes_840e7_28 : decode cJ0_getBytes_840e7 28 = .ok (.aload_n 0, 1) := by decide +kernel
theorem dJ0_getBytes_840e7_29 : decode cJ0_getBytes_840e7 29 = .ok (.getfield 9, 3) := by decide +kernel
theorem dJ0_getBytes_840e7_32 : decode cJ0_getBytes_840e7 32 = .ok (.iconst 0, 1) := by decide +kernel
theorem dJ0_getBytes_840e7_33 : decode cJ0_getBytes_840e7 33 = .ok (.aload_n 1, 1) := by decide +kernel
theorem dJ0_getBytes_840e7_34 : decode cJ0_getBytes_840e7 34 = .ok (.iload_n 2, 1) := by decide +kernel
theorem dJ0_getBytes_840e7_35 : decode cJ0_getBytes_840e7 35 = .ok (.aload_n 0, 1) := by decide +kernel
theorem dJ0_getBytes_840e7_36 : decode cJ0_getBytes_840e7 36 = .ok (.getfield 9, 3) := by decide +kernel
theorem dJ0_getBytes_840e7_39 : decode cJ0_getBytes_840e7 39 = .ok (.arraylength, 1) := by decide +kernel
theorem dJ0_getBytes_840e7_40 : decode cJ0_getBytes_840e7 40 = .ok (.invokestatic 106, 3) := by decide +kernel
theorem dJ0_getBytes_840e7_43 : decode cJ0_getBytes_840e7 43 = .ok (.return_, 1) := by decide +kernel
theorem dJ5_inflateIfNeededFor_a7421_0 : decode cJ5_inflateIfNeededFor_a7421 0 = .ok (.getstatic 18, 3) := by decide +kernel
theorem dJ5_inflateIfNeededFor_a7421_3 : decode cJ5_inflateIfNeededFor_a7421 3 = .ok (.ifCond .eq 18, 3) := by decide +kernel
theorem dJ5_inflateIfNeededFor_a7421_6 : decode cJ5_inflateIfNeededFor_a7421 6 = .ok (.aload_n 0, 1) := by decide +kernel
theorem dJ5_inflateIfNeededFor_a7421_7 : decode cJ5_inflateIfNeededFor_a7421 7 = .ok (.getfield 22, 3) := by decide +kernel
theorem dJ5_inflateIfNeededFor_a7421_10 : decode cJ5_inflateIfNeededFor_a7421 10 = .ok (.aload_n 1, 1) := by decide +kernel
theorem dJ5_inflateIfNeededFor_a7421_11 : decode cJ5_inflateIfNeededFor_a7421 11 = .ok (.invokevirtual 40, 3) := by decide +kernel
theorem dJ5_inflateIfNeededFor_a7421_14 : decode cJ5_inflateIfNeededFor_a7421 14 = .ok (.if_icmp .eq 7, 3) := by decide +kernel
theorem dJ5_inflateIfNeededFor_a7421_17 : decode cJ5_inflateIfNeededFor_a7421 17 = .ok (.aload_n 0, 1) := by decide +kernel
theorem dJ5_inflateIfNeededFor_a7421_18 : decode cJ5_inflateIfNeededFor_a7421 18 = .ok (.invokevirtual 195, 3) := by decide +kernel
theorem dJ5_inflateIfNeededFor_a7421_21 : decode cJ5_inflateIfNeededFor_a7421 21 = .ok (.return_, 1) := by decide +kernel
theorem dJ5_putStringAt_47b60_0 : decode cJ5_putStringAt_47b60 0 = .ok (.aload_n 0, 1) := by decide +kernel
theorem dJ5_putStringAt_47b60_1 : decode cJ5_putStringAt_47b60 1 = .ok (.aload_n 2, 1) := by decide +kernel
theorem dJ5_putStringAt_47b60_2 : decode cJ5_putStringAt_47b60 2 = .ok (.invokevirtual 397, 3) := by decide +kernel
theorem dJ5_putStringAt_47b60_5 : decode cJ5_putStringAt_47b60 5 = .ok (.aload_n 2, 1) := by decide +kernel
theorem dJ5_putStringAt_47b60_6 : decode cJ5_putStringAt_47b60 6 = .ok (.aload_n 0, 1) := by decide +kernel
theorem dJ5_putStringAt_47b60_7 : decode cJ5_putStringAt_47b60 7 = .ok (.getfield 15, 3) := by decide +kernel
theorem dJ5_putStringAt_47b60_10 : decode cJ5_putStringAt_47b60 10 = .ok (.iload_n 1, 1) := by decide +kernel
theorem dJ5_putStringAt_47b60_11 : decode cJ5_putStringAt_47b60 11 = .ok (.aload_n 0, 1) := by decide +kernel
theorem dJ5_putStringAt_47b60_12 : decode cJ5_putStringAt_47b60 12 = .ok (.getfield 22, 3) := by decide +kernel
theorem dJ5_putStringAt_47b60_15 : decode cJ5_putStringAt_47b60 15 = .ok (.invokevirtual 399, 3) := by decide +kernel
theorem dJ5_putStringAt_47b60_18 : decode cJ5_putStringAt_47b60 18 = .ok (.return_, 1) := by decide +kernel
theorem dJ5_append_cf1ce_0 : decode cJ5_append_cf1ce 0 = .ok (.aload_n 1, 1) := by decide +kernel
theorem dJ5_append_cf1ce_1 : decode cJ5_append_cf1ce 1 = .ok (.ifnonnull 8, 3) := by decide +kernel
theorem dJ5_append_cf1ce_4 : decode cJ5_append_cf1ce 4 = .ok (.aload_n 0, 1) := by decide +kernel
theorem dJ5_append_cf1ce_5 : decode cJ5_append_cf1ce 5 = .ok (.invokevirtual 204, 3) := by decide +kernel
theorem dJ5_append_cf1ce_8 : decode cJ5_append_cf1ce 8 = .ok (.areturn, 1) := by decide +kernel
theorem dJ5_append_cf1ce_9 : decode cJ5_append_cf1ce 9 = .ok (.aload_n 1, 1) := by decide +kernel
theorem dJ5_append_cf1ce_10 : decode cJ5_append_cf1ce 10 = .ok (.invokevirtual 32, 3) := by decide +kernel
theorem dJ5_append_cf1ce_13 : decode cJ5_append_cf1ce 13 = .ok (.istore_n 2, 1) := by decide +kernel
theorem dJ5_append_cf1ce_14 : decode cJ5_append_cf1ce 14 = .ok (.aload_n 0, 1) := by decide +kernel
theorem dJ5_append_cf1ce_15 : decode cJ5_append_cf1ce 15 = .ok (.aload_n 0, 1) := by decide +kernel
theorem dJ5_append_cf1ce_16 : decode cJ5_append_cf1ce 16 = .ok (.getfield 79, 3) := by decide +kernel
theorem dJ5_append_cf1ce_19 : decode cJ5_append_cf1ce 19 = .ok (.iload_n 2, 1) := by decide +kernel
theorem dJ5_append_cf1ce_20 : decode cJ5_append_cf1ce 20 = .ok (.iadd, 1) := by decide +kernel
theorem dJ5_append_cf1ce_21 : decode cJ5_append_cf1ce 21 = .ok (.invokevirtual 100, 3) := by decide +kernel
theorem dJ5_append_cf1ce_24 : decode cJ5_append_cf1ce 24 = .ok (.aload_n 0, 1) := by decide +kernel
theorem dJ5_append_cf1ce_25 : decode cJ5_append_cf1ce 25 = .ok (.aload_n 0, 1) := by decide +kernel
theorem dJ5_append_cf1ce_26 : decode cJ5_append_cf1ce 26 = .ok (.getfield 79, 3) := by decide +kernel
theorem dJ5_append_cf1ce_29 : decode cJ5_append_cf1ce 29 = .ok (.aload_n 1, 1) := by decide +kernel
theorem dJ5_append_cf1ce_30 : decode cJ5_append_cf1ce 30 = .ok (.invokevirtual 208, 3) := by decide +kernel
theorem dJ5_append_cf1ce_33 : decode cJ5_append_cf1ce 33 = .ok (.aload_n 0, 1) := by decide +kernel
theorem dJ5_append_cf1ce_34 : decode cJ5_append_cf1ce 34 = .ok (.dup, 1) := by decide +kernel
theorem dJ5_append_cf1ce_35 : decode cJ5_append_cf1ce 35 = .ok (.getfield 79, 3) := by decide +kernel
theorem dJ5_append_cf1ce_38 : decode cJ5_append_cf1ce 38 = .ok (.iload_n 2, 1) := by decide +kernel
theorem dJ5_append_cf1ce_39 : decode cJ5_append_cf1ce 39 = .ok (.iadd, 1) := by decide +kernel
theorem dJ5_append_cf1ce_40 : decode cJ5_append_cf1ce 40 = .ok (.putfield 79, 3) := by decide +kernel
theorem dJ5_append_cf1ce_43 : decode cJ5_append_cf1ce 43 = .ok (.aload_n 0, 1) := by decide +kernel
theorem dJ5_append_cf1ce_44 : decode cJ5_append_cf1ce 44 = .ok (.areturn, 1) := by decide +kernel
theorem dJ4_append_15ec4_0 : decode cJ4_append_15ec4 0 = .ok (.aload_n 0, 1) := by decide +kernel
theorem dJ4_append_15ec4_1 : decode cJ4_append_15ec4 1 = .ok (.aload_n 1, 1) := by decide +kernel
theorem dJ4_append_15ec4_2 : decode cJ4_append_15ec4 2 = .ok (.invokespecial 29, 3) := by decide +kernel
theorem dJ4_append_15ec4_5 : decode cJ4_append_15ec4 5 = .ok (.pop, 1) := by decide +kernel
theorem dJ4_append_15ec4_6 : decode cJ4_append_15ec4 6 = .ok (.aload_n 0, 1) := by decide +kernel
theorem dJ4_append_15ec4_7 : decode cJ4_append_15ec4 7 = .ok (.areturn, 1) := by decide +kernel
theorem dX0_init_0 : decode cX0_init 0 = .ok (.aload_n 0, 1) := by decide +kernel
theorem dX0_init_1 : decode cX0_init 1 = .ok (.invokespecial 3, 3) := by decide +kernel
theorem dX0_init_4 : decode cX0_init 4 = .ok (.aload_n 0, 1) := by decide +kernel
theorem dX0_init_5 : decode cX0_init 5 = .ok (.bipush 11, 2) := by decide +kernel
theorem dX0_init_7 : decode cX0_init 7 = .ok (.newarray .long, 2) := by decide +kernel
theorem dX0_init_9 : decode cX0_init 9 = .ok (.putfield 9, 3) := by decide +kernel
theorem dX0_init_12 : decode cX0_init 12 = .ok (.aload_n 0, 1) := by decide +kernel
theorem dX0_init_13 : decode cX0_init 13 = .ok (.bipush 11, 2) := by decide +kernel
theorem dX0_init_15 : decode cX0_init 15 = .ok (.newarray .long, 2) := by decide +kernel
theorem dX0_init_17 : decode cX0_init 17 = .ok (.putfield 15, 3) := by decide +kernel
theorem dX0_init_20 : decode cX0_init 20 = .ok (.aload_n 0, 1) := by decide +kernel
theorem dX0_init_21 : decode cX0_init 21 = .ok (.bipush 11, 2) := by decide +kernel
theorem dX0_init_23 : decode cX0_init 23 = .ok (.newarray .boolean, 2) := by decide +kernel
theorem dX0_init_25 : decode cX0_init 25 = .ok (.putfield 18, 3) := by decide +kernel
theorem dX0_init_28 : decode cX0_init 28 = .ok (.return_, 1) := by decide +kernel
theorem dX1_init_0 : decode cX1_init 0 = .ok (.aload_n 0, 1) := by decide +kernel
theorem dX1_init_1 : decode cX1_init 1 = .ok (.invokespecial 3, 3) := by decide +kernel
theorem dX1_init_4 : decode cX1_init 4 = .ok (.aload_n 0, 1) := by decide +kernel
theorem dX1_init_5 : decode cX1_init 5 = .ok (.iconst 4, 1) := by decide +kernel
theorem dX1_init_6 : decode cX1_init 6 = .ok (.newarray .long, 2) := by decide +kernel
theorem dX1_init_8 : decode cX1_init 8 = .ok (.putfield 9, 3) := by decide +kernel
theorem dX1_init_11 : decode cX1_init 11 = .ok (.aload_n 0, 1) := by decide +kernel
theorem dX1_init_12 : decode cX1_init 12 = .ok (.lconst 0, 1) := by decide +kernel
theorem dX1_init_13 : decode cX1_init 13 = .ok (.putfield 13, 3) := by decide +kernel
theorem dX1_init_16 : decode cX1_init 16 = .ok (.aload_n 0, 1) := by decide +kernel
theorem dX1_init_17 : decode cX1_init 17 = .ok (.ldc2_w 17, 3) := by decide +kernel
theorem dX1_init_20 : decode cX1_init 20 = .ok (.putfield 19, 3) := by decide +kernel
theorem dX1_init_23 : decode cX1_init 23 = .ok (.aload_n 0, 1) := by decide +kernel
theorem dX1_init_24 : decode cX1_init 24 = .ok (.new 22, 3) := by decide +kernel
theorem dX1_init_27 : decode cX1_init 27 = .ok (.dup, 1) := by decide +kernel
theorem dX1_init_28 : decode cX1_init 28 = .ok (.invokespecial 24, 3) := by decide +kernel
theorem dX1_init_31 : decode cX1_init 31 = .ok (.putfield 25, 3) := by decide +kernel
theorem dX1_init_34 : decode cX1_init 34 = .ok (.aload_n 0, 1) := by decide +kernel
theorem dX1_init_35 : decode cX1_init 35 = .ok (.new 22, 3) := by decide +kernel
theorem dX1_init_38 : decode cX1_init 38 = .ok (.dup, 1) := by decide +kernel
theorem dX1_init_39 : decode cX1_init 39 = .ok (.invokespecial 24, 3) := by decide +kernel
theorem dX1_init_42 : decode cX1_init 42 = .ok (.putfield 29, 3) := by decide +kernel
theorem dX1_init_45 : decode cX1_init 45 = .ok (.aload_n 0, 1) := by decide +kernel
theorem dX1_init_46 : decode cX1_init 46 = .ok (.new 22, 3) := by decide +kernel
theorem dX1_init_49 : decode cX1_init 49 = .ok (.dup, 1) := by decide +kernel
theorem dX1_init_50 : decode cX1_init 50 = .ok (.invokespecial 24, 3) := by decide +kernel
theorem dX1_init_53 : decode cX1_init 53 = .ok (.putfield 32, 3) := by decide +kernel
theorem dX1_init_56 : decode cX1_init 56 = .ok (.aload_n 0, 1) := by decide +kernel
theorem dX1_init_57 : decode cX1_init 57 = .ok (.bipush 11, 2) := by decide +kernel
theorem dX1_init_59 : decode cX1_init 59 = .ok (.newarray .int, 2) := by decide +kernel
theorem dX1_init_61 : decode cX1_init 61 = .ok (.putfield 35, 3) := by decide +kernel
theorem dX1_init_64 : decode cX1_init 64 = .ok (.return_, 1) := by decide +kernel
theorem dX2_init_0 : decode cX2_init 0 = .ok (.aload_n 0, 1) := by decide +kernel
theorem dX2_init_1 : decode cX2_init 1 = .ok (.invokespecial 1, 3) := by decide +kernel
theorem dX2_init_4 : decode cX2_init 4 = .ok (.return_, 1) := by decide +kernel
theorem dX1_text_0 : decode cX1_text 0 = .ok (.iload_n 1, 1) := by decide +kernel
theorem dX1_text_1 : decode cX1_text 1 = .ok (.invokestatic 39, 3) := by decide +kernel
theorem dX1_text_4 : decode cX1_text 4 = .ok (.new 145, 3) := by decide +kernel
theorem dX1_text_7 : decode cX1_text 7 = .ok (.dup, 1) := by decide +kernel
theorem dX1_text_8 : decode cX1_text 8 = .ok (.invokespecial 147, 3) := by decide +kernel
theorem dX1_text_11 : decode cX1_text 11 = .ok (.astore_n 2, 1) := by decide +kernel
theorem dX1_text_12 : decode cX1_text 12 = .ok (.aload_n 2, 1) := by decide +kernel
theorem dX1_text_13 : decode cX1_text 13 = .ok (.aload_n 0, 1) := by decide +kernel
theorem dX1_text_14 : decode cX1_text 14 = .ok (.getfield 9, 3) := by decide +kernel
theorem dX1_text_17 : decode cX1_text 17 = .ok (.iload_n 1, 1) := by decide +kernel
theorem dX1_text_18 : decode cX1_text 18 = .ok (.laload, 1) := by decide +kernel
theorem dX1_text_19 : decode cX1_text 19 = .ok (.invokestatic 65, 3) := by decide +kernel
theorem dX1_text_22 : decode cX1_text 22 = .ok (.invokevirtual 148, 3) := by decide +kernel
theorem dX1_text_25 : decode cX1_text 25 = .ok (.pop, 1) := by decide +kernel
theorem dX1_text_26 : decode cX1_text 26 = .ok (.aload_n 2, 1) := by decide +kernel
theorem dX1_text_27 : decode cX1_text 27 = .ok (.bipush 32, 2) := by decide +kernel
theorem dX1_text_29 : decode cX1_text 29 = .ok (.invokevirtual 152, 3) := by decide +kernel
theorem dX1_text_32 : decode cX1_text 32 = .ok (.pop, 1) := by decide +kernel
theorem dX1_text_33 : decode cX1_text 33 = .ok (.aload_n 2, 1) := by decide +kernel
theorem dX1_text_34 : decode cX1_text 34 = .ok (.aload_n 0, 1) := by decide +kernel
theorem dX1_text_35 : decode cX1_text 35 = .ok (.getfield 9, 3) := by decide +kernel
theorem dX1_text_38 : decode cX1_text 38 = .ok (.iload_n 1, 1) := by decide +kernel
theorem dX1_text_39 : decode cX1_text 39 = .ok (.laload, 1) := by decide +kernel
theorem dX1_text_40 : decode cX1_text 40 = .ok (.invokestatic 142, 3) := by decide +kernel
theorem dX1_text_43 : decode cX1_text 43 = .ok (.invokevirtual 148, 3) := by decide +kernel
theorem dX1_text_46 : decode cX1_text 46 = .ok (.pop, 1) := by decide +kernel
theorem dX1_text_47 : decode cX1_text 47 = .ok (.aload_n 2, 1) := by decide +kernel
theorem dX1_text_48 : decode cX1_text 48 = .ok (.invokevirtual 155, 3) := by decide +kernel
theorem dX1_text_51 : decode cX1_text 51 = .ok (.areturn, 1) := by decide +kernel
