theorem dX3_secondOf_0 : decode cX3_secondOf 0 = .ok (.lload_n 0, 1) := by decide +kernel
theorem dX3_secondOf_1 : decode cX3_secondOf 1 = .ok (.lconst 0, 1) := by decide +kernel
theorem dX3_secondOf_2 : decode cX3_secondOf 2 = .ok (.lcmp, 1) := by decide +kernel
theorem dX3_secondOf_3 : decode cX3_secondOf 3 = .ok (.ifCond .lt 11, 3) := by decide +kernel
theorem dX3_secondOf_6 : decode cX3_secondOf 6 = .ok (.lload_n 0, 1) := by decide +kernel
theorem dX3_secondOf_7 : decode cX3_secondOf 7 = .ok (.ldc2_w 39, 3) := by decide +kernel
theorem dX3_secondOf_10 : decode cX3_secondOf 10 = .ok (.ldiv, 1) := by decide +kernel
theorem dX3_secondOf_11 : decode cX3_secondOf 11 = .ok (.goto 13, 3) := by decide +kernel
theorem dX3_secondOf_14 : decode cX3_secondOf 14 = .ok (.ldc2_w 41, 3) := by decide +kernel
theorem dX3_secondOf_17 : decode cX3_secondOf 17 = .ok (.lload_n 0, 1) := by decide +kernel
theorem dX3_secondOf_18 : decode cX3_secondOf 18 = .ok (.lsub, 1) := by decide +kernel
theorem dX3_secondOf_19 : decode cX3_secondOf 19 = .ok (.ldc2_w 39, 3) := by decide +kernel
theorem dX3_secondOf_22 : decode cX3_secondOf 22 = .ok (.ldiv, 1) := by decide +kernel
theorem dX3_secondOf_23 : decode cX3_secondOf 23 = .ok (.lneg, 1) := by decide +kernel
theorem dX3_secondOf_24 : decode cX3_secondOf 24 = .ok (.l2i, 1) := by decide +kernel
theorem dX3_secondOf_25 : decode cX3_secondOf 25 = .ok (.ireturn, 1) := by decide +kernel
theorem dX3_nanoOf_0 : decode cX3_nanoOf 0 = .ok (.lload_n 0, 1) := by decide +kernel
theorem dX3_nanoOf_1 : decode cX3_nanoOf 1 = .ok (.lload_n 0, 1) := by decide +kernel
theorem dX3_nanoOf_2 : decode cX3_nanoOf 2 = .ok (.invokestatic 43, 3) := by decide +kernel
theorem dX3_nanoOf_5 : decode cX3_nanoOf 5 = .ok (.i2l, 1) := by decide +kernel
theorem dX3_nanoOf_6 : decode cX3_nanoOf 6 = .ok (.ldc2_w 39, 3) := by decide +kernel
theorem dX3_nanoOf_9 : decode cX3_nanoOf 9 = .ok (.lmul, 1) := by decide +kernel
theorem dX3_nanoOf_10 : decode cX3_nanoOf 10 = .ok (.lsub, 1) := by decide +kernel
theorem dX3_nanoOf_11 : decode cX3_nanoOf 11 = .ok (.l2i, 1) := by decide +kernel
theorem dX3_nanoOf_12 : decode cX3_nanoOf 12 = .ok (.ireturn, 1) := by decide +kernel
theorem dX3_isLet_0 : decode cX3_isLet 0 = .ok (.lload_n 0, 1) := by decide +kernel
theorem dX3_isLet_1 : decode cX3_isLet 1 = .ok (.ldc2_w 47, 3) := by decide +kernel
theorem dX3_isLet_4 : decode cX3_isLet 4 = .ok (.lcmp, 1) := by decide +kernel
theorem dX3_isLet_5 : decode cX3_isLet 5 = .ok (.ifCond .lt 15, 3) := by decide +kernel
theorem dX3_isLet_8 : decode cX3_isLet 8 = .ok (.lload_n 0, 1) := by decide +kernel
theorem dX3_isLet_9 : decode cX3_isLet 9 = .ok (.ldc2_w 49, 3) := by decide +kernel
theorem dX3_isLet_12 : decode cX3_isLet 12 = .ok (.lcmp, 1) := by decide +kernel
theorem dX3_isLet_13 : decode cX3_isLet 13 = .ok (.ifCond .ge 7, 3) := by decide +kernel
theorem dX3_isLet_16 : decode cX3_isLet 16 = .ok (.iconst 1, 1) := by decide +kernel
theorem dX3_isLet_17 : decode cX3_isLet 17 = .ok (.goto 4, 3) := by decide +kernel
theorem dX3_isLet_20 : decode cX3_isLet 20 = .ok (.iconst 0, 1) := by decide +kernel
theorem dX3_isLet_21 : decode cX3_isLet 21 = .ok (.ireturn, 1) := by decide +kernel
theorem dX3_units_0 : decode cX3_units 0 = .ok (.iload_n 1, 1) := by decide +kernel
theorem dX3_units_1 : decode cX3_units 1 = .ok (.i2l, 1) := by decide +kernel
theorem dX3_units_2 : decode cX3_units 2 = .ok (.iload_n 0, 1) := by decide +kernel
theorem dX3_units_3 : decode cX3_units 3 = .ok (.ifCond .ne 9, 3) := by decide +kernel
theorem dX3_units_6 : decode cX3_units 6 = .ok (.ldc2_w 39, 3) := by decide +kernel
theorem dX3_units_9 : decode cX3_units 9 = .ok (.goto 15, 3) := by decide +kernel
theorem dX3_units_12 : decode cX3_units 12 = .ok (.iload_n 0, 1) := by decide +kernel
theorem dX3_units_13 : decode cX3_units 13 = .ok (.iconst 1, 1) := by decide +kernel
theorem dX3_units_14 : decode cX3_units 14 = .ok (.if_icmp .ne 9, 3) := by decide +kernel
theorem dX3_units_17 : decode cX3_units 17 = .ok (.ldc2_w 51, 3) := by decide +kernel
theorem dX3_units_20 : decode cX3_units 20 = .ok (.goto 4, 3) := by decide +kernel
theorem dX3_units_23 : decode cX3_units 23 = .ok (.lconst 1, 1) := by decide +kernel
theorem dX3_units_24 : decode cX3_units 24 = .ok (.lmul, 1) := by decide +kernel
theorem dX3_units_25 : decode cX3_units 25 = .ok (.lreturn, 1) := by decide +kernel
theorem dX3_sign_0 : decode cX3_sign 0 = .ok (.lload_n 0, 1) := by decide +kernel
theorem dX3_sign_1 : decode cX3_sign 1 = .ok (.lconst 0, 1) := by decide +kernel
theorem dX3_sign_2 : decode cX3_sign 2 = .ok (.lcmp, 1) := by decide +kernel
theorem dX3_sign_3 : decode cX3_sign 3 = .ok (.ifCond .ge 7, 3) := by decide +kernel
theorem dX3_sign_6 : decode cX3_sign 6 = .ok (.iconst (-1), 1) := by decide +kernel
theorem dX3_sign_7 : decode cX3_sign 7 = .ok (.goto 14, 3) := by decide +kernel
theorem dX3_sign_10 : decode cX3_sign 10 = .ok (.lload_n 0, 1) := by decide +kernel
theorem dX3_sign_11 : decode cX3_sign 11 = .ok (.lconst 0, 1) := by decide +kernel
theorem dX3_sign_12 : decode cX3_sign 12 = .ok (.lcmp, 1) := by decide +kernel
theorem dX3_sign_13 : decode cX3_sign 13 = .ok (.ifCond .le 7, 3) := by decide +kernel
theorem dX3_sign_16 : decode cX3_sign 16 = .ok (.iconst 1, 1) := by decide +kernel
theorem dX3_sign_17 : decode cX3_sign 17 = .ok (.goto 4, 3) := by decide +kernel
theorem dX3_sign_20 : decode cX3_sign 20 = .ok (.iconst 0, 1) := by decide +kernel
theorem dX3_sign_21 : decode cX3_sign 21 = .ok (.ireturn, 1) := by decide +kernel
theorem dX3_meet_0 : decode cX3_meet 0 = .ok (.lload_n 0, 1) := by decide +kernel
theorem dX3_meet_1 : decode cX3_meet 1 = .ok (.lload 6, 2) := by decide +kernel
theorem dX3_meet_3 : decode cX3_meet 3 = .ok (.lcmp, 1) := by decide +kernel
theorem dX3_meet_4 : decode cX3_meet 4 = .ok (.ifCond .ge 14, 3) := by decide +kernel
theorem dX3_meet_7 : decode cX3_meet 7 = .ok (.lload 4, 2) := by decide +kernel
theorem dX3_meet_9 : decode cX3_meet 9 = .ok (.lload_n 2, 1) := by decide +kernel
theorem dX3_meet_10 : decode cX3_meet 10 = .ok (.lcmp, 1) := by decide +kernel
theorem dX3_meet_11 : decode cX3_meet 11 = .ok (.ifCond .ge 7, 3) := by decide +kernel
theorem dX3_meet_14 : decode cX3_meet 14 = .ok (.iconst 1, 1) := by decide +kernel
theorem dX3_meet_15 : decode cX3_meet 15 = .ok (.goto 4, 3) := by decide +kernel
theorem dX3_meet_18 : decode cX3_meet 18 = .ok (.iconst 0, 1) := by decide +kernel
theorem dX3_meet_19 : decode cX3_meet 19 = .ok (.ireturn, 1) := by decide +kernel
theorem dX3_isIn_0 : decode cX3_isIn 0 = .ok (.lload_n 1, 1) := by decide +kernel
theorem dX3_isIn_1 : decode cX3_isIn 1 = .ok (.aload_n 0, 1) := by decide +kernel
theorem dX3_isIn_2 : decode cX3_isIn 2 = .ok (.getfield 53, 3) := by decide +kernel
theorem dX3_isIn_5 : decode cX3_isIn 5 = .ok (.lcmp, 1) := by decide +kernel
theorem dX3_isIn_6 : decode cX3_isIn 6 = .ok (.ifCond .lt 16, 3) := by decide +kernel
theorem dX3_isIn_9 : decode cX3_isIn 9 = .ok (.lload_n 3, 1) := by decide +kernel
theorem dX3_isIn_10 : decode cX3_isIn 10 = .ok (.aload_n 0, 1) := by decide +kernel
theorem dX3_isIn_11 : decode cX3_isIn 11 = .ok (.getfield 15, 3) := by decide +kernel
theorem dX3_isIn_14 : decode cX3_isIn 14 = .ok (.lcmp, 1) := by decide +kernel
theorem dX3_isIn_15 : decode cX3_isIn 15 = .ok (.ifCond .gt 7, 3) := by decide +kernel
theorem dX3_isIn_18 : decode cX3_isIn 18 = .ok (.iconst 1, 1) := by decide +kernel
theorem dX3_isIn_19 : decode cX3_isIn 19 = .ok (.goto 4, 3) := by decide +kernel
theorem dX3_isIn_22 : decode cX3_isIn 22 = .ok (.iconst 0, 1) := by decide +kernel
theorem dX3_isIn_23 : decode cX3_isIn 23 = .ok (.ireturn, 1) := by decide +kernel
theorem dX3_meetsSome_0 : decode cX3_meetsSome 0 = .ok (.iconst 0, 1) := by decide +kernel
theorem dX3_meetsSome_1 : decode cX3_meetsSome 1 = .ok (.istore 6, 2) := by decide +kernel
theorem dX3_meetsSome_3 : decode cX3_meetsSome 3 = .ok (.iload 6, 2) := by decide +kernel
theorem dX3_meetsSome_5 : decode cX3_meetsSome 5 = .ok (.aload_n 0, 1) := by decide +kernel
theorem dX3_meetsSome_6 : decode cX3_meetsSome 6 = .ok (.getfield 56, 3) := by decide +kernel
theorem dX3_meetsSome_9 : decode cX3_meetsSome 9 = .ok (.if_icmp .ge 40, 3) := by decide +kernel
theorem dX3_meetsSome_12 : decode cX3_meetsSome 12 = .ok (.iload 6, 2) := by decide +kernel
theorem dX3_meetsSome_14 : decode cX3_meetsSome 14 = .ok (.iload 5, 2) := by decide +kernel
theorem dX3_meetsSome_16 : decode cX3_meetsSome 16 = .ok (.if_icmp .eq 27, 3) := by decide +kernel
theorem dX3_meetsSome_19 : decode cX3_meetsSome 19 = .ok (.lload_n 1, 1) := by decide +kernel
theorem dX3_meetsSome_20 : decode cX3_meetsSome 20 = .ok (.lload_n 3, 1) := by decide +kernel
theorem dX3_meetsSome_21 : decode cX3_meetsSome 21 = .ok (.aload_n 0, 1) := by decide +kernel
theorem dX3_meetsSome_22 : decode cX3_meetsSome 22 = .ok (.getfield 19, 3) := by decide +kernel
theorem dX3_meetsSome_25 : decode cX3_meetsSome 25 = .ok (.iload 6, 2) := by decide +kernel
theorem dX3_meetsSome_27 : decode cX3_meetsSome 27 = .ok (.laload, 1) := by decide +kernel
theorem dX3_meetsSome_28 : decode cX3_meetsSome 28 = .ok (.aload_n 0, 1) := by decide +kernel
theorem dX3_meetsSome_29 : decode cX3_meetsSome 29 = .ok (.getfield 22, 3) := by decide +kernel
theorem dX3_meetsSome_32 : decode cX3_meetsSome 32 = .ok (.iload 6, 2) := by decide +kernel
theorem dX3_meetsSome_34 : decode cX3_meetsSome 34 = .ok (.laload, 1) := by decide +kernel
theorem dX3_meetsSome_35 : decode cX3_meetsSome 35 = .ok (.invokestatic 59, 3) := by decide +kernel
theorem dX3_meetsSome_38 : decode cX3_meetsSome 38 = .ok (.ifCond .eq 5, 3) := by decide +kernel
theorem dX3_meetsSome_41 : decode cX3_meetsSome 41 = .ok (.iconst 1, 1) := by decide +kernel
theorem dX3_meetsSome_42 : decode cX3_meetsSome 42 = .ok (.ireturn, 1) := by decide +kernel
theorem dX3_meetsSome_43 : decode cX3_meetsSome 43 = .ok (.iinc 6 1, 3) := by decide +kernel
theorem dX3_meetsSome_46 : decode cX3_meetsSome 46 = .ok (.goto (-43), 3) := by decide +kernel
theorem dX3_meetsSome_49 : decode cX3_meetsSome 49 = .ok (.iconst 0, 1) := by decide +kernel
theorem dX3_meetsSome_50 : decode cX3_meetsSome 50 = .ok (.ireturn, 1) := by decide +kernel
theorem dX3_spanAt_0 : decode cX3_spanAt 0 = .ok (.iconst 0, 1) := by decide +kernel
theorem dX3_spanAt_1 : decode cX3_spanAt 1 = .ok (.istore_n 3, 1) := by decide +kernel
theorem dX3_spanAt_2 : decode cX3_spanAt 2 = .ok (.iload_n 3, 1) := by decide +kernel
theorem dX3_spanAt_3 : decode cX3_spanAt 3 = .ok (.aload_n 0, 1) := by decide +kernel
theorem dX3_spanAt_4 : decode cX3_spanAt 4 = .ok (.getfield 56, 3) := by decide +kernel
theorem dX3_spanAt_7 : decode cX3_spanAt 7 = .ok (.if_icmp .ge 33, 3) := by decide +kernel
theorem dX3_spanAt_10 : decode cX3_spanAt 10 = .ok (.aload_n 0, 1) := by decide +kernel
theorem dX3_spanAt_11 : decode cX3_spanAt 11 = .ok (.getfield 19, 3) := by decide +kernel
theorem dX3_spanAt_14 : decode cX3_spanAt 14 = .ok (.iload_n 3, 1) := by decide +kernel
theorem dX3_spanAt_15 : decode cX3_spanAt 15 = .ok (.laload, 1) := by decide +kernel
theorem dX3_spanAt_16 : decode cX3_spanAt 16 = .ok (.lload_n 1, 1) := by decide +kernel
theorem dX3_spanAt_17 : decode cX3_spanAt 17 = .ok (.lcmp, 1) := by decide +kernel
theorem dX3_spanAt_18 : decode cX3_spanAt 18 = .ok (.ifCond .gt 16, 3) := by decide +kernel
theorem dX3_spanAt_21 : decode cX3_spanAt 21 = .ok (.lload_n 1, 1) := by decide +kernel
theorem dX3_spanAt_22 : decode cX3_spanAt 22 = .ok (.aload_n 0, 1) := by decide +kernel
theorem dX3_spanAt_23 : decode cX3_spanAt 23 = .ok (.getfield 22, 3) := by decide +kernel
theorem dX3_spanAt_26 : decode cX3_spanAt 26 = .ok (.iload_n 3, 1) := by decide +kernel
theorem dX3_spanAt_27 : decode cX3_spanAt 27 = .ok (.laload, 1) := by decide +kernel
theorem dX3_spanAt_28 : decode cX3_spanAt 28 = .ok (.lcmp, 1) := by decide +kernel
theorem dX3_spanAt_29 : decode cX3_spanAt 29 = .ok (.ifCond .ge 5, 3) := by decide +kernel
theorem dX3_spanAt_32 : decode cX3_spanAt 32 = .ok (.iload_n 3, 1) := by decide +kernel
theorem dX3_spanAt_33 : decode cX3_spanAt 33 = .ok (.ireturn, 1) := by decide +kernel
theorem dX3_spanAt_34 : decode cX3_spanAt 34 = .ok (.iinc 3 1, 3) := by decide +kernel
theorem dX3_spanAt_37 : decode cX3_spanAt 37 = .ok (.goto (-35), 3) := by decide +kernel
theorem dX3_spanAt_40 : decode cX3_spanAt 40 = .ok (.iconst (-1), 1) := by decide +kernel
theorem dX3_spanAt_41 : decode cX3_spanAt 41 = .ok (.ireturn, 1) := by decide +kernel
theorem dX3_free_0 : decode cX3_free 0 = .ok (.bipush 22, 2) := by decide +kernel
theorem dX3_free_2 : decode cX3_free 2 = .ok (.newarray .long, 2) := by decide +kernel
theorem dX3_free_4 : decode cX3_free 4 = .ok (.astore_n 1, 1) := by decide +kernel
theorem dX3_free_5 : decode cX3_free 5 = .ok (.iconst 0, 1) := by decide +kernel
theorem dX3_free_6 : decode cX3_free 6 = .ok (.istore_n 2, 1) := by decide +kernel
theorem dX3_free_7 : decode cX3_free 7 = .ok (.aload_n 0, 1) := by decide +kernel
theorem dX3_free_8 : decode cX3_free 8 = .ok (.getfield 53, 3) := by decide +kernel
theorem dX3_free_11 : decode cX3_free 11 = .ok (.lstore_n 3, 1) := by decide +kernel
theorem dX3_free_12 : decode cX3_free 12 = .ok (.lload_n 3, 1) := by decide +kernel
theorem dX3_free_13 : decode cX3_free 13 = .ok (.aload_n 0, 1) := by decide +kernel
theorem dX3_free_14 : decode cX3_free 14 = .ok (.getfield 15, 3) := by decide +kernel
theorem dX3_free_17 : decode cX3_free 17 = .ok (.lcmp, 1) := by decide +kernel
theorem dX3_free_18 : decode cX3_free 18 = .ok (.ifCond .ge 99, 3) := by decide +kernel
theorem dX3_free_21 : decode cX3_free 21 = .ok (.aload_n 0, 1) := by decide +kernel
theorem dX3_free_22 : decode cX3_free 22 = .ok (.lload_n 3, 1) := by decide +kernel
theorem dX3_free_23 : decode cX3_free 23 = .ok (.invokevirtual 63, 3) := by decide +kernel
theorem dX3_free_26 : decode cX3_free 26 = .ok (.istore 5, 2) := by decide +kernel
theorem dX3_free_28 : decode cX3_free 28 = .ok (.iload 5, 2) := by decide +kernel
theorem dX3_free_30 : decode cX3_free 30 = .ok (.ifCond .lt 14, 3) := by decide +kernel
theorem dX3_free_33 : decode cX3_free 33 = .ok (.aload_n 0, 1) := by decide +kernel
theorem dX3_free_34 : decode cX3_free 34 = .ok (.getfield 22, 3) := by decide +kernel
theorem dX3_free_37 : decode cX3_free 37 = .ok (.iload 5, 2) := by decide +kernel
theorem dX3_free_39 : decode cX3_free 39 = .ok (.laload, 1) := by decide +kernel
theorem dX3_free_40 : decode cX3_free 40 = .ok (.lstore_n 3, 1) := by decide +kernel
theorem dX3_free_41 : decode cX3_free 41 = .ok (.goto (-29), 3) := by decide +kernel
theorem dX3_free_44 : decode cX3_free 44 = .ok (.aload_n 1, 1) := by decide +kernel
theorem dX3_free_45 : decode cX3_free 45 = .ok (.iload_n 2, 1) := by decide +kernel
theorem dX3_free_46 : decode cX3_free 46 = .ok (.lload_n 3, 1) := by decide +kernel
theorem dX3_free_47 : decode cX3_free 47 = .ok (.lastore, 1) := by decide +kernel
theorem dX3_free_48 : decode cX3_free 48 = .ok (.aload_n 0, 1) := by decide +kernel
theorem dX3_free_49 : decode cX3_free 49 = .ok (.getfield 15, 3) := by decide +kernel
theorem dX3_free_52 : decode cX3_free 52 = .ok (.lstore_n 3, 1) := by decide +kernel
theorem dX3_free_53 : decode cX3_free 53 = .ok (.iconst 0, 1) := by decide +kernel
theorem dX3_free_54 : decode cX3_free 54 = .ok (.istore 6, 2) := by decide +kernel
theorem dX3_free_56 : decode cX3_free 56 = .ok (.iload 6, 2) := by decide +kernel
theorem dX3_free_58 : decode cX3_free 58 = .ok (.aload_n 0, 1) := by decide +kernel
theorem dX3_free_59 : decode cX3_free 59 = .ok (.getfield 56, 3) := by decide +kernel
theorem dX3_free_62 : decode cX3_free 62 = .ok (.if_icmp .ge 43, 3) := by decide +kernel
theorem dX3_free_65 : decode cX3_free 65 = .ok (.aload_n 0, 1) := by decide +kernel
theorem dX3_free_66 : decode cX3_free 66 = .ok (.getfield 19, 3) := by decide +kernel
theorem dX3_free_69 : decode cX3_free 69 = .ok (.iload 6, 2) := by decide +kernel
theorem dX3_free_71 : decode cX3_free 71 = .ok (.laload, 1) := by decide +kernel
theorem dX3_free_72 : decode cX3_free 72 = .ok (.aload_n 1, 1) := by decide +kernel
theorem dX3_free_73 : decode cX3_free 73 = .ok (.iload_n 2, 1) := by decide +kernel
theorem dX3_free_74 : decode cX3_free 74 = .ok (.laload, 1) := by decide +kernel
theorem dX3_free_75 : decode cX3_free 75 = .ok (.lcmp, 1) := by decide +kernel
theorem dX3_free_76 : decode cX3_free 76 = .ok (.ifCond .le 23, 3) := by decide +kernel
theorem dX3_free_79 : decode cX3_free 79 = .ok (.aload_n 0, 1) := by decide +kernel
theorem dX3_free_80 : decode cX3_free 80 = .ok (.getfield 19, 3) := by decide +kernel
theorem dX3_free_83 : decode cX3_free 83 = .ok (.iload 6, 2) := by decide +kernel
theorem dX3_free_85 : decode cX3_free 85 = .ok (.laload, 1) := by decide +kernel
theorem dX3_free_86 : decode cX3_free 86 = .ok (.lload_n 3, 1) := by decide +kernel
theorem dX3_free_87 : decode cX3_free 87 = .ok (.lcmp, 1) := by decide +kernel
theorem dX3_free_88 : decode cX3_free 88 = .ok (.ifCond .ge 11, 3) := by decide +kernel
theorem dX3_free_91 : decode cX3_free 91 = .ok (.aload_n 0, 1) := by decide +kernel
theorem dX3_free_92 : decode cX3_free 92 = .ok (.getfield 19, 3) := by decide +kernel
theorem dX3_free_95 : decode cX3_free 95 = .ok (.iload 6, 2) := by decide +kernel
theorem dX3_free_97 : decode cX3_free 97 = .ok (.laload, 1) := by decide +kernel
theorem dX3_free_98 : decode cX3_free 98 = .ok (.lstore_n 3, 1) := by decide +kernel
theorem dX3_free_99 : decode cX3_free 99 = .ok (.iinc 6 1, 3) := by decide +kernel
theorem dX3_free_102 : decode cX3_free 102 = .ok (.goto (-46), 3) := by decide +kernel
theorem dX3_free_105 : decode cX3_free 105 = .ok (.aload_n 1, 1) := by decide +kernel
theorem dX3_free_106 : decode cX3_free 106 = .ok (.iload_n 2, 1) := by decide +kernel
theorem dX3_free_107 : decode cX3_free 107 = .ok (.iconst 1, 1) := by decide +kernel
theorem dX3_free_108 : decode cX3_free 108 = .ok (.iadd, 1) := by decide +kernel
theorem dX3_free_109 : decode cX3_free 109 = .ok (.lload_n 3, 1) := by decide +kernel
theorem dX3_free_110 : decode cX3_free 110 = .ok (.lastore, 1) := by decide +kernel
theorem dX3_free_111 : decode cX3_free 111 = .ok (.iinc 2 2, 3) := by decide +kernel
theorem dX3_free_114 : decode cX3_free 114 = .ok (.goto (-102), 3) := by decide +kernel
theorem dX3_free_117 : decode cX3_free 117 = .ok (.aload_n 1, 1) := by decide +kernel
theorem dX3_free_118 : decode cX3_free 118 = .ok (.areturn, 1) := by decide +kernel
theorem dX3_freesOf_0 : decode cX3_freesOf 0 = .ok (.iconst 0, 1) := by decide +kernel
theorem dX3_freesOf_1 : decode cX3_freesOf 1 = .ok (.istore_n 1, 1) := by decide +kernel
theorem dX3_freesOf_2 : decode cX3_freesOf 2 = .ok (.iconst 2, 1) := by decide +kernel
theorem dX3_freesOf_3 : decode cX3_freesOf 3 = .ok (.iload_n 1, 1) := by decide +kernel
theorem dX3_freesOf_4 : decode cX3_freesOf 4 = .ok (.imul, 1) := by decide +kernel
theorem dX3_freesOf_5 : decode cX3_freesOf 5 = .ok (.aload_n 0, 1) := by decide +kernel
theorem dX3_freesOf_6 : decode cX3_freesOf 6 = .ok (.arraylength, 1) := by decide +kernel
theorem dX3_freesOf_7 : decode cX3_freesOf 7 = .ok (.if_icmp .ge 25, 3) := by decide +kernel
theorem dX3_freesOf_10 : decode cX3_freesOf 10 = .ok (.aload_n 0, 1) := by decide +kernel
theorem dX3_freesOf_11 : decode cX3_freesOf 11 = .ok (.iconst 2, 1) := by decide +kernel
theorem dX3_freesOf_12 : decode cX3_freesOf 12 = .ok (.iload_n 1, 1) := by decide +kernel
theorem dX3_freesOf_13 : decode cX3_freesOf 13 = .ok (.imul, 1) := by decide +kernel
theorem dX3_freesOf_14 : decode cX3_freesOf 14 = .ok (.iconst 1, 1) := by decide +kernel
theorem dX3_freesOf_15 : decode cX3_freesOf 15 = .ok (.iadd, 1) := by decide +kernel
theorem dX3_freesOf_16 : decode cX3_freesOf 16 = .ok (.laload, 1) := by decide +kernel
theorem dX3_freesOf_17 : decode cX3_freesOf 17 = .ok (.aload_n 0, 1) := by decide +kernel
theorem dX3_freesOf_18 : decode cX3_freesOf 18 = .ok (.iconst 2, 1) := by decide +kernel
theorem dX3_freesOf_19 : decode cX3_freesOf 19 = .ok (.iload_n 1, 1) := by decide +kernel
theorem dX3_freesOf_20 : decode cX3_freesOf 20 = .ok (.imul, 1) := by decide +kernel
theorem dX3_freesOf_21 : decode cX3_freesOf 21 = .ok (.laload, 1) := by decide +kernel
theorem dX3_freesOf_22 : decode cX3_freesOf 22 = .ok (.lcmp, 1) := by decide +kernel
theorem dX3_freesOf_23 : decode cX3_freesOf 23 = .ok (.ifCond .eq 9, 3) := by decide +kernel
theorem dX3_freesOf_26 : decode cX3_freesOf 26 = .ok (.iinc 1 1, 3) := by decide +kernel
theorem dX3_freesOf_29 : decode cX3_freesOf 29 = .ok (.goto (-27), 3) := by decide +kernel
theorem dX3_freesOf_32 : decode cX3_freesOf 32 = .ok (.iload_n 1, 1) := by decide +kernel
theorem dX3_freesOf_33 : decode cX3_freesOf 33 = .ok (.ireturn, 1) := by decide +kernel
theorem dX3_freeLength_0 : decode cX3_freeLength 0 = .ok (.aload_n 0, 1) := by decide +kernel
theorem dX3_freeLength_1 : decode cX3_freeLength 1 = .ok (.invokevirtual 66, 3) := by decide +kernel
theorem dX3_freeLength_4 : decode cX3_freeLength 4 = .ok (.astore_n 1, 1) := by decide +kernel
theorem dX3_freeLength_5 : decode cX3_freeLength 5 = .ok (.lconst 0, 1) := by decide +kernel
theorem dX3_freeLength_6 : decode cX3_freeLength 6 = .ok (.lstore_n 2, 1) := by decide +kernel
theorem dX3_freeLength_7 : decode cX3_freeLength 7 = .ok (.iconst 0, 1) := by decide +kernel
theorem dX3_freeLength_8 : decode cX3_freeLength 8 = .ok (.istore 4, 2) := by decide +kernel
theorem dX3_freeLength_10 : decode cX3_freeLength 10 = .ok (.iload 4, 2) := by decide +kernel
theorem dX3_freeLength_12 : decode cX3_freeLength 12 = .ok (.aload_n 1, 1) := by decide +kernel
theorem dX3_freeLength_13 : decode cX3_freeLength 13 = .ok (.invokestatic 70, 3) := by decide +kernel
theorem dX3_freeLength_16 : decode cX3_freeLength 16 = .ok (.if_icmp .ge 27, 3) := by decide +kernel
theorem dX3_freeLength_19 : decode cX3_freeLength 19 = .ok (.lload_n 2, 1) := by decide +kernel
theorem dX3_freeLength_20 : decode cX3_freeLength 20 = .ok (.aload_n 1, 1) := by decide +kernel
theorem dX3_freeLength_21 : decode cX3_freeLength 21 = .ok (.iconst 2, 1) := by decide +kernel
theorem dX3_freeLength_22 : decode cX3_freeLength 22 = .ok (.iload 4, 2) := by decide +kernel
theorem dX3_freeLength_24 : decode cX3_freeLength 24 = .ok (.imul, 1) := by decide +kernel
theorem dX3_freeLength_25 : decode cX3_freeLength 25 = .ok (.iconst 1, 1) := by decide +kernel
theorem dX3_freeLength_26 : decode cX3_freeLength 26 = .ok (.iadd, 1) := by decide +kernel
theorem dX3_freeLength_27 : decode cX3_freeLength 27 = .ok (.laload, 1) := by decide +kernel
theorem dX3_freeLength_28 : decode cX3_freeLength 28 = .ok (.aload_n 1, 1) := by decide +kernel
theorem dX3_freeLength_29 : decode cX3_freeLength 29 = .ok (.iconst 2, 1) := by decide +kernel
theorem dX3_freeLength_30 : decode cX3_freeLength 30 = .ok (.iload 4, 2) := by decide +kernel
theorem dX3_freeLength_32 : decode cX3_freeLength 32 = .ok (.imul, 1) := by decide +kernel
theorem dX3_freeLength_33 : decode cX3_freeLength 33 = .ok (.laload, 1) := by decide +kernel
theorem dX3_freeLength_34 : decode cX3_freeLength 34 = .ok (.lsub, 1) := by decide +kernel
theorem dX3_freeLength_35 : decode cX3_freeLength 35 = .ok (.ladd, 1) := by decide +kernel
theorem dX3_freeLength_36 : decode cX3_freeLength 36 = .ok (.lstore_n 2, 1) := by decide +kernel
theorem dX3_freeLength_37 : decode cX3_freeLength 37 = .ok (.iinc 4 1, 3) := by decide +kernel
theorem dX3_freeLength_40 : decode cX3_freeLength 40 = .ok (.goto (-30), 3) := by decide +kernel
theorem dX3_freeLength_43 : decode cX3_freeLength 43 = .ok (.lload_n 2, 1) := by decide +kernel
theorem dX3_freeLength_44 : decode cX3_freeLength 44 = .ok (.lreturn, 1) := by decide +kernel
theorem dX3_takenLength_0 : decode cX3_takenLength 0 = .ok (.lconst 0, 1) := by decide +kernel
theorem dX3_takenLength_1 : decode cX3_takenLength 1 = .ok (.lstore_n 1, 1) := by decide +kernel
theorem dX3_takenLength_2 : decode cX3_takenLength 2 = .ok (.aload_n 0, 1) := by decide +kernel
theorem dX3_takenLength_3 : decode cX3_takenLength 3 = .ok (.getfield 53, 3) := by decide +kernel
theorem dX3_takenLength_6 : decode cX3_takenLength 6 = .ok (.lstore_n 3, 1) := by decide +kernel
theorem dX3_takenLength_7 : decode cX3_takenLength 7 = .ok (.lload_n 3, 1) := by decide +kernel
theorem dX3_takenLength_8 : decode cX3_takenLength 8 = .ok (.aload_n 0, 1) := by decide +kernel
theorem dX3_takenLength_9 : decode cX3_takenLength 9 = .ok (.getfield 15, 3) := by decide +kernel
theorem dX3_takenLength_12 : decode cX3_takenLength 12 = .ok (.lcmp, 1) := by decide +kernel
theorem dX3_takenLength_13 : decode cX3_takenLength 13 = .ok (.ifCond .ge 109, 3) := by decide +kernel
theorem dX3_takenLength_16 : decode cX3_takenLength 16 = .ok (.aload_n 0, 1) := by decide +kernel
theorem dX3_takenLength_17 : decode cX3_takenLength 17 = .ok (.lload_n 3, 1) := by decide +kernel
theorem dX3_takenLength_18 : decode cX3_takenLength 18 = .ok (.invokevirtual 63, 3) := by decide +kernel
theorem dX3_takenLength_21 : decode cX3_takenLength 21 = .ok (.istore 5, 2) := by decide +kernel
theorem dX3_takenLength_23 : decode cX3_takenLength 23 = .ok (.aload_n 0, 1) := by decide +kernel
theorem dX3_takenLength_24 : decode cX3_takenLength 24 = .ok (.getfield 15, 3) := by decide +kernel
theorem dX3_takenLength_27 : decode cX3_takenLength 27 = .ok (.lstore 6, 2) := by decide +kernel
theorem dX3_takenLength_29 : decode cX3_takenLength 29 = .ok (.iload 5, 2) := by decide +kernel
theorem dX3_takenLength_31 : decode cX3_takenLength 31 = .ok (.ifCond .lt 12, 3) := by decide +kernel
theorem dX3_takenLength_34 : decode cX3_takenLength 34 = .ok (.aload_n 0, 1) := by decide +kernel
theorem dX3_takenLength_35 : decode cX3_takenLength 35 = .ok (.getfield 22, 3) := by decide +kernel
theorem dX3_takenLength_38 : decode cX3_takenLength 38 = .ok (.iload 5, 2) := by decide +kernel
theorem dX3_takenLength_40 : decode cX3_takenLength 40 = .ok (.laload, 1) := by decide +kernel
theorem dX3_takenLength_41 : decode cX3_takenLength 41 = .ok (.lstore 6, 2) := by decide +kernel
theorem dX3_takenLength_43 : decode cX3_takenLength 43 = .ok (.iconst 0, 1) := by decide +kernel
theorem dX3_takenLength_44 : decode cX3_takenLength 44 = .ok (.istore 8, 2) := by decide +kernel
theorem dX3_takenLength_46 : decode cX3_takenLength 46 = .ok (.iload 8, 2) := by decide +kernel
theorem dX3_takenLength_48 : decode cX3_takenLength 48 = .ok (.aload_n 0, 1) := by decide +kernel
theorem dX3_takenLength_49 : decode cX3_takenLength 49 = .ok (.getfield 56, 3) := by decide +kernel
theorem dX3_takenLength_52 : decode cX3_takenLength 52 = .ok (.if_icmp .ge 48, 3) := by decide +kernel
theorem dX3_takenLength_55 : decode cX3_takenLength 55 = .ok (.iload 5, 2) := by decide +kernel
theorem dX3_takenLength_57 : decode cX3_takenLength 57 = .ok (.ifCond .ge 43, 3) := by decide +kernel
theorem dX3_takenLength_60 : decode cX3_takenLength 60 = .ok (.aload_n 0, 1) := by decide +kernel
theorem dX3_takenLength_61 : decode cX3_takenLength 61 = .ok (.getfield 19, 3) := by decide +kernel
theorem dX3_takenLength_64 : decode cX3_takenLength 64 = .ok (.iload 8, 2) := by decide +kernel
theorem dX3_takenLength_66 : decode cX3_takenLength 66 = .ok (.laload, 1) := by decide +kernel
theorem dX3_takenLength_67 : decode cX3_takenLength 67 = .ok (.lload_n 3, 1) := by decide +kernel
theorem dX3_takenLength_68 : decode cX3_takenLength 68 = .ok (.lcmp, 1) := by decide +kernel
theorem dX3_takenLength_69 : decode cX3_takenLength 69 = .ok (.ifCond .le 25, 3) := by decide +kernel
theorem dX3_takenLength_72 : decode cX3_takenLength 72 = .ok (.aload_n 0, 1) := by decide +kernel
theorem dX3_takenLength_73 : decode cX3_takenLength 73 = .ok (.getfield 19, 3) := by decide +kernel
theorem dX3_takenLength_76 : decode cX3_takenLength 76 = .ok (.iload 8, 2) := by decide +kernel
theorem dX3_takenLength_78 : decode cX3_takenLength 78 = .ok (.laload, 1) := by decide +kernel
theorem dX3_takenLength_79 : decode cX3_takenLength 79 = .ok (.lload 6, 2) := by decide +kernel
theorem dX3_takenLength_81 : decode cX3_takenLength 81 = .ok (.lcmp, 1) := by decide +kernel
theorem dX3_takenLength_82 : decode cX3_takenLength 82 = .ok (.ifCond .ge 12, 3) := by decide +kernel
theorem dX3_takenLength_85 : decode cX3_takenLength 85 = .ok (.aload_n 0, 1) := by decide +kernel
theorem dX3_takenLength_86 : decode cX3_takenLength 86 = .ok (.getfield 19, 3) := by decide +kernel
theorem dX3_takenLength_89 : decode cX3_takenLength 89 = .ok (.iload 8, 2) := by decide +kernel
theorem dX3_takenLength_91 : decode cX3_takenLength 91 = .ok (.laload, 1) := by decide +kernel
theorem dX3_takenLength_92 : decode cX3_takenLength 92 = .ok (.lstore 6, 2) := by decide +kernel
theorem dX3_takenLength_94 : decode cX3_takenLength 94 = .ok (.iinc 8 1, 3) := by decide +kernel
theorem dX3_takenLength_97 : decode cX3_takenLength 97 = .ok (.goto (-51), 3) := by decide +kernel
theorem dX3_takenLength_100 : decode cX3_takenLength 100 = .ok (.lload_n 1, 1) := by decide +kernel
theorem dX3_takenLength_101 : decode cX3_takenLength 101 = .ok (.iload 5, 2) := by decide +kernel
theorem dX3_takenLength_103 : decode cX3_takenLength 103 = .ok (.ifCond .lt 10, 3) := by decide +kernel
theorem dX3_takenLength_106 : decode cX3_takenLength 106 = .ok (.lload 6, 2) := by decide +kernel
theorem dX3_takenLength_108 : decode cX3_takenLength 108 = .ok (.lload_n 3, 1) := by decide +kernel
theorem dX3_takenLength_109 : decode cX3_takenLength 109 = .ok (.lsub, 1) := by decide +kernel
theorem dX3_takenLength_110 : decode cX3_takenLength 110 = .ok (.goto 4, 3) := by decide +kernel
theorem dX3_takenLength_113 : decode cX3_takenLength 113 = .ok (.lconst 0, 1) := by decide +kernel
theorem dX3_takenLength_114 : decode cX3_takenLength 114 = .ok (.ladd, 1) := by decide +kernel
theorem dX3_takenLength_115 : decode cX3_takenLength 115 = .ok (.lstore_n 1, 1) := by decide +kernel
theorem dX3_takenLength_116 : decode cX3_takenLength 116 = .ok (.lload 6, 2) := by decide +kernel
theorem dX3_takenLength_118 : decode cX3_takenLength 118 = .ok (.lstore_n 3, 1) := by decide +kernel
theorem dX3_takenLength_119 : decode cX3_takenLength 119 = .ok (.goto (-112), 3) := by decide +kernel
theorem dX3_takenLength_122 : decode cX3_takenLength 122 = .ok (.lload_n 1, 1) := by decide +kernel
theorem dX3_takenLength_123 : decode cX3_takenLength 123 = .ok (.lreturn, 1) := by decide +kernel
theorem dX3_deepest_0 : decode cX3_deepest 0 = .ok (.iconst 0, 1) := by decide +kernel
theorem dX3_deepest_1 : decode cX3_deepest 1 = .ok (.istore_n 3, 1) := by decide +kernel
theorem dX3_deepest_2 : decode cX3_deepest 2 = .ok (.iconst 0, 1) := by decide +kernel
theorem dX3_deepest_3 : decode cX3_deepest 3 = .ok (.istore 4, 2) := by decide +kernel
theorem dX3_deepest_5 : decode cX3_deepest 5 = .ok (.iload 4, 2) := by decide +kernel
theorem dX3_deepest_7 : decode cX3_deepest 7 = .ok (.iload_n 2, 1) := by decide +kernel
theorem dX3_deepest_8 : decode cX3_deepest 8 = .ok (.if_icmp .ge 68, 3) := by decide +kernel
theorem dX3_deepest_11 : decode cX3_deepest 11 = .ok (.iconst 0, 1) := by decide +kernel
theorem dX3_deepest_12 : decode cX3_deepest 12 = .ok (.istore 5, 2) := by decide +kernel
theorem dX3_deepest_14 : decode cX3_deepest 14 = .ok (.iconst 0, 1) := by decide +kernel
theorem dX3_deepest_15 : decode cX3_deepest 15 = .ok (.istore 6, 2) := by decide +kernel
theorem dX3_deepest_17 : decode cX3_deepest 17 = .ok (.iload 6, 2) := by decide +kernel
theorem dX3_deepest_19 : decode cX3_deepest 19 = .ok (.iload_n 2, 1) := by decide +kernel
theorem dX3_deepest_20 : decode cX3_deepest 20 = .ok (.if_icmp .ge 43, 3) := by decide +kernel
theorem dX3_deepest_23 : decode cX3_deepest 23 = .ok (.iload 5, 2) := by decide +kernel
theorem dX3_deepest_25 : decode cX3_deepest 25 = .ok (.aload_n 0, 1) := by decide +kernel
theorem dX3_deepest_26 : decode cX3_deepest 26 = .ok (.iload 6, 2) := by decide +kernel
theorem dX3_deepest_28 : decode cX3_deepest 28 = .ok (.laload, 1) := by decide +kernel
theorem dX3_deepest_29 : decode cX3_deepest 29 = .ok (.aload_n 0, 1) := by decide +kernel
theorem dX3_deepest_30 : decode cX3_deepest 30 = .ok (.iload 4, 2) := by decide +kernel
theorem dX3_deepest_32 : decode cX3_deepest 32 = .ok (.laload, 1) := by decide +kernel
theorem dX3_deepest_33 : decode cX3_deepest 33 = .ok (.lcmp, 1) := by decide +kernel
theorem dX3_deepest_34 : decode cX3_deepest 34 = .ok (.ifCond .gt 19, 3) := by decide +kernel
theorem dX3_deepest_37 : decode cX3_deepest 37 = .ok (.aload_n 0, 1) := by decide +kernel
theorem dX3_deepest_38 : decode cX3_deepest 38 = .ok (.iload 4, 2) := by decide +kernel
theorem dX3_deepest_40 : decode cX3_deepest 40 = .ok (.laload, 1) := by decide +kernel
theorem dX3_deepest_41 : decode cX3_deepest 41 = .ok (.aload_n 1, 1) := by decide +kernel
theorem dX3_deepest_42 : decode cX3_deepest 42 = .ok (.iload 6, 2) := by decide +kernel
theorem dX3_deepest_44 : decode cX3_deepest 44 = .ok (.laload, 1) := by decide +kernel
theorem dX3_deepest_45 : decode cX3_deepest 45 = .ok (.lcmp, 1) := by decide +kernel
theorem dX3_deepest_46 : decode cX3_deepest 46 = .ok (.ifCond .ge 7, 3) := by decide +kernel
theorem dX3_deepest_49 : decode cX3_deepest 49 = .ok (.iconst 1, 1) := by decide +kernel
theorem dX3_deepest_50 : decode cX3_deepest 50 = .ok (.goto 4, 3) := by decide +kernel
theorem dX3_deepest_53 : decode cX3_deepest 53 = .ok (.iconst 0, 1) := by decide +kernel
theorem dX3_deepest_54 : decode cX3_deepest 54 = .ok (.iadd, 1) := by decide +kernel
theorem dX3_deepest_55 : decode cX3_deepest 55 = .ok (.istore 5, 2) := by decide +kernel
theorem dX3_deepest_57 : decode cX3_deepest 57 = .ok (.iinc 6 1, 3) := by decide +kernel
theorem dX3_deepest_60 : decode cX3_deepest 60 = .ok (.goto (-43), 3) := by decide +kernel
theorem dX3_deepest_63 : decode cX3_deepest 63 = .ok (.iload_n 3, 1) := by decide +kernel
theorem dX3_deepest_64 : decode cX3_deepest 64 = .ok (.iload 5, 2) := by decide +kernel
theorem dX3_deepest_66 : decode cX3_deepest 66 = .ok (.invokestatic 74, 3) := by decide +kernel
theorem dX3_deepest_69 : decode cX3_deepest 69 = .ok (.istore_n 3, 1) := by decide +kernel
theorem dX3_deepest_70 : decode cX3_deepest 70 = .ok (.iinc 4 1, 3) := by decide +kernel
theorem dX3_deepest_73 : decode cX3_deepest 73 = .ok (.goto (-68), 3) := by decide +kernel
theorem dX3_deepest_76 : decode cX3_deepest 76 = .ok (.iload_n 3, 1) := by decide +kernel
theorem dX3_deepest_77 : decode cX3_deepest 77 = .ok (.ireturn, 1) := by decide +kernel
theorem dX3_fits_0 : decode cX3_fits 0 = .ok (.aload_n 0, 1) := by decide +kernel
theorem dX3_fits_1 : decode cX3_fits 1 = .ok (.lload_n 1, 1) := by decide +kernel
theorem dX3_fits_2 : decode cX3_fits 2 = .ok (.lload_n 1, 1) := by decide +kernel
theorem dX3_fits_3 : decode cX3_fits 3 = .ok (.lload_n 3, 1) := by decide +kernel
theorem dX3_fits_4 : decode cX3_fits 4 = .ok (.ladd, 1) := by decide +kernel
theorem dX3_fits_5 : decode cX3_fits 5 = .ok (.invokevirtual 80, 3) := by decide +kernel
theorem dX3_fits_8 : decode cX3_fits 8 = .ok (.ifCond .eq 19, 3) := by decide +kernel
theorem dX3_fits_11 : decode cX3_fits 11 = .ok (.aload_n 0, 1) := by decide +kernel
theorem dX3_fits_12 : decode cX3_fits 12 = .ok (.lload_n 1, 1) := by decide +kernel
theorem dX3_fits_13 : decode cX3_fits 13 = .ok (.lload_n 1, 1) := by decide +kernel
theorem dX3_fits_14 : decode cX3_fits 14 = .ok (.lload_n 3, 1) := by decide +kernel
theorem dX3_fits_15 : decode cX3_fits 15 = .ok (.ladd, 1) := by decide +kernel
theorem dX3_fits_16 : decode cX3_fits 16 = .ok (.iconst (-1), 1) := by decide +kernel
theorem dX3_fits_17 : decode cX3_fits 17 = .ok (.invokevirtual 84, 3) := by decide +kernel
theorem dX3_fits_20 : decode cX3_fits 20 = .ok (.ifCond .ne 7, 3) := by decide +kernel
theorem dX3_fits_23 : decode cX3_fits 23 = .ok (.iconst 1, 1) := by decide +kernel
theorem dX3_fits_24 : decode cX3_fits 24 = .ok (.goto 4, 3) := by decide +kernel
theorem dX3_fits_27 : decode cX3_fits 27 = .ok (.iconst 0, 1) := by decide +kernel
theorem dX3_fits_28 : decode cX3_fits 28 = .ok (.ireturn, 1) := by decide +kernel
theorem dX3_wishesMeet_0 : decode cX3_wishesMeet 0 = .ok (.aload_n 0, 1) := by decide +kernel
theorem dX3_wishesMeet_1 : decode cX3_wishesMeet 1 = .ok (.getfield 29, 3) := by decide +kernel
theorem dX3_wishesMeet_4 : decode cX3_wishesMeet 4 = .ok (.iload_n 1, 1) := by decide +kernel
theorem dX3_wishesMeet_5 : decode cX3_wishesMeet 5 = .ok (.laload, 1) := by decide +kernel
theorem dX3_wishesMeet_6 : decode cX3_wishesMeet 6 = .ok (.aload_n 0, 1) := by decide +kernel
theorem dX3_wishesMeet_7 : decode cX3_wishesMeet 7 = .ok (.getfield 32, 3) := by decide +kernel
theorem dX3_wishesMeet_10 : decode cX3_wishesMeet 10 = .ok (.iload_n 1, 1) := by decide +kernel
theorem dX3_wishesMeet_11 : decode cX3_wishesMeet 11 = .ok (.laload, 1) := by decide +kernel
theorem dX3_wishesMeet_12 : decode cX3_wishesMeet 12 = .ok (.aload_n 0, 1) := by decide +kernel
theorem dX3_wishesMeet_13 : decode cX3_wishesMeet 13 = .ok (.getfield 29, 3) := by decide +kernel
theorem dX3_wishesMeet_16 : decode cX3_wishesMeet 16 = .ok (.iload_n 2, 1) := by decide +kernel
theorem dX3_wishesMeet_17 : decode cX3_wishesMeet 17 = .ok (.laload, 1) := by decide +kernel
theorem dX3_wishesMeet_18 : decode cX3_wishesMeet 18 = .ok (.aload_n 0, 1) := by decide +kernel
theorem dX3_wishesMeet_19 : decode cX3_wishesMeet 19 = .ok (.getfield 32, 3) := by decide +kernel
theorem dX3_wishesMeet_22 : decode cX3_wishesMeet 22 = .ok (.iload_n 2, 1) := by decide +kernel
theorem dX3_wishesMeet_23 : decode cX3_wishesMeet 23 = .ok (.laload, 1) := by decide +kernel
theorem dX3_wishesMeet_24 : decode cX3_wishesMeet 24 = .ok (.invokestatic 59, 3) := by decide +kernel
theorem dX3_wishesMeet_27 : decode cX3_wishesMeet 27 = .ok (.ireturn, 1) := by decide +kernel
theorem dX3_areApart_0 : decode cX3_areApart 0 = .ok (.iconst 0, 1) := by decide +kernel
theorem dX3_areApart_1 : decode cX3_areApart 1 = .ok (.istore_n 2, 1) := by decide +kernel
theorem dX3_areApart_2 : decode cX3_areApart 2 = .ok (.iload_n 2, 1) := by decide +kernel
theorem dX3_areApart_3 : decode cX3_areApart 3 = .ok (.aload_n 0, 1) := by decide +kernel
theorem dX3_areApart_4 : decode cX3_areApart 4 = .ok (.getfield 88, 3) := by decide +kernel
theorem dX3_areApart_7 : decode cX3_areApart 7 = .ok (.if_icmp .ge 46, 3) := by decide +kernel
theorem dX3_areApart_10 : decode cX3_areApart 10 = .ok (.iconst 0, 1) := by decide +kernel
theorem dX3_areApart_11 : decode cX3_areApart 11 = .ok (.istore_n 3, 1) := by decide +kernel
theorem dX3_areApart_12 : decode cX3_areApart 12 = .ok (.iload_n 3, 1) := by decide +kernel
theorem dX3_areApart_13 : decode cX3_areApart 13 = .ok (.iload_n 2, 1) := by decide +kernel
theorem dX3_areApart_14 : decode cX3_areApart 14 = .ok (.if_icmp .ge 33, 3) := by decide +kernel
theorem dX3_areApart_17 : decode cX3_areApart 17 = .ok (.iload_n 1, 1) := by decide +kernel
theorem dX3_areApart_18 : decode cX3_areApart 18 = .ok (.iload_n 2, 1) := by decide +kernel
theorem dX3_areApart_19 : decode cX3_areApart 19 = .ok (.ishr, 1) := by decide +kernel
theorem dX3_areApart_20 : decode cX3_areApart 20 = .ok (.iload_n 1, 1) := by decide +kernel
theorem dX3_areApart_21 : decode cX3_areApart 21 = .ok (.iload_n 3, 1) := by decide +kernel
theorem dX3_areApart_22 : decode cX3_areApart 22 = .ok (.ishr, 1) := by decide +kernel
theorem dX3_areApart_23 : decode cX3_areApart 23 = .ok (.iand, 1) := by decide +kernel
theorem dX3_areApart_24 : decode cX3_areApart 24 = .ok (.iconst 1, 1) := by decide +kernel
theorem dX3_areApart_25 : decode cX3_areApart 25 = .ok (.iand, 1) := by decide +kernel
theorem dX3_areApart_26 : decode cX3_areApart 26 = .ok (.iconst 1, 1) := by decide +kernel
theorem dX3_areApart_27 : decode cX3_areApart 27 = .ok (.if_icmp .ne 14, 3) := by decide +kernel
theorem dX3_areApart_30 : decode cX3_areApart 30 = .ok (.aload_n 0, 1) := by decide +kernel
theorem dX3_areApart_31 : decode cX3_areApart 31 = .ok (.iload_n 2, 1) := by decide +kernel
theorem dX3_areApart_32 : decode cX3_areApart 32 = .ok (.iload_n 3, 1) := by decide +kernel
theorem dX3_areApart_33 : decode cX3_areApart 33 = .ok (.invokevirtual 91, 3) := by decide +kernel
theorem dX3_areApart_36 : decode cX3_areApart 36 = .ok (.ifCond .eq 5, 3) := by decide +kernel
theorem dX3_areApart_39 : decode cX3_areApart 39 = .ok (.iconst 0, 1) := by decide +kernel
theorem dX3_areApart_40 : decode cX3_areApart 40 = .ok (.ireturn, 1) := by decide +kernel
theorem dX3_areApart_41 : decode cX3_areApart 41 = .ok (.iinc 3 1, 3) := by decide +kernel
theorem dX3_areApart_44 : decode cX3_areApart 44 = .ok (.goto (-32), 3) := by decide +kernel
theorem dX3_areApart_47 : decode cX3_areApart 47 = .ok (.iinc 2 1, 3) := by decide +kernel
theorem dX3_areApart_50 : decode cX3_areApart 50 = .ok (.goto (-48), 3) := by decide +kernel
theorem dX3_areApart_53 : decode cX3_areApart 53 = .ok (.iconst 1, 1) := by decide +kernel
theorem dX3_areApart_54 : decode cX3_areApart 54 = .ok (.ireturn, 1) := by decide +kernel
theorem dX3_chosenNow_0 : decode cX3_chosenNow 0 = .ok (.iconst 0, 1) := by decide +kernel
theorem dX3_chosenNow_1 : decode cX3_chosenNow 1 = .ok (.istore_n 1, 1) := by decide +kernel
theorem dX3_chosenNow_2 : decode cX3_chosenNow 2 = .ok (.iconst (-1), 1) := by decide +kernel
theorem dX3_chosenNow_3 : decode cX3_chosenNow 3 = .ok (.istore_n 2, 1) := by decide +kernel
theorem dX3_chosenNow_4 : decode cX3_chosenNow 4 = .ok (.iconst 0, 1) := by decide +kernel
theorem dX3_chosenNow_5 : decode cX3_chosenNow 5 = .ok (.istore_n 3, 1) := by decide +kernel
theorem dX3_chosenNow_6 : decode cX3_chosenNow 6 = .ok (.iload_n 3, 1) := by decide +kernel
theorem dX3_chosenNow_7 : decode cX3_chosenNow 7 = .ok (.aload_n 0, 1) := by decide +kernel
theorem dX3_chosenNow_8 : decode cX3_chosenNow 8 = .ok (.getfield 88, 3) := by decide +kernel
theorem dX3_chosenNow_11 : decode cX3_chosenNow 11 = .ok (.if_icmp .ge 51, 3) := by decide +kernel
theorem dX3_chosenNow_14 : decode cX3_chosenNow 14 = .ok (.iload_n 1, 1) := by decide +kernel
theorem dX3_chosenNow_15 : decode cX3_chosenNow 15 = .ok (.iload_n 3, 1) := by decide +kernel
theorem dX3_chosenNow_16 : decode cX3_chosenNow 16 = .ok (.ishr, 1) := by decide +kernel
theorem dX3_chosenNow_17 : decode cX3_chosenNow 17 = .ok (.iconst 1, 1) := by decide +kernel
theorem dX3_chosenNow_18 : decode cX3_chosenNow 18 = .ok (.iand, 1) := by decide +kernel
theorem dX3_chosenNow_19 : decode cX3_chosenNow 19 = .ok (.ifCond .ne 37, 3) := by decide +kernel
theorem dX3_chosenNow_22 : decode cX3_chosenNow 22 = .ok (.aload_n 0, 1) := by decide +kernel
theorem dX3_chosenNow_23 : decode cX3_chosenNow 23 = .ok (.iload_n 1, 1) := by decide +kernel
theorem dX3_chosenNow_24 : decode cX3_chosenNow 24 = .ok (.iconst 1, 1) := by decide +kernel
theorem dX3_chosenNow_25 : decode cX3_chosenNow 25 = .ok (.iload_n 3, 1) := by decide +kernel
theorem dX3_chosenNow_26 : decode cX3_chosenNow 26 = .ok (.ishl, 1) := by decide +kernel
theorem dX3_chosenNow_27 : decode cX3_chosenNow 27 = .ok (.ior, 1) := by decide +kernel
theorem dX3_chosenNow_28 : decode cX3_chosenNow 28 = .ok (.invokevirtual 95, 3) := by decide +kernel
theorem dX3_chosenNow_31 : decode cX3_chosenNow 31 = .ok (.ifCond .eq 25, 3) := by decide +kernel
theorem dX3_chosenNow_34 : decode cX3_chosenNow 34 = .ok (.iload_n 2, 1) := by decide +kernel
theorem dX3_chosenNow_35 : decode cX3_chosenNow 35 = .ok (.ifCond .lt 19, 3) := by decide +kernel
theorem dX3_chosenNow_38 : decode cX3_chosenNow 38 = .ok (.aload_n 0, 1) := by decide +kernel
theorem dX3_chosenNow_39 : decode cX3_chosenNow 39 = .ok (.getfield 32, 3) := by decide +kernel
theorem dX3_chosenNow_42 : decode cX3_chosenNow 42 = .ok (.iload_n 3, 1) := by decide +kernel
theorem dX3_chosenNow_43 : decode cX3_chosenNow 43 = .ok (.laload, 1) := by decide +kernel
theorem dX3_chosenNow_44 : decode cX3_chosenNow 44 = .ok (.aload_n 0, 1) := by decide +kernel
theorem dX3_chosenNow_45 : decode cX3_chosenNow 45 = .ok (.getfield 32, 3) := by decide +kernel
theorem dX3_chosenNow_48 : decode cX3_chosenNow 48 = .ok (.iload_n 2, 1) := by decide +kernel
theorem dX3_chosenNow_49 : decode cX3_chosenNow 49 = .ok (.laload, 1) := by decide +kernel
theorem dX3_chosenNow_50 : decode cX3_chosenNow 50 = .ok (.lcmp, 1) := by decide +kernel
theorem dX3_chosenNow_51 : decode cX3_chosenNow 51 = .ok (.ifCond .ge 5, 3) := by decide +kernel
theorem dX3_chosenNow_54 : decode cX3_chosenNow 54 = .ok (.iload_n 3, 1) := by decide +kernel
theorem dX3_chosenNow_55 : decode cX3_chosenNow 55 = .ok (.istore_n 2, 1) := by decide +kernel
theorem dX3_chosenNow_56 : decode cX3_chosenNow 56 = .ok (.iinc 3 1, 3) := by decide +kernel
theorem dX3_chosenNow_59 : decode cX3_chosenNow 59 = .ok (.goto (-53), 3) := by decide +kernel
theorem dX3_chosenNow_62 : decode cX3_chosenNow 62 = .ok (.iload_n 2, 1) := by decide +kernel
theorem dX3_chosenNow_63 : decode cX3_chosenNow 63 = .ok (.ifCond .ge 5, 3) := by decide +kernel
theorem dX3_chosenNow_66 : decode cX3_chosenNow 66 = .ok (.iload_n 1, 1) := by decide +kernel
theorem dX3_chosenNow_67 : decode cX3_chosenNow 67 = .ok (.ireturn, 1) := by decide +kernel
theorem dX3_chosenNow_68 : decode cX3_chosenNow 68 = .ok (.iload_n 1, 1) := by decide +kernel
theorem dX3_chosenNow_69 : decode cX3_chosenNow 69 = .ok (.iconst 1, 1) := by decide +kernel
theorem dX3_chosenNow_70 : decode cX3_chosenNow 70 = .ok (.iload_n 2, 1) := by decide +kernel
theorem dX3_chosenNow_71 : decode cX3_chosenNow 71 = .ok (.ishl, 1) := by decide +kernel
theorem dX3_chosenNow_72 : decode cX3_chosenNow 72 = .ok (.ior, 1) := by decide +kernel
theorem dX3_chosenNow_73 : decode cX3_chosenNow 73 = .ok (.istore_n 1, 1) := by decide +kernel
theorem dX3_chosenNow_74 : decode cX3_chosenNow 74 = .ok (.goto (-72), 3) := by decide +kernel
theorem dX3_ones_0 : decode cX3_ones 0 = .ok (.iconst 0, 1) := by decide +kernel
theorem dX3_ones_1 : decode cX3_ones 1 = .ok (.istore_n 1, 1) := by decide +kernel
theorem dX3_ones_2 : decode cX3_ones 2 = .ok (.iconst 0, 1) := by decide +kernel
theorem dX3_ones_3 : decode cX3_ones 3 = .ok (.istore_n 2, 1) := by decide +kernel
theorem dX3_ones_4 : decode cX3_ones 4 = .ok (.iload_n 2, 1) := by decide +kernel
theorem dX3_ones_5 : decode cX3_ones 5 = .ok (.bipush 31, 2) := by decide +kernel
theorem dX3_ones_7 : decode cX3_ones 7 = .ok (.if_icmp .ge 17, 3) := by decide +kernel
theorem dX3_ones_10 : decode cX3_ones 10 = .ok (.iload_n 1, 1) := by decide +kernel
theorem dX3_ones_11 : decode cX3_ones 11 = .ok (.iload_n 0, 1) := by decide +kernel
theorem dX3_ones_12 : decode cX3_ones 12 = .ok (.iload_n 2, 1) := by decide +kernel
theorem dX3_ones_13 : decode cX3_ones 13 = .ok (.ishr, 1) := by decide +kernel
theorem dX3_ones_14 : decode cX3_ones 14 = .ok (.iconst 1, 1) := by decide +kernel
theorem dX3_ones_15 : decode cX3_ones 15 = .ok (.iand, 1) := by decide +kernel
theorem dX3_ones_16 : decode cX3_ones 16 = .ok (.iadd, 1) := by decide +kernel
theorem dX3_ones_17 : decode cX3_ones 17 = .ok (.istore_n 1, 1) := by decide +kernel
theorem dX3_ones_18 : decode cX3_ones 18 = .ok (.iinc 2 1, 3) := by decide +kernel
theorem dX3_ones_21 : decode cX3_ones 21 = .ok (.goto (-17), 3) := by decide +kernel
theorem dX3_ones_24 : decode cX3_ones 24 = .ok (.iload_n 1, 1) := by decide +kernel
theorem dX3_ones_25 : decode cX3_ones 25 = .ok (.ireturn, 1) := by decide +kernel
theorem dX3_mostOfAll_0 : decode cX3_mostOfAll 0 = .ok (.iconst 0, 1) := by decide +kernel
theorem dX3_mostOfAll_1 : decode cX3_mostOfAll 1 = .ok (.istore_n 1, 1) := by decide +kernel
theorem dX3_mostOfAll_2 : decode cX3_mostOfAll 2 = .ok (.iconst 0, 1) := by decide +kernel
theorem dX3_mostOfAll_3 : decode cX3_mostOfAll 3 = .ok (.istore_n 2, 1) := by decide +kernel
theorem dX3_mostOfAll_4 : decode cX3_mostOfAll 4 = .ok (.iload_n 2, 1) := by decide +kernel
theorem dX3_mostOfAll_5 : decode cX3_mostOfAll 5 = .ok (.iconst 1, 1) := by decide +kernel
theorem dX3_mostOfAll_6 : decode cX3_mostOfAll 6 = .ok (.aload_n 0, 1) := by decide +kernel
theorem dX3_mostOfAll_7 : decode cX3_mostOfAll 7 = .ok (.getfield 88, 3) := by decide +kernel
theorem dX3_mostOfAll_10 : decode cX3_mostOfAll 10 = .ok (.ishl, 1) := by decide +kernel
theorem dX3_mostOfAll_11 : decode cX3_mostOfAll 11 = .ok (.if_icmp .ge 26, 3) := by decide +kernel
theorem dX3_mostOfAll_14 : decode cX3_mostOfAll 14 = .ok (.aload_n 0, 1) := by decide +kernel
theorem dX3_mostOfAll_15 : decode cX3_mostOfAll 15 = .ok (.iload_n 2, 1) := by decide +kernel
theorem dX3_mostOfAll_16 : decode cX3_mostOfAll 16 = .ok (.invokevirtual 95, 3) := by decide +kernel
theorem dX3_mostOfAll_19 : decode cX3_mostOfAll 19 = .ok (.ifCond .eq 12, 3) := by decide +kernel
theorem dX3_mostOfAll_22 : decode cX3_mostOfAll 22 = .ok (.iload_n 1, 1) := by decide +kernel
theorem dX3_mostOfAll_23 : decode cX3_mostOfAll 23 = .ok (.iload_n 2, 1) := by decide +kernel
theorem dX3_mostOfAll_24 : decode cX3_mostOfAll 24 = .ok (.invokestatic 99, 3) := by decide +kernel
theorem dX3_mostOfAll_27 : decode cX3_mostOfAll 27 = .ok (.invokestatic 74, 3) := by decide +kernel
theorem dX3_mostOfAll_30 : decode cX3_mostOfAll 30 = .ok (.istore_n 1, 1) := by decide +kernel
theorem dX3_mostOfAll_31 : decode cX3_mostOfAll 31 = .ok (.iinc 2 1, 3) := by decide +kernel
theorem dX3_mostOfAll_34 : decode cX3_mostOfAll 34 = .ok (.goto (-30), 3) := by decide +kernel
theorem dX3_mostOfAll_37 : decode cX3_mostOfAll 37 = .ok (.iload_n 1, 1) := by decide +kernel
theorem dX3_mostOfAll_38 : decode cX3_mostOfAll 38 = .ok (.ireturn, 1) := by decide +kernel
theorem dX3_nextWish_0 : decode cX3_nextWish 0 = .ok (.iconst (-1), 1) := by decide +kernel
theorem dX3_nextWish_1 : decode cX3_nextWish 1 = .ok (.istore_n 2, 1) := by decide +kernel
theorem dX3_nextWish_2 : decode cX3_nextWish 2 = .ok (.iconst 0, 1) := by decide +kernel
theorem dX3_nextWish_3 : decode cX3_nextWish 3 = .ok (.istore_n 3, 1) := by decide +kernel
theorem dX3_nextWish_4 : decode cX3_nextWish 4 = .ok (.iload_n 3, 1) := by decide +kernel
theorem dX3_nextWish_5 : decode cX3_nextWish 5 = .ok (.aload_n 0, 1) := by decide +kernel
theorem dX3_nextWish_6 : decode cX3_nextWish 6 = .ok (.getfield 88, 3) := by decide +kernel
theorem dX3_nextWish_9 : decode cX3_nextWish 9 = .ok (.if_icmp .ge 37, 3) := by decide +kernel
theorem dX3_nextWish_12 : decode cX3_nextWish 12 = .ok (.aload_n 1, 1) := by decide +kernel
theorem dX3_nextWish_13 : decode cX3_nextWish 13 = .ok (.iload_n 3, 1) := by decide +kernel
theorem dX3_nextWish_14 : decode cX3_nextWish 14 = .ok (.iaload, 1) := by decide +kernel
theorem dX3_nextWish_15 : decode cX3_nextWish 15 = .ok (.ifCond .ge 25, 3) := by decide +kernel
theorem dX3_nextWish_18 : decode cX3_nextWish 18 = .ok (.iload_n 2, 1) := by decide +kernel
theorem dX3_nextWish_19 : decode cX3_nextWish 19 = .ok (.ifCond .lt 19, 3) := by decide +kernel
theorem dX3_nextWish_22 : decode cX3_nextWish 22 = .ok (.aload_n 0, 1) := by decide +kernel
theorem dX3_nextWish_23 : decode cX3_nextWish 23 = .ok (.getfield 29, 3) := by decide +kernel
theorem dX3_nextWish_26 : decode cX3_nextWish 26 = .ok (.iload_n 3, 1) := by decide +kernel
theorem dX3_nextWish_27 : decode cX3_nextWish 27 = .ok (.laload, 1) := by decide +kernel
theorem dX3_nextWish_28 : decode cX3_nextWish 28 = .ok (.aload_n 0, 1) := by decide +kernel
theorem dX3_nextWish_29 : decode cX3_nextWish 29 = .ok (.getfield 29, 3) := by decide +kernel
theorem dX3_nextWish_32 : decode cX3_nextWish 32 = .ok (.iload_n 2, 1) := by decide +kernel
theorem dX3_nextWish_33 : decode cX3_nextWish 33 = .ok (.laload, 1) := by decide +kernel
theorem dX3_nextWish_34 : decode cX3_nextWish 34 = .ok (.lcmp, 1) := by decide +kernel
theorem dX3_nextWish_35 : decode cX3_nextWish 35 = .ok (.ifCond .ge 5, 3) := by decide +kernel
theorem dX3_nextWish_38 : decode cX3_nextWish 38 = .ok (.iload_n 3, 1) := by decide +kernel
theorem dX3_nextWish_39 : decode cX3_nextWish 39 = .ok (.istore_n 2, 1) := by decide +kernel
theorem dX3_nextWish_40 : decode cX3_nextWish 40 = .ok (.iinc 3 1, 3) := by decide +kernel
theorem dX3_nextWish_43 : decode cX3_nextWish 43 = .ok (.goto (-39), 3) := by decide +kernel
theorem dX3_nextWish_46 : decode cX3_nextWish 46 = .ok (.iload_n 2, 1) := by decide +kernel
theorem dX3_nextWish_47 : decode cX3_nextWish 47 = .ok (.ireturn, 1) := by decide +kernel
theorem dX3_roomsNow_0 : decode cX3_roomsNow 0 = .ok (.aload_n 0, 1) := by decide +kernel
theorem dX3_roomsNow_1 : decode cX3_roomsNow 1 = .ok (.getfield 88, 3) := by decide +kernel
theorem dX3_roomsNow_4 : decode cX3_roomsNow 4 = .ok (.newarray .int, 2) := by decide +kernel
theorem dX3_roomsNow_6 : decode cX3_roomsNow 6 = .ok (.astore_n 1, 1) := by decide +kernel
theorem dX3_roomsNow_7 : decode cX3_roomsNow 7 = .ok (.iconst 0, 1) := by decide +kernel
theorem dX3_roomsNow_8 : decode cX3_roomsNow 8 = .ok (.istore_n 2, 1) := by decide +kernel
theorem dX3_roomsNow_9 : decode cX3_roomsNow 9 = .ok (.iload_n 2, 1) := by decide +kernel
theorem dX3_roomsNow_10 : decode cX3_roomsNow 10 = .ok (.aload_n 0, 1) := by decide +kernel
theorem dX3_roomsNow_11 : decode cX3_roomsNow 11 = .ok (.getfield 88, 3) := by decide +kernel
theorem dX3_roomsNow_14 : decode cX3_roomsNow 14 = .ok (.if_icmp .ge 13, 3) := by decide +kernel
theorem dX3_roomsNow_17 : decode cX3_roomsNow 17 = .ok (.aload_n 1, 1) := by decide +kernel
theorem dX3_roomsNow_18 : decode cX3_roomsNow 18 = .ok (.iload_n 2, 1) := by decide +kernel
theorem dX3_roomsNow_19 : decode cX3_roomsNow 19 = .ok (.iconst (-1), 1) := by decide +kernel
theorem dX3_roomsNow_20 : decode cX3_roomsNow 20 = .ok (.iastore, 1) := by decide +kernel
theorem dX3_roomsNow_21 : decode cX3_roomsNow 21 = .ok (.iinc 2 1, 3) := by decide +kernel
theorem dX3_roomsNow_24 : decode cX3_roomsNow 24 = .ok (.goto (-15), 3) := by decide +kernel
theorem dX3_roomsNow_27 : decode cX3_roomsNow 27 = .ok (.aload_n 0, 1) := by decide +kernel
theorem dX3_roomsNow_28 : decode cX3_roomsNow 28 = .ok (.aload_n 1, 1) := by decide +kernel
theorem dX3_roomsNow_29 : decode cX3_roomsNow 29 = .ok (.invokevirtual 103, 3) := by decide +kernel
theorem dX3_roomsNow_32 : decode cX3_roomsNow 32 = .ok (.istore_n 2, 1) := by decide +kernel
theorem dX3_roomsNow_33 : decode cX3_roomsNow 33 = .ok (.iload_n 2, 1) := by decide +kernel
theorem dX3_roomsNow_34 : decode cX3_roomsNow 34 = .ok (.ifCond .lt 60, 3) := by decide +kernel
theorem dX3_roomsNow_37 : decode cX3_roomsNow 37 = .ok (.iconst 0, 1) := by decide +kernel
theorem dX3_roomsNow_38 : decode cX3_roomsNow 38 = .ok (.istore_n 3, 1) := by decide +kernel
theorem dX3_roomsNow_39 : decode cX3_roomsNow 39 = .ok (.iconst 0, 1) := by decide +kernel
theorem dX3_roomsNow_40 : decode cX3_roomsNow 40 = .ok (.istore 4, 2) := by decide +kernel
theorem dX3_roomsNow_42 : decode cX3_roomsNow 42 = .ok (.iload 4, 2) := by decide +kernel
theorem dX3_roomsNow_44 : decode cX3_roomsNow 44 = .ok (.aload_n 0, 1) := by decide +kernel
theorem dX3_roomsNow_45 : decode cX3_roomsNow 45 = .ok (.getfield 88, 3) := by decide +kernel
theorem dX3_roomsNow_48 : decode cX3_roomsNow 48 = .ok (.if_icmp .ge 33, 3) := by decide +kernel
theorem dX3_roomsNow_51 : decode cX3_roomsNow 51 = .ok (.aload_n 1, 1) := by decide +kernel
theorem dX3_roomsNow_52 : decode cX3_roomsNow 52 = .ok (.iload 4, 2) := by decide +kernel
theorem dX3_roomsNow_54 : decode cX3_roomsNow 54 = .ok (.iaload, 1) := by decide +kernel
theorem dX3_roomsNow_55 : decode cX3_roomsNow 55 = .ok (.iload_n 3, 1) := by decide +kernel
theorem dX3_roomsNow_56 : decode cX3_roomsNow 56 = .ok (.if_icmp .ne 19, 3) := by decide +kernel
theorem dX3_roomsNow_59 : decode cX3_roomsNow 59 = .ok (.aload_n 0, 1) := by decide +kernel
theorem dX3_roomsNow_60 : decode cX3_roomsNow 60 = .ok (.iload_n 2, 1) := by decide +kernel
theorem dX3_roomsNow_61 : decode cX3_roomsNow 61 = .ok (.iload 4, 2) := by decide +kernel
theorem dX3_roomsNow_63 : decode cX3_roomsNow 63 = .ok (.invokevirtual 91, 3) := by decide +kernel
theorem dX3_roomsNow_66 : decode cX3_roomsNow 66 = .ok (.ifCond .eq 9, 3) := by decide +kernel
theorem dX3_roomsNow_69 : decode cX3_roomsNow 69 = .ok (.iinc 3 1, 3) := by decide +kernel
theorem dX3_roomsNow_72 : decode cX3_roomsNow 72 = .ok (.iconst (-1), 1) := by decide +kernel
theorem dX3_roomsNow_73 : decode cX3_roomsNow 73 = .ok (.istore 4, 2) := by decide +kernel
theorem dX3_roomsNow_75 : decode cX3_roomsNow 75 = .ok (.iinc 4 1, 3) := by decide +kernel
theorem dX3_roomsNow_78 : decode cX3_roomsNow 78 = .ok (.goto (-36), 3) := by decide +kernel
theorem dX3_roomsNow_81 : decode cX3_roomsNow 81 = .ok (.aload_n 1, 1) := by decide +kernel
theorem dX3_roomsNow_82 : decode cX3_roomsNow 82 = .ok (.iload_n 2, 1) := by decide +kernel
theorem dX3_roomsNow_83 : decode cX3_roomsNow 83 = .ok (.iload_n 3, 1) := by decide +kernel
theorem dX3_roomsNow_84 : decode cX3_roomsNow 84 = .ok (.iastore, 1) := by decide +kernel
theorem dX3_roomsNow_85 : decode cX3_roomsNow 85 = .ok (.aload_n 0, 1) := by decide +kernel
theorem dX3_roomsNow_86 : decode cX3_roomsNow 86 = .ok (.aload_n 1, 1) := by decide +kernel
theorem dX3_roomsNow_87 : decode cX3_roomsNow 87 = .ok (.invokevirtual 103, 3) := by decide +kernel
theorem dX3_roomsNow_90 : decode cX3_roomsNow 90 = .ok (.istore_n 2, 1) := by decide +kernel
theorem dX3_roomsNow_91 : decode cX3_roomsNow 91 = .ok (.goto (-58), 3) := by decide +kernel
theorem dX3_roomsNow_94 : decode cX3_roomsNow 94 = .ok (.aload_n 1, 1) := by decide +kernel
theorem dX3_roomsNow_95 : decode cX3_roomsNow 95 = .ok (.areturn, 1) := by decide +kernel
theorem dX3_roomsOf_0 : decode cX3_roomsOf 0 = .ok (.iconst 0, 1) := by decide +kernel
theorem dX3_roomsOf_1 : decode cX3_roomsOf 1 = .ok (.istore_n 1, 1) := by decide +kernel
theorem dX3_roomsOf_2 : decode cX3_roomsOf 2 = .ok (.aload_n 0, 1) := by decide +kernel
theorem dX3_roomsOf_3 : decode cX3_roomsOf 3 = .ok (.invokevirtual 107, 3) := by decide +kernel
theorem dX3_roomsOf_6 : decode cX3_roomsOf 6 = .ok (.astore_n 2, 1) := by decide +kernel
theorem dX3_roomsOf_7 : decode cX3_roomsOf 7 = .ok (.aload_n 2, 1) := by decide +kernel
theorem dX3_roomsOf_8 : decode cX3_roomsOf 8 = .ok (.arraylength, 1) := by decide +kernel
theorem dX3_roomsOf_9 : decode cX3_roomsOf 9 = .ok (.istore_n 3, 1) := by decide +kernel
theorem dX3_roomsOf_10 : decode cX3_roomsOf 10 = .ok (.iconst 0, 1) := by decide +kernel
theorem dX3_roomsOf_11 : decode cX3_roomsOf 11 = .ok (.istore 4, 2) := by decide +kernel
theorem dX3_roomsOf_13 : decode cX3_roomsOf 13 = .ok (.iload 4, 2) := by decide +kernel
theorem dX3_roomsOf_15 : decode cX3_roomsOf 15 = .ok (.iload_n 3, 1) := by decide +kernel
theorem dX3_roomsOf_16 : decode cX3_roomsOf 16 = .ok (.if_icmp .ge 24, 3) := by decide +kernel
theorem dX3_roomsOf_19 : decode cX3_roomsOf 19 = .ok (.aload_n 2, 1) := by decide +kernel
theorem dX3_roomsOf_20 : decode cX3_roomsOf 20 = .ok (.iload 4, 2) := by decide +kernel
theorem dX3_roomsOf_22 : decode cX3_roomsOf 22 = .ok (.iaload, 1) := by decide +kernel
theorem dX3_roomsOf_23 : decode cX3_roomsOf 23 = .ok (.istore 5, 2) := by decide +kernel
theorem dX3_roomsOf_25 : decode cX3_roomsOf 25 = .ok (.iload_n 1, 1) := by decide +kernel
theorem dX3_roomsOf_26 : decode cX3_roomsOf 26 = .ok (.iload 5, 2) := by decide +kernel
theorem dX3_roomsOf_28 : decode cX3_roomsOf 28 = .ok (.iconst 1, 1) := by decide +kernel
theorem dX3_roomsOf_29 : decode cX3_roomsOf 29 = .ok (.iadd, 1) := by decide +kernel
theorem dX3_roomsOf_30 : decode cX3_roomsOf 30 = .ok (.invokestatic 74, 3) := by decide +kernel
theorem dX3_roomsOf_33 : decode cX3_roomsOf 33 = .ok (.istore_n 1, 1) := by decide +kernel
theorem dX3_roomsOf_34 : decode cX3_roomsOf 34 = .ok (.iinc 4 1, 3) := by decide +kernel
theorem dX3_roomsOf_37 : decode cX3_roomsOf 37 = .ok (.goto (-24), 3) := by decide +kernel
theorem dX3_roomsOf_40 : decode cX3_roomsOf 40 = .ok (.iload_n 1, 1) := by decide +kernel
theorem dX3_roomsOf_41 : decode cX3_roomsOf 41 = .ok (.ireturn, 1) := by decide +kernel
theorem dX3_is_0 : decode cX3_is 0 = .ok (.iload_n 0, 1) := by decide +kernel
theorem dX3_is_1 : decode cX3_is 1 = .ok (.ifCond .lt 12, 3) := by decide +kernel
theorem dX3_is_4 : decode cX3_is 4 = .ok (.iload_n 0, 1) := by decide +kernel
theorem dX3_is_5 : decode cX3_is 5 = .ok (.iconst 4, 1) := by decide +kernel
theorem dX3_is_6 : decode cX3_is 6 = .ok (.if_icmp .ge 7, 3) := by decide +kernel
theorem dX3_is_9 : decode cX3_is 9 = .ok (.iconst 1, 1) := by decide +kernel
theorem dX3_is_10 : decode cX3_is 10 = .ok (.goto 4, 3) := by decide +kernel
theorem dX3_is_13 : decode cX3_is 13 = .ok (.iconst 0, 1) := by decide +kernel
theorem dX3_is_14 : decode cX3_is 14 = .ok (.ireturn, 1) := by decide +kernel
theorem dX3_isSpan_0 : decode cX3_isSpan 0 = .ok (.iload_n 1, 1) := by decide +kernel
theorem dX3_isSpan_1 : decode cX3_isSpan 1 = .ok (.ifCond .lt 15, 3) := by decide +kernel
theorem dX3_isSpan_4 : decode cX3_isSpan 4 = .ok (.iload_n 1, 1) := by decide +kernel
theorem dX3_isSpan_5 : decode cX3_isSpan 5 = .ok (.aload_n 0, 1) := by decide +kernel
theorem dX3_isSpan_6 : decode cX3_isSpan 6 = .ok (.getfield 56, 3) := by decide +kernel
theorem dX3_isSpan_9 : decode cX3_isSpan 9 = .ok (.if_icmp .ge 7, 3) := by decide +kernel
theorem dX3_isSpan_12 : decode cX3_isSpan 12 = .ok (.iconst 1, 1) := by decide +kernel
theorem dX3_isSpan_13 : decode cX3_isSpan 13 = .ok (.goto 4, 3) := by decide +kernel
theorem dX3_isSpan_16 : decode cX3_isSpan 16 = .ok (.iconst 0, 1) := by decide +kernel
theorem dX3_isSpan_17 : decode cX3_isSpan 17 = .ok (.ireturn, 1) := by decide +kernel
theorem dX3_isWish_0 : decode cX3_isWish 0 = .ok (.iload_n 1, 1) := by decide +kernel
theorem dX3_isWish_1 : decode cX3_isWish 1 = .ok (.ifCond .lt 15, 3) := by decide +kernel
theorem dX3_isWish_4 : decode cX3_isWish 4 = .ok (.iload_n 1, 1) := by decide +kernel
theorem dX3_isWish_5 : decode cX3_isWish 5 = .ok (.aload_n 0, 1) := by decide +kernel
theorem dX3_isWish_6 : decode cX3_isWish 6 = .ok (.getfield 88, 3) := by decide +kernel
theorem dX3_isWish_9 : decode cX3_isWish 9 = .ok (.if_icmp .ge 7, 3) := by decide +kernel
theorem dX3_isWish_12 : decode cX3_isWish 12 = .ok (.iconst 1, 1) := by decide +kernel
theorem dX3_isWish_13 : decode cX3_isWish 13 = .ok (.goto 4, 3) := by decide +kernel
theorem dX3_isWish_16 : decode cX3_isWish 16 = .ok (.iconst 0, 1) := by decide +kernel
theorem dX3_isWish_17 : decode cX3_isWish 17 = .ok (.ireturn, 1) := by decide +kernel
theorem dX3_isNoUnit_0 : decode cX3_isNoUnit 0 = .ok (.iload_n 0, 1) := by decide +kernel
theorem dX3_isNoUnit_1 : decode cX3_isNoUnit 1 = .ok (.ifCond .lt 20, 3) := by decide +kernel
theorem dX3_isNoUnit_4 : decode cX3_isNoUnit 4 = .ok (.iload_n 0, 1) := by decide +kernel
theorem dX3_isNoUnit_5 : decode cX3_isNoUnit 5 = .ok (.iconst 2, 1) := by decide +kernel
theorem dX3_isNoUnit_6 : decode cX3_isNoUnit 6 = .ok (.if_icmp .gt 15, 3) := by decide +kernel
theorem dX3_isNoUnit_9 : decode cX3_isNoUnit 9 = .ok (.iload_n 1, 1) := by decide +kernel
theorem dX3_isNoUnit_10 : decode cX3_isNoUnit 10 = .ok (.ldc 111, 2) := by decide +kernel
theorem dX3_isNoUnit_12 : decode cX3_isNoUnit 12 = .ok (.if_icmp .lt 9, 3) := by decide +kernel
theorem dX3_isNoUnit_15 : decode cX3_isNoUnit 15 = .ok (.iload_n 1, 1) := by decide +kernel
theorem dX3_isNoUnit_16 : decode cX3_isNoUnit 16 = .ok (.ldc 112, 2) := by decide +kernel
theorem dX3_isNoUnit_18 : decode cX3_isNoUnit 18 = .ok (.if_icmp .le 7, 3) := by decide +kernel
theorem dX3_isNoUnit_21 : decode cX3_isNoUnit 21 = .ok (.iconst 1, 1) := by decide +kernel
theorem dX3_isNoUnit_22 : decode cX3_isNoUnit 22 = .ok (.goto 4, 3) := by decide +kernel
theorem dX3_isNoUnit_25 : decode cX3_isNoUnit 25 = .ok (.iconst 0, 1) := by decide +kernel
theorem dX3_isNoUnit_26 : decode cX3_isNoUnit 26 = .ok (.ireturn, 1) := by decide +kernel
theorem dX3_isThrown_0 : decode cX3_isThrown 0 = .ok (.aload_n 0, 1) := by decide +kernel
theorem dX3_isThrown_1 : decode cX3_isThrown 1 = .ok (.iload_n 1, 1) := by decide +kernel
theorem dX3_isThrown_2 : decode cX3_isThrown 2 = .ok (.ifCond .eq 7, 3) := by decide +kernel
theorem dX3_isThrown_5 : decode cX3_isThrown 5 = .ok (.iconst 1, 1) := by decide +kernel
theorem dX3_isThrown_6 : decode cX3_isThrown 6 = .ok (.goto 12, 3) := by decide +kernel
theorem dX3_isThrown_9 : decode cX3_isThrown 9 = .ok (.iload_n 2, 1) := by decide +kernel
theorem dX3_isThrown_10 : decode cX3_isThrown 10 = .ok (.ifCond .eq 7, 3) := by decide +kernel
theorem dX3_isThrown_13 : decode cX3_isThrown 13 = .ok (.iconst 2, 1) := by decide +kernel
theorem dX3_isThrown_14 : decode cX3_isThrown 14 = .ok (.goto 4, 3) := by decide +kernel
theorem dX3_isThrown_17 : decode cX3_isThrown 17 = .ok (.iconst 0, 1) := by decide +kernel
theorem dX3_isThrown_18 : decode cX3_isThrown 18 = .ok (.putfield 35, 3) := by decide +kernel
theorem dX3_isThrown_21 : decode cX3_isThrown 21 = .ok (.aload_n 0, 1) := by decide +kernel
theorem dX3_isThrown_22 : decode cX3_isThrown 22 = .ok (.getfield 35, 3) := by decide +kernel
theorem dX3_isThrown_25 : decode cX3_isThrown 25 = .ok (.ifCond .le 7, 3) := by decide +kernel
theorem dX3_isThrown_28 : decode cX3_isThrown 28 = .ok (.iconst 1, 1) := by decide +kernel
theorem dX3_isThrown_29 : decode cX3_isThrown 29 = .ok (.goto 4, 3) := by decide +kernel
theorem dX3_isThrown_32 : decode cX3_isThrown 32 = .ok (.iconst 0, 1) := by decide +kernel
theorem dX3_isThrown_33 : decode cX3_isThrown 33 = .ok (.ireturn, 1) := by decide +kernel
theorem dX3_isThrown__0 : decode cX3_isThrown_ 0 = .ok (.aload_n 0, 1) := by decide +kernel
theorem dX3_isThrown__1 : decode cX3_isThrown_ 1 = .ok (.iload_n 1, 1) := by decide +kernel
theorem dX3_isThrown__2 : decode cX3_isThrown_ 2 = .ok (.iconst 0, 1) := by decide +kernel
theorem dX3_isThrown__3 : decode cX3_isThrown_ 3 = .ok (.invokevirtual 113, 3) := by decide +kernel
theorem dX3_isThrown__6 : decode cX3_isThrown_ 6 = .ok (.ireturn, 1) := by decide +kernel
theorem dX3_done_0 : decode cX3_done 0 = .ok (.aload_n 0, 1) := by decide +kernel
theorem dX3_done_1 : decode cX3_done 1 = .ok (.dup, 1) := by decide +kernel
theorem dX3_done_2 : decode cX3_done 2 = .ok (.getfield 117, 3) := by decide +kernel
theorem dX3_done_5 : decode cX3_done 5 = .ok (.iconst 1, 1) := by decide +kernel
theorem dX3_done_6 : decode cX3_done 6 = .ok (.iadd, 1) := by decide +kernel
theorem dX3_done_7 : decode cX3_done 7 = .ok (.putfield 117, 3) := by decide +kernel
theorem dX3_done_10 : decode cX3_done 10 = .ok (.iload_n 1, 1) := by decide +kernel
theorem dX3_done_11 : decode cX3_done 11 = .ok (.ireturn, 1) := by decide +kernel
theorem dX3_no_0 : decode cX3_no 0 = .ok (.aload_n 0, 1) := by decide +kernel
theorem dX3_no_1 : decode cX3_no 1 = .ok (.dup, 1) := by decide +kernel
theorem dX3_no_2 : decode cX3_no 2 = .ok (.getfield 120, 3) := by decide +kernel
theorem dX3_no_5 : decode cX3_no 5 = .ok (.iconst 1, 1) := by decide +kernel
theorem dX3_no_6 : decode cX3_no 6 = .ok (.iadd, 1) := by decide +kernel
theorem dX3_no_7 : decode cX3_no 7 = .ok (.putfield 120, 3) := by decide +kernel
theorem dX3_no_10 : decode cX3_no 10 = .ok (.bipush (-9), 2) := by decide +kernel
theorem dX3_no_12 : decode cX3_no 12 = .ok (.ireturn, 1) := by decide +kernel
theorem dX3_set_0 : decode cX3_set 0 = .ok (.aload_n 0, 1) := by decide +kernel
theorem dX3_set_1 : decode cX3_set 1 = .ok (.iload_n 1, 1) := by decide +kernel
theorem dX3_set_2 : decode cX3_set 2 = .ok (.invokestatic 123, 3) := by decide +kernel
theorem dX3_set_5 : decode cX3_set 5 = .ok (.ifCond .ne 7, 3) := by decide +kernel
theorem dX3_set_8 : decode cX3_set 8 = .ok (.iconst 1, 1) := by decide +kernel
theorem dX3_set_9 : decode cX3_set 9 = .ok (.goto 4, 3) := by decide +kernel
theorem dX3_set_12 : decode cX3_set 12 = .ok (.iconst 0, 1) := by decide +kernel
theorem dX3_set_13 : decode cX3_set 13 = .ok (.iload_n 2, 1) := by decide +kernel
theorem dX3_set_14 : decode cX3_set 14 = .ok (.ldc 126, 2) := by decide +kernel
theorem dX3_set_16 : decode cX3_set 16 = .ok (.if_icmp .lt 21, 3) := by decide +kernel
theorem dX3_set_19 : decode cX3_set 19 = .ok (.iload_n 2, 1) := by decide +kernel
theorem dX3_set_20 : decode cX3_set 20 = .ok (.ldc 127, 2) := by decide +kernel
theorem dX3_set_22 : decode cX3_set 22 = .ok (.if_icmp .gt 15, 3) := by decide +kernel
theorem dX3_set_25 : decode cX3_set 25 = .ok (.iload_n 3, 1) := by decide +kernel
theorem dX3_set_26 : decode cX3_set 26 = .ok (.ldc 111, 2) := by decide +kernel
theorem dX3_set_28 : decode cX3_set 28 = .ok (.if_icmp .lt 9, 3) := by decide +kernel
theorem dX3_set_31 : decode cX3_set 31 = .ok (.iload_n 3, 1) := by decide +kernel
theorem dX3_set_32 : decode cX3_set 32 = .ok (.ldc 112, 2) := by decide +kernel
theorem dX3_set_34 : decode cX3_set 34 = .ok (.if_icmp .le 7, 3) := by decide +kernel
theorem dX3_set_37 : decode cX3_set 37 = .ok (.iconst 1, 1) := by decide +kernel
theorem dX3_set_38 : decode cX3_set 38 = .ok (.goto 4, 3) := by decide +kernel
theorem dX3_set_41 : decode cX3_set 41 = .ok (.iconst 0, 1) := by decide +kernel
theorem dX3_set_42 : decode cX3_set 42 = .ok (.invokevirtual 113, 3) := by decide +kernel
theorem dX3_set_45 : decode cX3_set 45 = .ok (.ifCond .eq 5, 3) := by decide +kernel
theorem dX3_set_48 : decode cX3_set 48 = .ok (.iconst 0, 1) := by decide +kernel
theorem dX3_set_49 : decode cX3_set 49 = .ok (.ireturn, 1) := by decide +kernel
theorem dX3_set_50 : decode cX3_set 50 = .ok (.iload_n 2, 1) := by decide +kernel
theorem dX3_set_51 : decode cX3_set 51 = .ok (.i2l, 1) := by decide +kernel
theorem dX3_set_52 : decode cX3_set 52 = .ok (.ldc2_w 39, 3) := by decide +kernel
theorem dX3_set_55 : decode cX3_set 55 = .ok (.lmul, 1) := by decide +kernel
theorem dX3_set_56 : decode cX3_set 56 = .ok (.iload_n 3, 1) := by decide +kernel
theorem dX3_set_57 : decode cX3_set 57 = .ok (.i2l, 1) := by decide +kernel
theorem dX3_set_58 : decode cX3_set 58 = .ok (.ladd, 1) := by decide +kernel
theorem dX3_set_59 : decode cX3_set 59 = .ok (.lstore 4, 2) := by decide +kernel
theorem dX3_set_61 : decode cX3_set 61 = .ok (.lload 4, 2) := by decide +kernel
theorem dX3_set_63 : decode cX3_set 63 = .ok (.invokestatic 128, 3) := by decide +kernel
theorem dX3_set_66 : decode cX3_set 66 = .ok (.ifCond .ne 8, 3) := by decide +kernel
theorem dX3_set_69 : decode cX3_set 69 = .ok (.aload_n 0, 1) := by decide +kernel
theorem dX3_set_70 : decode cX3_set 70 = .ok (.invokevirtual 132, 3) := by decide +kernel
theorem dX3_set_73 : decode cX3_set 73 = .ok (.ireturn, 1) := by decide +kernel
theorem dX3_set_74 : decode cX3_set 74 = .ok (.aload_n 0, 1) := by decide +kernel
theorem dX3_set_75 : decode cX3_set 75 = .ok (.getfield 7, 3) := by decide +kernel
theorem dX3_set_78 : decode cX3_set 78 = .ok (.iload_n 1, 1) := by decide +kernel
theorem dX3_set_79 : decode cX3_set 79 = .ok (.lload 4, 2) := by decide +kernel
theorem dX3_set_81 : decode cX3_set 81 = .ok (.lastore, 1) := by decide +kernel
theorem dX3_set_82 : decode cX3_set 82 = .ok (.aload_n 0, 1) := by decide +kernel
theorem dX3_set_83 : decode cX3_set 83 = .ok (.lload 4, 2) := by decide +kernel
theorem dX3_set_85 : decode cX3_set 85 = .ok (.invokestatic 43, 3) := by decide +kernel
theorem dX3_set_88 : decode cX3_set 88 = .ok (.iload_n 2, 1) := by decide +kernel
theorem dX3_set_89 : decode cX3_set 89 = .ok (.isub, 1) := by decide +kernel
theorem dX3_set_90 : decode cX3_set 90 = .ok (.invokevirtual 136, 3) := by decide +kernel
theorem dX3_set_93 : decode cX3_set 93 = .ok (.ireturn, 1) := by decide +kernel
theorem dX3_go_0 : decode cX3_go 0 = .ok (.aload_n 0, 1) := by decide +kernel
theorem dX3_go_1 : decode cX3_go 1 = .ok (.iload_n 1, 1) := by decide +kernel
theorem dX3_go_2 : decode cX3_go 2 = .ok (.invokestatic 123, 3) := by decide +kernel
theorem dX3_go_5 : decode cX3_go 5 = .ok (.ifCond .ne 7, 3) := by decide +kernel
theorem dX3_go_8 : decode cX3_go 8 = .ok (.iconst 1, 1) := by decide +kernel
theorem dX3_go_9 : decode cX3_go 9 = .ok (.goto 4, 3) := by decide +kernel
theorem dX3_go_12 : decode cX3_go 12 = .ok (.iconst 0, 1) := by decide +kernel
theorem dX3_go_13 : decode cX3_go 13 = .ok (.iload_n 2, 1) := by decide +kernel
theorem dX3_go_14 : decode cX3_go 14 = .ok (.iload_n 3, 1) := by decide +kernel
theorem dX3_go_15 : decode cX3_go 15 = .ok (.invokestatic 139, 3) := by decide +kernel
theorem dX3_go_18 : decode cX3_go 18 = .ok (.invokevirtual 113, 3) := by decide +kernel
theorem dX3_go_21 : decode cX3_go 21 = .ok (.ifCond .eq 5, 3) := by decide +kernel
theorem dX3_go_24 : decode cX3_go 24 = .ok (.iconst 0, 1) := by decide +kernel
theorem dX3_go_25 : decode cX3_go 25 = .ok (.ireturn, 1) := by decide +kernel
theorem dX3_go_26 : decode cX3_go 26 = .ok (.iload 4, 2) := by decide +kernel
theorem dX3_go_28 : decode cX3_go 28 = .ok (.ifCond .eq 12, 3) := by decide +kernel
theorem dX3_go_31 : decode cX3_go 31 = .ok (.iload_n 2, 1) := by decide +kernel
theorem dX3_go_32 : decode cX3_go 32 = .ok (.iload_n 3, 1) := by decide +kernel
theorem dX3_go_33 : decode cX3_go 33 = .ok (.invokestatic 142, 3) := by decide +kernel
theorem dX3_go_36 : decode cX3_go 36 = .ok (.lneg, 1) := by decide +kernel
theorem dX3_go_37 : decode cX3_go 37 = .ok (.goto 8, 3) := by decide +kernel
theorem dX3_go_40 : decode cX3_go 40 = .ok (.iload_n 2, 1) := by decide +kernel
theorem dX3_go_41 : decode cX3_go 41 = .ok (.iload_n 3, 1) := by decide +kernel
theorem dX3_go_42 : decode cX3_go 42 = .ok (.invokestatic 142, 3) := by decide +kernel
theorem dX3_go_45 : decode cX3_go 45 = .ok (.lstore 5, 2) := by decide +kernel
theorem dX3_go_47 : decode cX3_go 47 = .ok (.aload_n 0, 1) := by decide +kernel
theorem dX3_go_48 : decode cX3_go 48 = .ok (.getfield 7, 3) := by decide +kernel
theorem dX3_go_51 : decode cX3_go 51 = .ok (.iload_n 1, 1) := by decide +kernel
theorem dX3_go_52 : decode cX3_go 52 = .ok (.laload, 1) := by decide +kernel
theorem dX3_go_53 : decode cX3_go 53 = .ok (.lload 5, 2) := by decide +kernel
theorem dX3_go_55 : decode cX3_go 55 = .ok (.ladd, 1) := by decide +kernel
theorem dX3_go_56 : decode cX3_go 56 = .ok (.invokestatic 128, 3) := by decide +kernel
theorem dX3_go_59 : decode cX3_go 59 = .ok (.ifCond .ne 8, 3) := by decide +kernel
theorem dX3_go_62 : decode cX3_go 62 = .ok (.aload_n 0, 1) := by decide +kernel
theorem dX3_go_63 : decode cX3_go 63 = .ok (.invokevirtual 132, 3) := by decide +kernel
theorem dX3_go_66 : decode cX3_go 66 = .ok (.ireturn, 1) := by decide +kernel
theorem dX3_go_67 : decode cX3_go 67 = .ok (.aload_n 0, 1) := by decide +kernel
theorem dX3_go_68 : decode cX3_go 68 = .ok (.getfield 7, 3) := by decide +kernel
theorem dX3_go_71 : decode cX3_go 71 = .ok (.iload_n 1, 1) := by decide +kernel
theorem dX3_go_72 : decode cX3_go 72 = .ok (.dup2, 1) := by decide +kernel
theorem dX3_go_73 : decode cX3_go 73 = .ok (.laload, 1) := by decide +kernel
theorem dX3_go_74 : decode cX3_go 74 = .ok (.lload 5, 2) := by decide +kernel
theorem dX3_go_76 : decode cX3_go 76 = .ok (.ladd, 1) := by decide +kernel
theorem dX3_go_77 : decode cX3_go 77 = .ok (.lastore, 1) := by decide +kernel
theorem dX3_go_78 : decode cX3_go 78 = .ok (.aload_n 0, 1) := by decide +kernel
theorem dX3_go_79 : decode cX3_go 79 = .ok (.lload 5, 2) := by decide +kernel
theorem dX3_go_81 : decode cX3_go 81 = .ok (.invokestatic 146, 3) := by decide +kernel
theorem dX3_go_84 : decode cX3_go 84 = .ok (.invokevirtual 136, 3) := by decide +kernel
theorem dX3_go_87 : decode cX3_go 87 = .ok (.ireturn, 1) := by decide +kernel
theorem dX3_copy_0 : decode cX3_copy 0 = .ok (.aload_n 0, 1) := by decide +kernel
theorem dX3_copy_1 : decode cX3_copy 1 = .ok (.iload_n 1, 1) := by decide +kernel
theorem dX3_copy_2 : decode cX3_copy 2 = .ok (.invokestatic 123, 3) := by decide +kernel
theorem dX3_copy_5 : decode cX3_copy 5 = .ok (.ifCond .eq 10, 3) := by decide +kernel
theorem dX3_copy_8 : decode cX3_copy 8 = .ok (.iload_n 2, 1) := by decide +kernel
theorem dX3_copy_9 : decode cX3_copy 9 = .ok (.invokestatic 123, 3) := by decide +kernel
theorem dX3_copy_12 : decode cX3_copy 12 = .ok (.ifCond .ne 7, 3) := by decide +kernel
theorem dX3_copy_15 : decode cX3_copy 15 = .ok (.iconst 1, 1) := by decide +kernel
theorem dX3_copy_16 : decode cX3_copy 16 = .ok (.goto 4, 3) := by decide +kernel
theorem dX3_copy_19 : decode cX3_copy 19 = .ok (.iconst 0, 1) := by decide +kernel
theorem dX3_copy_20 : decode cX3_copy 20 = .ok (.invokevirtual 149, 3) := by decide +kernel
theorem dX3_copy_23 : decode cX3_copy 23 = .ok (.ifCond .eq 5, 3) := by decide +kernel
theorem dX3_copy_26 : decode cX3_copy 26 = .ok (.iconst 0, 1) := by decide +kernel
theorem dX3_copy_27 : decode cX3_copy 27 = .ok (.ireturn, 1) := by decide +kernel
theorem dX3_copy_28 : decode cX3_copy 28 = .ok (.aload_n 0, 1) := by decide +kernel
theorem dX3_copy_29 : decode cX3_copy 29 = .ok (.getfield 7, 3) := by decide +kernel
theorem dX3_copy_32 : decode cX3_copy 32 = .ok (.iload_n 1, 1) := by decide +kernel
theorem dX3_copy_33 : decode cX3_copy 33 = .ok (.laload, 1) := by decide +kernel
theorem dX3_copy_34 : decode cX3_copy 34 = .ok (.aload_n 0, 1) := by decide +kernel
theorem dX3_copy_35 : decode cX3_copy 35 = .ok (.getfield 7, 3) := by decide +kernel
theorem dX3_copy_38 : decode cX3_copy 38 = .ok (.iload_n 2, 1) := by decide +kernel
theorem dX3_copy_39 : decode cX3_copy 39 = .ok (.laload, 1) := by decide +kernel
theorem dX3_copy_40 : decode cX3_copy 40 = .ok (.lcmp, 1) := by decide +kernel
theorem dX3_copy_41 : decode cX3_copy 41 = .ok (.ifCond .eq 7, 3) := by decide +kernel
theorem dX3_copy_44 : decode cX3_copy 44 = .ok (.iconst 1, 1) := by decide +kernel
theorem dX3_copy_45 : decode cX3_copy 45 = .ok (.goto 4, 3) := by decide +kernel
theorem dX3_copy_48 : decode cX3_copy 48 = .ok (.iconst 0, 1) := by decide +kernel
theorem dX3_copy_49 : decode cX3_copy 49 = .ok (.istore_n 3, 1) := by decide +kernel
theorem dX3_copy_50 : decode cX3_copy 50 = .ok (.aload_n 0, 1) := by decide +kernel
theorem dX3_copy_51 : decode cX3_copy 51 = .ok (.getfield 7, 3) := by decide +kernel
theorem dX3_copy_54 : decode cX3_copy 54 = .ok (.iload_n 2, 1) := by decide +kernel
theorem dX3_copy_55 : decode cX3_copy 55 = .ok (.aload_n 0, 1) := by decide +kernel
theorem dX3_copy_56 : decode cX3_copy 56 = .ok (.getfield 7, 3) := by decide +kernel
theorem dX3_copy_59 : decode cX3_copy 59 = .ok (.iload_n 1, 1) := by decide +kernel
theorem dX3_copy_60 : decode cX3_copy 60 = .ok (.laload, 1) := by decide +kernel
theorem dX3_copy_61 : decode cX3_copy 61 = .ok (.lastore, 1) := by decide +kernel
theorem dX3_copy_62 : decode cX3_copy 62 = .ok (.aload_n 0, 1) := by decide +kernel
theorem dX3_copy_63 : decode cX3_copy 63 = .ok (.iload_n 3, 1) := by decide +kernel
theorem dX3_copy_64 : decode cX3_copy 64 = .ok (.ifCond .eq 7, 3) := by decide +kernel
theorem dX3_copy_67 : decode cX3_copy 67 = .ok (.iconst 1, 1) := by decide +kernel
theorem dX3_copy_68 : decode cX3_copy 68 = .ok (.goto 4, 3) := by decide +kernel
theorem dX3_copy_71 : decode cX3_copy 71 = .ok (.iconst 0, 1) := by decide +kernel
theorem dX3_copy_72 : decode cX3_copy 72 = .ok (.invokevirtual 136, 3) := by decide +kernel
theorem dX3_copy_75 : decode cX3_copy 75 = .ok (.ireturn, 1) := by decide +kernel
theorem dX3_swap_0 : decode cX3_swap 0 = .ok (.aload_n 0, 1) := by decide +kernel
theorem dX3_swap_1 : decode cX3_swap 1 = .ok (.iload_n 1, 1) := by decide +kernel
theorem dX3_swap_2 : decode cX3_swap 2 = .ok (.invokestatic 123, 3) := by decide +kernel
theorem dX3_swap_5 : decode cX3_swap 5 = .ok (.ifCond .eq 10, 3) := by decide +kernel
theorem dX3_swap_8 : decode cX3_swap 8 = .ok (.iload_n 2, 1) := by decide +kernel
theorem dX3_swap_9 : decode cX3_swap 9 = .ok (.invokestatic 123, 3) := by decide +kernel
theorem dX3_swap_12 : decode cX3_swap 12 = .ok (.ifCond .ne 7, 3) := by decide +kernel
theorem dX3_swap_15 : decode cX3_swap 15 = .ok (.iconst 1, 1) := by decide +kernel
theorem dX3_swap_16 : decode cX3_swap 16 = .ok (.goto 4, 3) := by decide +kernel
theorem dX3_swap_19 : decode cX3_swap 19 = .ok (.iconst 0, 1) := by decide +kernel
theorem dX3_swap_20 : decode cX3_swap 20 = .ok (.invokevirtual 149, 3) := by decide +kernel
theorem dX3_swap_23 : decode cX3_swap 23 = .ok (.ifCond .eq 5, 3) := by decide +kernel
theorem dX3_swap_26 : decode cX3_swap 26 = .ok (.iconst 0, 1) := by decide +kernel
theorem dX3_swap_27 : decode cX3_swap 27 = .ok (.ireturn, 1) := by decide +kernel
theorem dX3_swap_28 : decode cX3_swap 28 = .ok (.aload_n 0, 1) := by decide +kernel
theorem dX3_swap_29 : decode cX3_swap 29 = .ok (.getfield 7, 3) := by decide +kernel
theorem dX3_swap_32 : decode cX3_swap 32 = .ok (.iload_n 1, 1) := by decide +kernel
theorem dX3_swap_33 : decode cX3_swap 33 = .ok (.laload, 1) := by decide +kernel
theorem dX3_swap_34 : decode cX3_swap 34 = .ok (.lstore_n 3, 1) := by decide +kernel
theorem dX3_swap_35 : decode cX3_swap 35 = .ok (.aload_n 0, 1) := by decide +kernel
theorem dX3_swap_36 : decode cX3_swap 36 = .ok (.getfield 7, 3) := by decide +kernel
theorem dX3_swap_39 : decode cX3_swap 39 = .ok (.iload_n 1, 1) := by decide +kernel
theorem dX3_swap_40 : decode cX3_swap 40 = .ok (.aload_n 0, 1) := by decide +kernel
theorem dX3_swap_41 : decode cX3_swap 41 = .ok (.getfield 7, 3) := by decide +kernel
theorem dX3_swap_44 : decode cX3_swap 44 = .ok (.iload_n 2, 1) := by decide +kernel
theorem dX3_swap_45 : decode cX3_swap 45 = .ok (.laload, 1) := by decide +kernel
theorem dX3_swap_46 : decode cX3_swap 46 = .ok (.lastore, 1) := by decide +kernel
theorem dX3_swap_47 : decode cX3_swap 47 = .ok (.aload_n 0, 1) := by decide +kernel
theorem dX3_swap_48 : decode cX3_swap 48 = .ok (.getfield 7, 3) := by decide +kernel
theorem dX3_swap_51 : decode cX3_swap 51 = .ok (.iload_n 2, 1) := by decide +kernel
theorem dX3_swap_52 : decode cX3_swap 52 = .ok (.lload_n 3, 1) := by decide +kernel
theorem dX3_swap_53 : decode cX3_swap 53 = .ok (.lastore, 1) := by decide +kernel
theorem dX3_swap_54 : decode cX3_swap 54 = .ok (.aload_n 0, 1) := by decide +kernel
theorem dX3_swap_55 : decode cX3_swap 55 = .ok (.aload_n 0, 1) := by decide +kernel
theorem dX3_swap_56 : decode cX3_swap 56 = .ok (.getfield 7, 3) := by decide +kernel
theorem dX3_swap_59 : decode cX3_swap 59 = .ok (.iload_n 1, 1) := by decide +kernel
theorem dX3_swap_60 : decode cX3_swap 60 = .ok (.laload, 1) := by decide +kernel
theorem dX3_swap_61 : decode cX3_swap 61 = .ok (.lload_n 3, 1) := by decide +kernel
theorem dX3_swap_62 : decode cX3_swap 62 = .ok (.lcmp, 1) := by decide +kernel
theorem dX3_swap_63 : decode cX3_swap 63 = .ok (.ifCond .ne 7, 3) := by decide +kernel
theorem dX3_swap_66 : decode cX3_swap 66 = .ok (.iconst 0, 1) := by decide +kernel
theorem dX3_swap_67 : decode cX3_swap 67 = .ok (.goto 4, 3) := by decide +kernel
theorem dX3_swap_70 : decode cX3_swap 70 = .ok (.iconst 1, 1) := by decide +kernel
theorem dX3_swap_71 : decode cX3_swap 71 = .ok (.invokevirtual 136, 3) := by decide +kernel
theorem dX3_swap_74 : decode cX3_swap 74 = .ok (.ireturn, 1) := by decide +kernel
theorem dX3_pick_0 : decode cX3_pick 0 = .ok (.aload_n 0, 1) := by decide +kernel
theorem dX3_pick_1 : decode cX3_pick 1 = .ok (.iload_n 2, 1) := by decide +kernel
theorem dX3_pick_2 : decode cX3_pick 2 = .ok (.invokestatic 123, 3) := by decide +kernel
theorem dX3_pick_5 : decode cX3_pick 5 = .ok (.ifCond .ne 7, 3) := by decide +kernel
theorem dX3_pick_8 : decode cX3_pick 8 = .ok (.iconst 1, 1) := by decide +kernel
theorem dX3_pick_9 : decode cX3_pick 9 = .ok (.goto 4, 3) := by decide +kernel
theorem dX3_pick_12 : decode cX3_pick 12 = .ok (.iconst 0, 1) := by decide +kernel
theorem dX3_pick_13 : decode cX3_pick 13 = .ok (.invokevirtual 149, 3) := by decide +kernel
theorem dX3_pick_16 : decode cX3_pick 16 = .ok (.ifCond .eq 5, 3) := by decide +kernel
theorem dX3_pick_19 : decode cX3_pick 19 = .ok (.iconst 0, 1) := by decide +kernel
theorem dX3_pick_20 : decode cX3_pick 20 = .ok (.ireturn, 1) := by decide +kernel
theorem dX3_pick_21 : decode cX3_pick 21 = .ok (.iconst 0, 1) := by decide +kernel
theorem dX3_pick_22 : decode cX3_pick 22 = .ok (.istore_n 3, 1) := by decide +kernel
theorem dX3_pick_23 : decode cX3_pick 23 = .ok (.iconst 1, 1) := by decide +kernel
theorem dX3_pick_24 : decode cX3_pick 24 = .ok (.istore 4, 2) := by decide +kernel
theorem dX3_pick_26 : decode cX3_pick 26 = .ok (.iload 4, 2) := by decide +kernel
theorem dX3_pick_28 : decode cX3_pick 28 = .ok (.iconst 4, 1) := by decide +kernel
theorem dX3_pick_29 : decode cX3_pick 29 = .ok (.if_icmp .ge 53, 3) := by decide +kernel
theorem dX3_pick_32 : decode cX3_pick 32 = .ok (.iload_n 1, 1) := by decide +kernel
theorem dX3_pick_33 : decode cX3_pick 33 = .ok (.ifCond .eq 23, 3) := by decide +kernel
theorem dX3_pick_36 : decode cX3_pick 36 = .ok (.aload_n 0, 1) := by decide +kernel
theorem dX3_pick_37 : decode cX3_pick 37 = .ok (.getfield 7, 3) := by decide +kernel
theorem dX3_pick_40 : decode cX3_pick 40 = .ok (.iload 4, 2) := by decide +kernel
theorem dX3_pick_42 : decode cX3_pick 42 = .ok (.laload, 1) := by decide +kernel
theorem dX3_pick_43 : decode cX3_pick 43 = .ok (.aload_n 0, 1) := by decide +kernel
theorem dX3_pick_44 : decode cX3_pick 44 = .ok (.getfield 7, 3) := by decide +kernel
theorem dX3_pick_47 : decode cX3_pick 47 = .ok (.iload_n 3, 1) := by decide +kernel
theorem dX3_pick_48 : decode cX3_pick 48 = .ok (.laload, 1) := by decide +kernel
theorem dX3_pick_49 : decode cX3_pick 49 = .ok (.lcmp, 1) := by decide +kernel
theorem dX3_pick_50 : decode cX3_pick 50 = .ok (.ifCond .le 26, 3) := by decide +kernel
theorem dX3_pick_53 : decode cX3_pick 53 = .ok (.goto 20, 3) := by decide +kernel
theorem dX3_pick_56 : decode cX3_pick 56 = .ok (.aload_n 0, 1) := by decide +kernel
theorem dX3_pick_57 : decode cX3_pick 57 = .ok (.getfield 7, 3) := by decide +kernel
theorem dX3_pick_60 : decode cX3_pick 60 = .ok (.iload 4, 2) := by decide +kernel
theorem dX3_pick_62 : decode cX3_pick 62 = .ok (.laload, 1) := by decide +kernel
theorem dX3_pick_63 : decode cX3_pick 63 = .ok (.aload_n 0, 1) := by decide +kernel
theorem dX3_pick_64 : decode cX3_pick 64 = .ok (.getfield 7, 3) := by decide +kernel
theorem dX3_pick_67 : decode cX3_pick 67 = .ok (.iload_n 3, 1) := by decide +kernel
theorem dX3_pick_68 : decode cX3_pick 68 = .ok (.laload, 1) := by decide +kernel
theorem dX3_pick_69 : decode cX3_pick 69 = .ok (.lcmp, 1) := by decide +kernel
theorem dX3_pick_70 : decode cX3_pick 70 = .ok (.ifCond .ge 6, 3) := by decide +kernel
theorem dX3_pick_73 : decode cX3_pick 73 = .ok (.iload 4, 2) := by decide +kernel
theorem dX3_pick_75 : decode cX3_pick 75 = .ok (.istore_n 3, 1) := by decide +kernel
theorem dX3_pick_76 : decode cX3_pick 76 = .ok (.iinc 4 1, 3) := by decide +kernel
theorem dX3_pick_79 : decode cX3_pick 79 = .ok (.goto (-53), 3) := by decide +kernel
theorem dX3_pick_82 : decode cX3_pick 82 = .ok (.aload_n 0, 1) := by decide +kernel
theorem dX3_pick_83 : decode cX3_pick 83 = .ok (.getfield 7, 3) := by decide +kernel
theorem dX3_pick_86 : decode cX3_pick 86 = .ok (.iload_n 2, 1) := by decide +kernel
theorem dX3_pick_87 : decode cX3_pick 87 = .ok (.aload_n 0, 1) := by decide +kernel
theorem dX3_pick_88 : decode cX3_pick 88 = .ok (.getfield 7, 3) := by decide +kernel
theorem dX3_pick_91 : decode cX3_pick 91 = .ok (.iload_n 3, 1) := by decide +kernel
theorem dX3_pick_92 : decode cX3_pick 92 = .ok (.laload, 1) := by decide +kernel
theorem dX3_pick_93 : decode cX3_pick 93 = .ok (.lastore, 1) := by decide +kernel
theorem dX3_pick_94 : decode cX3_pick 94 = .ok (.aload_n 0, 1) := by decide +kernel
theorem dX3_pick_95 : decode cX3_pick 95 = .ok (.iload_n 3, 1) := by decide +kernel
theorem dX3_pick_96 : decode cX3_pick 96 = .ok (.invokevirtual 136, 3) := by decide +kernel
theorem dX3_pick_99 : decode cX3_pick 99 = .ok (.ireturn, 1) := by decide +kernel
theorem dX3_areLet_0 : decode cX3_areLet 0 = .ok (.iconst 0, 1) := by decide +kernel
theorem dX3_areLet_1 : decode cX3_areLet 1 = .ok (.istore 4, 2) := by decide +kernel
theorem dX3_areLet_3 : decode cX3_areLet 3 = .ok (.iload 4, 2) := by decide +kernel
theorem dX3_areLet_5 : decode cX3_areLet 5 = .ok (.iload_n 1, 1) := by decide +kernel
theorem dX3_areLet_6 : decode cX3_areLet 6 = .ok (.if_icmp .ge 23, 3) := by decide +kernel
theorem dX3_areLet_9 : decode cX3_areLet 9 = .ok (.aload_n 0, 1) := by decide +kernel
theorem dX3_areLet_10 : decode cX3_areLet 10 = .ok (.iload 4, 2) := by decide +kernel
theorem dX3_areLet_12 : decode cX3_areLet 12 = .ok (.laload, 1) := by decide +kernel
theorem dX3_areLet_13 : decode cX3_areLet 13 = .ok (.lload_n 2, 1) := by decide +kernel
theorem dX3_areLet_14 : decode cX3_areLet 14 = .ok (.ladd, 1) := by decide +kernel
theorem dX3_areLet_15 : decode cX3_areLet 15 = .ok (.invokestatic 128, 3) := by decide +kernel
theorem dX3_areLet_18 : decode cX3_areLet 18 = .ok (.ifCond .ne 5, 3) := by decide +kernel
theorem dX3_areLet_21 : decode cX3_areLet 21 = .ok (.iconst 0, 1) := by decide +kernel
theorem dX3_areLet_22 : decode cX3_areLet 22 = .ok (.ireturn, 1) := by decide +kernel
theorem dX3_areLet_23 : decode cX3_areLet 23 = .ok (.iinc 4 1, 3) := by decide +kernel
theorem dX3_areLet_26 : decode cX3_areLet 26 = .ok (.goto (-23), 3) := by decide +kernel
theorem dX3_areLet_29 : decode cX3_areLet 29 = .ok (.iconst 1, 1) := by decide +kernel
theorem dX3_areLet_30 : decode cX3_areLet 30 = .ok (.ireturn, 1) := by decide +kernel
theorem dX3_shifted_0 : decode cX3_shifted 0 = .ok (.aload_n 0, 1) := by decide +kernel
theorem dX3_shifted_1 : decode cX3_shifted 1 = .ok (.arraylength, 1) := by decide +kernel
theorem dX3_shifted_2 : decode cX3_shifted 2 = .ok (.newarray .long, 2) := by decide +kernel
theorem dX3_shifted_4 : decode cX3_shifted 4 = .ok (.astore_n 3, 1) := by decide +kernel
theorem dX3_shifted_5 : decode cX3_shifted 5 = .ok (.iconst 0, 1) := by decide +kernel
theorem dX3_shifted_6 : decode cX3_shifted 6 = .ok (.istore 4, 2) := by decide +kernel
theorem dX3_shifted_8 : decode cX3_shifted 8 = .ok (.iload 4, 2) := by decide +kernel
theorem dX3_shifted_10 : decode cX3_shifted 10 = .ok (.aload_n 3, 1) := by decide +kernel
theorem dX3_shifted_11 : decode cX3_shifted 11 = .ok (.arraylength, 1) := by decide +kernel
theorem dX3_shifted_12 : decode cX3_shifted 12 = .ok (.if_icmp .ge 19, 3) := by decide +kernel
theorem dX3_shifted_15 : decode cX3_shifted 15 = .ok (.aload_n 3, 1) := by decide +kernel
theorem dX3_shifted_16 : decode cX3_shifted 16 = .ok (.iload 4, 2) := by decide +kernel
theorem dX3_shifted_18 : decode cX3_shifted 18 = .ok (.aload_n 0, 1) := by decide +kernel
theorem dX3_shifted_19 : decode cX3_shifted 19 = .ok (.iload 4, 2) := by decide +kernel
theorem dX3_shifted_21 : decode cX3_shifted 21 = .ok (.laload, 1) := by decide +kernel
theorem dX3_shifted_22 : decode cX3_shifted 22 = .ok (.lload_n 1, 1) := by decide +kernel
theorem dX3_shifted_23 : decode cX3_shifted 23 = .ok (.ladd, 1) := by decide +kernel
theorem dX3_shifted_24 : decode cX3_shifted 24 = .ok (.lastore, 1) := by decide +kernel
theorem dX3_shifted_25 : decode cX3_shifted 25 = .ok (.iinc 4 1, 3) := by decide +kernel
theorem dX3_shifted_28 : decode cX3_shifted 28 = .ok (.goto (-20), 3) := by decide +kernel
theorem dX3_shifted_31 : decode cX3_shifted 31 = .ok (.aload_n 3, 1) := by decide +kernel
theorem dX3_shifted_32 : decode cX3_shifted 32 = .ok (.areturn, 1) := by decide +kernel
theorem dX3_shift_0 : decode cX3_shift 0 = .ok (.aload_n 0, 1) := by decide +kernel
theorem dX3_shift_1 : decode cX3_shift 1 = .ok (.iload_n 1, 1) := by decide +kernel
theorem dX3_shift_2 : decode cX3_shift 2 = .ok (.iload_n 2, 1) := by decide +kernel
theorem dX3_shift_3 : decode cX3_shift 3 = .ok (.invokestatic 139, 3) := by decide +kernel
theorem dX3_shift_6 : decode cX3_shift 6 = .ok (.invokevirtual 149, 3) := by decide +kernel
theorem dX3_shift_9 : decode cX3_shift 9 = .ok (.ifCond .eq 5, 3) := by decide +kernel
theorem dX3_shift_12 : decode cX3_shift 12 = .ok (.iconst 0, 1) := by decide +kernel
theorem dX3_shift_13 : decode cX3_shift 13 = .ok (.ireturn, 1) := by decide +kernel
theorem dX3_shift_14 : decode cX3_shift 14 = .ok (.iload_n 1, 1) := by decide +kernel
theorem dX3_shift_15 : decode cX3_shift 15 = .ok (.iload_n 2, 1) := by decide +kernel
theorem dX3_shift_16 : decode cX3_shift 16 = .ok (.invokestatic 142, 3) := by decide +kernel
theorem dX3_shift_19 : decode cX3_shift 19 = .ok (.lstore_n 3, 1) := by decide +kernel
theorem dX3_shift_20 : decode cX3_shift 20 = .ok (.aload_n 0, 1) := by decide +kernel
theorem dX3_shift_21 : decode cX3_shift 21 = .ok (.getfield 7, 3) := by decide +kernel
theorem dX3_shift_24 : decode cX3_shift 24 = .ok (.iconst 4, 1) := by decide +kernel
theorem dX3_shift_25 : decode cX3_shift 25 = .ok (.lload_n 3, 1) := by decide +kernel
theorem dX3_shift_26 : decode cX3_shift 26 = .ok (.invokestatic 152, 3) := by decide +kernel
theorem dX3_shift_29 : decode cX3_shift 29 = .ok (.ifCond .eq 61, 3) := by decide +kernel
theorem dX3_shift_32 : decode cX3_shift 32 = .ok (.aload_n 0, 1) := by decide +kernel
theorem dX3_shift_33 : decode cX3_shift 33 = .ok (.getfield 53, 3) := by decide +kernel
theorem dX3_shift_36 : decode cX3_shift 36 = .ok (.lload_n 3, 1) := by decide +kernel
theorem dX3_shift_37 : decode cX3_shift 37 = .ok (.ladd, 1) := by decide +kernel
theorem dX3_shift_38 : decode cX3_shift 38 = .ok (.invokestatic 128, 3) := by decide +kernel
theorem dX3_shift_41 : decode cX3_shift 41 = .ok (.ifCond .eq 49, 3) := by decide +kernel
theorem dX3_shift_44 : decode cX3_shift 44 = .ok (.aload_n 0, 1) := by decide +kernel
theorem dX3_shift_45 : decode cX3_shift 45 = .ok (.getfield 15, 3) := by decide +kernel
theorem dX3_shift_48 : decode cX3_shift 48 = .ok (.lload_n 3, 1) := by decide +kernel
theorem dX3_shift_49 : decode cX3_shift 49 = .ok (.ladd, 1) := by decide +kernel
theorem dX3_shift_50 : decode cX3_shift 50 = .ok (.invokestatic 128, 3) := by decide +kernel
theorem dX3_shift_53 : decode cX3_shift 53 = .ok (.ifCond .eq 37, 3) := by decide +kernel
theorem dX3_shift_56 : decode cX3_shift 56 = .ok (.aload_n 0, 1) := by decide +kernel
theorem dX3_shift_57 : decode cX3_shift 57 = .ok (.getfield 19, 3) := by decide +kernel
theorem dX3_shift_60 : decode cX3_shift 60 = .ok (.aload_n 0, 1) := by decide +kernel
theorem dX3_shift_61 : decode cX3_shift 61 = .ok (.getfield 56, 3) := by decide +kernel
theorem dX3_shift_64 : decode cX3_shift 64 = .ok (.lload_n 3, 1) := by decide +kernel
theorem dX3_shift_65 : decode cX3_shift 65 = .ok (.invokestatic 152, 3) := by decide +kernel
theorem dX3_shift_68 : decode cX3_shift 68 = .ok (.ifCond .eq 22, 3) := by decide +kernel
theorem dX3_shift_71 : decode cX3_shift 71 = .ok (.aload_n 0, 1) := by decide +kernel
theorem dX3_shift_72 : decode cX3_shift 72 = .ok (.getfield 22, 3) := by decide +kernel
theorem dX3_shift_75 : decode cX3_shift 75 = .ok (.aload_n 0, 1) := by decide +kernel
theorem dX3_shift_76 : decode cX3_shift 76 = .ok (.getfield 56, 3) := by decide +kernel
theorem dX3_shift_79 : decode cX3_shift 79 = .ok (.lload_n 3, 1) := by decide +kernel
theorem dX3_shift_80 : decode cX3_shift 80 = .ok (.invokestatic 152, 3) := by decide +kernel
theorem dX3_shift_83 : decode cX3_shift 83 = .ok (.ifCond .eq 7, 3) := by decide +kernel
theorem dX3_shift_86 : decode cX3_shift 86 = .ok (.iconst 1, 1) := by decide +kernel
theorem dX3_shift_87 : decode cX3_shift 87 = .ok (.goto 4, 3) := by decide +kernel
theorem dX3_shift_90 : decode cX3_shift 90 = .ok (.iconst 0, 1) := by decide +kernel
theorem dX3_shift_91 : decode cX3_shift 91 = .ok (.istore 5, 2) := by decide +kernel
theorem dX3_shift_93 : decode cX3_shift 93 = .ok (.iload 5, 2) := by decide +kernel
theorem dX3_shift_95 : decode cX3_shift 95 = .ok (.ifCond .eq 33, 3) := by decide +kernel
theorem dX3_shift_98 : decode cX3_shift 98 = .ok (.aload_n 0, 1) := by decide +kernel
theorem dX3_shift_99 : decode cX3_shift 99 = .ok (.getfield 29, 3) := by decide +kernel
theorem dX3_shift_102 : decode cX3_shift 102 = .ok (.aload_n 0, 1) := by decide +kernel
theorem dX3_shift_103 : decode cX3_shift 103 = .ok (.getfield 88, 3) := by decide +kernel
theorem dX3_shift_106 : decode cX3_shift 106 = .ok (.lload_n 3, 1) := by decide +kernel
theorem dX3_shift_107 : decode cX3_shift 107 = .ok (.invokestatic 152, 3) := by decide +kernel
theorem dX3_shift_110 : decode cX3_shift 110 = .ok (.ifCond .eq 18, 3) := by decide +kernel
theorem dX3_shift_113 : decode cX3_shift 113 = .ok (.aload_n 0, 1) := by decide +kernel
theorem dX3_shift_114 : decode cX3_shift 114 = .ok (.getfield 32, 3) := by decide +kernel
theorem dX3_shift_117 : decode cX3_shift 117 = .ok (.aload_n 0, 1) := by decide +kernel
theorem dX3_shift_118 : decode cX3_shift 118 = .ok (.getfield 88, 3) := by decide +kernel
theorem dX3_shift_121 : decode cX3_shift 121 = .ok (.lload_n 3, 1) := by decide +kernel
theorem dX3_shift_122 : decode cX3_shift 122 = .ok (.invokestatic 152, 3) := by decide +kernel
theorem dX3_shift_125 : decode cX3_shift 125 = .ok (.ifCond .ne 8, 3) := by decide +kernel
theorem dX3_shift_128 : decode cX3_shift 128 = .ok (.aload_n 0, 1) := by decide +kernel
theorem dX3_shift_129 : decode cX3_shift 129 = .ok (.invokevirtual 132, 3) := by decide +kernel
theorem dX3_shift_132 : decode cX3_shift 132 = .ok (.ireturn, 1) := by decide +kernel
theorem dX3_shift_133 : decode cX3_shift 133 = .ok (.aload_n 0, 1) := by decide +kernel
theorem dX3_shift_134 : decode cX3_shift 134 = .ok (.aload_n 0, 1) := by decide +kernel
theorem dX3_shift_135 : decode cX3_shift 135 = .ok (.getfield 7, 3) := by decide +kernel
theorem dX3_shift_138 : decode cX3_shift 138 = .ok (.lload_n 3, 1) := by decide +kernel
theorem dX3_shift_139 : decode cX3_shift 139 = .ok (.invokestatic 156, 3) := by decide +kernel
theorem dX3_shift_142 : decode cX3_shift 142 = .ok (.putfield 7, 3) := by decide +kernel
theorem dX3_shift_145 : decode cX3_shift 145 = .ok (.aload_n 0, 1) := by decide +kernel
theorem dX3_shift_146 : decode cX3_shift 146 = .ok (.dup, 1) := by decide +kernel
theorem dX3_shift_147 : decode cX3_shift 147 = .ok (.getfield 53, 3) := by decide +kernel
theorem dX3_shift_150 : decode cX3_shift 150 = .ok (.lload_n 3, 1) := by decide +kernel
theorem dX3_shift_151 : decode cX3_shift 151 = .ok (.ladd, 1) := by decide +kernel
theorem dX3_shift_152 : decode cX3_shift 152 = .ok (.putfield 53, 3) := by decide +kernel
theorem dX3_shift_155 : decode cX3_shift 155 = .ok (.aload_n 0, 1) := by decide +kernel
theorem dX3_shift_156 : decode cX3_shift 156 = .ok (.dup, 1) := by decide +kernel
theorem dX3_shift_157 : decode cX3_shift 157 = .ok (.getfield 15, 3) := by decide +kernel
theorem dX3_shift_160 : decode cX3_shift 160 = .ok (.lload_n 3, 1) := by decide +kernel
theorem dX3_shift_161 : decode cX3_shift 161 = .ok (.ladd, 1) := by decide +kernel
theorem dX3_shift_162 : decode cX3_shift 162 = .ok (.putfield 15, 3) := by decide +kernel
theorem dX3_shift_165 : decode cX3_shift 165 = .ok (.aload_n 0, 1) := by decide +kernel
theorem dX3_shift_166 : decode cX3_shift 166 = .ok (.aload_n 0, 1) := by decide +kernel
theorem dX3_shift_167 : decode cX3_shift 167 = .ok (.getfield 19, 3) := by decide +kernel
theorem dX3_shift_170 : decode cX3_shift 170 = .ok (.lload_n 3, 1) := by decide +kernel
theorem dX3_shift_171 : decode cX3_shift 171 = .ok (.invokestatic 156, 3) := by decide +kernel
theorem dX3_shift_174 : decode cX3_shift 174 = .ok (.putfield 19, 3) := by decide +kernel
theorem dX3_shift_177 : decode cX3_shift 177 = .ok (.aload_n 0, 1) := by decide +kernel
theorem dX3_shift_178 : decode cX3_shift 178 = .ok (.aload_n 0, 1) := by decide +kernel
theorem dX3_shift_179 : decode cX3_shift 179 = .ok (.getfield 22, 3) := by decide +kernel
theorem dX3_shift_182 : decode cX3_shift 182 = .ok (.lload_n 3, 1) := by decide +kernel
theorem dX3_shift_183 : decode cX3_shift 183 = .ok (.invokestatic 156, 3) := by decide +kernel
theorem dX3_shift_186 : decode cX3_shift 186 = .ok (.putfield 22, 3) := by decide +kernel
theorem dX3_shift_189 : decode cX3_shift 189 = .ok (.aload_n 0, 1) := by decide +kernel
theorem dX3_shift_190 : decode cX3_shift 190 = .ok (.aload_n 0, 1) := by decide +kernel
theorem dX3_shift_191 : decode cX3_shift 191 = .ok (.getfield 29, 3) := by decide +kernel
theorem dX3_shift_194 : decode cX3_shift 194 = .ok (.lload_n 3, 1) := by decide +kernel
theorem dX3_shift_195 : decode cX3_shift 195 = .ok (.invokestatic 156, 3) := by decide +kernel
theorem dX3_shift_198 : decode cX3_shift 198 = .ok (.putfield 29, 3) := by decide +kernel
theorem dX3_shift_201 : decode cX3_shift 201 = .ok (.aload_n 0, 1) := by decide +kernel
theorem dX3_shift_202 : decode cX3_shift 202 = .ok (.aload_n 0, 1) := by decide +kernel
theorem dX3_shift_203 : decode cX3_shift 203 = .ok (.getfield 32, 3) := by decide +kernel
theorem dX3_shift_206 : decode cX3_shift 206 = .ok (.lload_n 3, 1) := by decide +kernel
theorem dX3_shift_207 : decode cX3_shift 207 = .ok (.invokestatic 156, 3) := by decide +kernel
theorem dX3_shift_210 : decode cX3_shift 210 = .ok (.putfield 32, 3) := by decide +kernel
theorem dX3_shift_213 : decode cX3_shift 213 = .ok (.aload_n 0, 1) := by decide +kernel
theorem dX3_shift_214 : decode cX3_shift 214 = .ok (.bipush 6, 2) := by decide +kernel
theorem dX3_shift_216 : decode cX3_shift 216 = .ok (.iconst 2, 1) := by decide +kernel
theorem dX3_shift_217 : decode cX3_shift 217 = .ok (.aload_n 0, 1) := by decide +kernel
theorem dX3_shift_218 : decode cX3_shift 218 = .ok (.getfield 56, 3) := by decide +kernel
theorem dX3_shift_221 : decode cX3_shift 221 = .ok (.imul, 1) := by decide +kernel
theorem dX3_shift_222 : decode cX3_shift 222 = .ok (.iadd, 1) := by decide +kernel
theorem dX3_shift_223 : decode cX3_shift 223 = .ok (.iconst 2, 1) := by decide +kernel
theorem dX3_shift_224 : decode cX3_shift 224 = .ok (.aload_n 0, 1) := by decide +kernel
theorem dX3_shift_225 : decode cX3_shift 225 = .ok (.getfield 88, 3) := by decide +kernel
theorem dX3_shift_228 : decode cX3_shift 228 = .ok (.imul, 1) := by decide +kernel
theorem dX3_shift_229 : decode cX3_shift 229 = .ok (.iadd, 1) := by decide +kernel
theorem dX3_shift_230 : decode cX3_shift 230 = .ok (.invokevirtual 136, 3) := by decide +kernel
theorem dX3_shift_233 : decode cX3_shift 233 = .ok (.ireturn, 1) := by decide +kernel
theorem dX3_open_0 : decode cX3_open 0 = .ok (.aload_n 0, 1) := by decide +kernel
theorem dX3_open_1 : decode cX3_open 1 = .ok (.iload_n 1, 1) := by decide +kernel
theorem dX3_open_2 : decode cX3_open 2 = .ok (.invokestatic 123, 3) := by decide +kernel
theorem dX3_open_5 : decode cX3_open 5 = .ok (.ifCond .eq 10, 3) := by decide +kernel
theorem dX3_open_8 : decode cX3_open 8 = .ok (.iload_n 2, 1) := by decide +kernel
theorem dX3_open_9 : decode cX3_open 9 = .ok (.invokestatic 123, 3) := by decide +kernel
theorem dX3_open_12 : decode cX3_open 12 = .ok (.ifCond .ne 7, 3) := by decide +kernel
theorem dX3_open_15 : decode cX3_open 15 = .ok (.iconst 1, 1) := by decide +kernel
theorem dX3_open_16 : decode cX3_open 16 = .ok (.goto 4, 3) := by decide +kernel
theorem dX3_open_19 : decode cX3_open 19 = .ok (.iconst 0, 1) := by decide +kernel
theorem dX3_open_20 : decode cX3_open 20 = .ok (.invokevirtual 149, 3) := by decide +kernel
theorem dX3_open_23 : decode cX3_open 23 = .ok (.ifCond .eq 5, 3) := by decide +kernel
theorem dX3_open_26 : decode cX3_open 26 = .ok (.iconst 0, 1) := by decide +kernel
theorem dX3_open_27 : decode cX3_open 27 = .ok (.ireturn, 1) := by decide +kernel
theorem dX3_open_28 : decode cX3_open 28 = .ok (.aload_n 0, 1) := by decide +kernel
theorem dX3_open_29 : decode cX3_open 29 = .ok (.getfield 7, 3) := by decide +kernel
theorem dX3_open_32 : decode cX3_open 32 = .ok (.iload_n 1, 1) := by decide +kernel
theorem dX3_open_33 : decode cX3_open 33 = .ok (.laload, 1) := by decide +kernel
theorem dX3_open_34 : decode cX3_open 34 = .ok (.aload_n 0, 1) := by decide +kernel
theorem dX3_open_35 : decode cX3_open 35 = .ok (.getfield 7, 3) := by decide +kernel
theorem dX3_open_38 : decode cX3_open 38 = .ok (.iload_n 2, 1) := by decide +kernel
theorem dX3_open_39 : decode cX3_open 39 = .ok (.laload, 1) := by decide +kernel
theorem dX3_open_40 : decode cX3_open 40 = .ok (.lcmp, 1) := by decide +kernel
theorem dX3_open_41 : decode cX3_open 41 = .ok (.ifCond .lt 8, 3) := by decide +kernel
theorem dX3_open_44 : decode cX3_open 44 = .ok (.aload_n 0, 1) := by decide +kernel
theorem dX3_open_45 : decode cX3_open 45 = .ok (.invokevirtual 132, 3) := by decide +kernel
theorem dX3_open_48 : decode cX3_open 48 = .ok (.ireturn, 1) := by decide +kernel
theorem dX3_open_49 : decode cX3_open 49 = .ok (.aload_n 0, 1) := by decide +kernel
theorem dX3_open_50 : decode cX3_open 50 = .ok (.aload_n 0, 1) := by decide +kernel
theorem dX3_open_51 : decode cX3_open 51 = .ok (.getfield 7, 3) := by decide +kernel
theorem dX3_open_54 : decode cX3_open 54 = .ok (.iload_n 1, 1) := by decide +kernel
theorem dX3_open_55 : decode cX3_open 55 = .ok (.laload, 1) := by decide +kernel
theorem dX3_open_56 : decode cX3_open 56 = .ok (.putfield 53, 3) := by decide +kernel
theorem dX3_open_59 : decode cX3_open 59 = .ok (.aload_n 0, 1) := by decide +kernel
theorem dX3_open_60 : decode cX3_open 60 = .ok (.aload_n 0, 1) := by decide +kernel
theorem dX3_open_61 : decode cX3_open 61 = .ok (.getfield 7, 3) := by decide +kernel
theorem dX3_open_64 : decode cX3_open 64 = .ok (.iload_n 2, 1) := by decide +kernel
theorem dX3_open_65 : decode cX3_open 65 = .ok (.laload, 1) := by decide +kernel
theorem dX3_open_66 : decode cX3_open 66 = .ok (.putfield 15, 3) := by decide +kernel
theorem dX3_open_69 : decode cX3_open 69 = .ok (.aload_n 0, 1) := by decide +kernel
theorem dX3_open_70 : decode cX3_open 70 = .ok (.getfield 56, 3) := by decide +kernel
theorem dX3_open_73 : decode cX3_open 73 = .ok (.istore_n 3, 1) := by decide +kernel
theorem dX3_open_74 : decode cX3_open 74 = .ok (.aload_n 0, 1) := by decide +kernel
theorem dX3_open_75 : decode cX3_open 75 = .ok (.iconst 0, 1) := by decide +kernel
theorem dX3_open_76 : decode cX3_open 76 = .ok (.putfield 56, 3) := by decide +kernel
theorem dX3_open_79 : decode cX3_open 79 = .ok (.aload_n 0, 1) := by decide +kernel
theorem dX3_open_80 : decode cX3_open 80 = .ok (.iload_n 3, 1) := by decide +kernel
theorem dX3_open_81 : decode cX3_open 81 = .ok (.invokevirtual 136, 3) := by decide +kernel
theorem dX3_open_84 : decode cX3_open 84 = .ok (.ireturn, 1) := by decide +kernel
theorem dX3_mayCome_0 : decode cX3_mayCome 0 = .ok (.lload_n 1, 1) := by decide +kernel
theorem dX3_mayCome_1 : decode cX3_mayCome 1 = .ok (.lload_n 3, 1) := by decide +kernel
theorem dX3_mayCome_2 : decode cX3_mayCome 2 = .ok (.lcmp, 1) := by decide +kernel
theorem dX3_mayCome_3 : decode cX3_mayCome 3 = .ok (.ifCond .ge 40, 3) := by decide +kernel
theorem dX3_mayCome_6 : decode cX3_mayCome 6 = .ok (.aload_n 0, 1) := by decide +kernel
theorem dX3_mayCome_7 : decode cX3_mayCome 7 = .ok (.lload_n 1, 1) := by decide +kernel
theorem dX3_mayCome_8 : decode cX3_mayCome 8 = .ok (.lload_n 3, 1) := by decide +kernel
theorem dX3_mayCome_9 : decode cX3_mayCome 9 = .ok (.invokevirtual 80, 3) := by decide +kernel
theorem dX3_mayCome_12 : decode cX3_mayCome 12 = .ok (.ifCond .eq 31, 3) := by decide +kernel
theorem dX3_mayCome_15 : decode cX3_mayCome 15 = .ok (.aload_n 0, 1) := by decide +kernel
theorem dX3_mayCome_16 : decode cX3_mayCome 16 = .ok (.getfield 56, 3) := by decide +kernel
theorem dX3_mayCome_19 : decode cX3_mayCome 19 = .ok (.bipush 10, 2) := by decide +kernel
theorem dX3_mayCome_21 : decode cX3_mayCome 21 = .ok (.if_icmp .ge 22, 3) := by decide +kernel
theorem dX3_mayCome_24 : decode cX3_mayCome 24 = .ok (.iload 5, 2) := by decide +kernel
theorem dX3_mayCome_26 : decode cX3_mayCome 26 = .ok (.ifCond .ne 13, 3) := by decide +kernel
theorem dX3_mayCome_29 : decode cX3_mayCome 29 = .ok (.aload_n 0, 1) := by decide +kernel
theorem dX3_mayCome_30 : decode cX3_mayCome 30 = .ok (.lload_n 1, 1) := by decide +kernel
theorem dX3_mayCome_31 : decode cX3_mayCome 31 = .ok (.lload_n 3, 1) := by decide +kernel
theorem dX3_mayCome_32 : decode cX3_mayCome 32 = .ok (.iconst (-1), 1) := by decide +kernel
theorem dX3_mayCome_33 : decode cX3_mayCome 33 = .ok (.invokevirtual 84, 3) := by decide +kernel
theorem dX3_mayCome_36 : decode cX3_mayCome 36 = .ok (.ifCond .ne 7, 3) := by decide +kernel
theorem dX3_mayCome_39 : decode cX3_mayCome 39 = .ok (.iconst 1, 1) := by decide +kernel
theorem dX3_mayCome_40 : decode cX3_mayCome 40 = .ok (.goto 4, 3) := by decide +kernel
theorem dX3_mayCome_43 : decode cX3_mayCome 43 = .ok (.iconst 0, 1) := by decide +kernel
theorem dX3_mayCome_44 : decode cX3_mayCome 44 = .ok (.ireturn, 1) := by decide +kernel
theorem dX3_come_0 : decode cX3_come 0 = .ok (.aload_n 0, 1) := by decide +kernel
theorem dX3_come_1 : decode cX3_come 1 = .ok (.getfield 19, 3) := by decide +kernel
theorem dX3_come_4 : decode cX3_come 4 = .ok (.aload_n 0, 1) := by decide +kernel
theorem dX3_come_5 : decode cX3_come 5 = .ok (.getfield 56, 3) := by decide +kernel
theorem dX3_come_8 : decode cX3_come 8 = .ok (.lload_n 1, 1) := by decide +kernel
theorem dX3_come_9 : decode cX3_come 9 = .ok (.lastore, 1) := by decide +kernel
theorem dX3_come_10 : decode cX3_come 10 = .ok (.aload_n 0, 1) := by decide +kernel
theorem dX3_come_11 : decode cX3_come 11 = .ok (.getfield 22, 3) := by decide +kernel
theorem dX3_come_14 : decode cX3_come 14 = .ok (.aload_n 0, 1) := by decide +kernel
theorem dX3_come_15 : decode cX3_come 15 = .ok (.getfield 56, 3) := by decide +kernel
theorem dX3_come_18 : decode cX3_come 18 = .ok (.lload_n 3, 1) := by decide +kernel
theorem dX3_come_19 : decode cX3_come 19 = .ok (.lastore, 1) := by decide +kernel
theorem dX3_come_20 : decode cX3_come 20 = .ok (.aload_n 0, 1) := by decide +kernel
theorem dX3_come_21 : decode cX3_come 21 = .ok (.getfield 25, 3) := by decide +kernel
theorem dX3_come_24 : decode cX3_come 24 = .ok (.aload_n 0, 1) := by decide +kernel
theorem dX3_come_25 : decode cX3_come 25 = .ok (.getfield 56, 3) := by decide +kernel
theorem dX3_come_28 : decode cX3_come 28 = .ok (.iload 5, 2) := by decide +kernel
theorem dX3_come_30 : decode cX3_come 30 = .ok (.bastore, 1) := by decide +kernel
theorem dX3_come_31 : decode cX3_come 31 = .ok (.aload_n 0, 1) := by decide +kernel
theorem dX3_come_32 : decode cX3_come 32 = .ok (.dup, 1) := by decide +kernel
theorem dX3_come_33 : decode cX3_come 33 = .ok (.getfield 56, 3) := by decide +kernel
theorem dX3_come_36 : decode cX3_come 36 = .ok (.iconst 1, 1) := by decide +kernel
theorem dX3_come_37 : decode cX3_come 37 = .ok (.iadd, 1) := by decide +kernel
theorem dX3_come_38 : decode cX3_come 38 = .ok (.putfield 56, 3) := by decide +kernel
theorem dX3_come_41 : decode cX3_come 41 = .ok (.aload_n 0, 1) := by decide +kernel
theorem dX3_come_42 : decode cX3_come 42 = .ok (.aload_n 0, 1) := by decide +kernel
theorem dX3_come_43 : decode cX3_come 43 = .ok (.getfield 56, 3) := by decide +kernel
theorem dX3_come_46 : decode cX3_come 46 = .ok (.iconst 1, 1) := by decide +kernel
theorem dX3_come_47 : decode cX3_come 47 = .ok (.isub, 1) := by decide +kernel
theorem dX3_come_48 : decode cX3_come 48 = .ok (.invokevirtual 136, 3) := by decide +kernel
theorem dX3_come_51 : decode cX3_come 51 = .ok (.ireturn, 1) := by decide +kernel
theorem dX3_book_0 : decode cX3_book 0 = .ok (.aload_n 0, 1) := by decide +kernel
theorem dX3_book_1 : decode cX3_book 1 = .ok (.iload_n 1, 1) := by decide +kernel
theorem dX3_book_2 : decode cX3_book 2 = .ok (.invokestatic 123, 3) := by decide +kernel
theorem dX3_book_5 : decode cX3_book 5 = .ok (.ifCond .eq 10, 3) := by decide +kernel
theorem dX3_book_8 : decode cX3_book 8 = .ok (.iload_n 2, 1) := by decide +kernel
theorem dX3_book_9 : decode cX3_book 9 = .ok (.invokestatic 123, 3) := by decide +kernel
theorem dX3_book_12 : decode cX3_book 12 = .ok (.ifCond .ne 7, 3) := by decide +kernel
theorem dX3_book_15 : decode cX3_book 15 = .ok (.iconst 1, 1) := by decide +kernel
theorem dX3_book_16 : decode cX3_book 16 = .ok (.goto 4, 3) := by decide +kernel
theorem dX3_book_19 : decode cX3_book 19 = .ok (.iconst 0, 1) := by decide +kernel
theorem dX3_book_20 : decode cX3_book 20 = .ok (.invokevirtual 149, 3) := by decide +kernel
theorem dX3_book_23 : decode cX3_book 23 = .ok (.ifCond .eq 5, 3) := by decide +kernel
theorem dX3_book_26 : decode cX3_book 26 = .ok (.iconst 0, 1) := by decide +kernel
theorem dX3_book_27 : decode cX3_book 27 = .ok (.ireturn, 1) := by decide +kernel
theorem dX3_book_28 : decode cX3_book 28 = .ok (.aload_n 0, 1) := by decide +kernel
theorem dX3_book_29 : decode cX3_book 29 = .ok (.aload_n 0, 1) := by decide +kernel
theorem dX3_book_30 : decode cX3_book 30 = .ok (.getfield 7, 3) := by decide +kernel
theorem dX3_book_33 : decode cX3_book 33 = .ok (.iload_n 1, 1) := by decide +kernel
theorem dX3_book_34 : decode cX3_book 34 = .ok (.laload, 1) := by decide +kernel
theorem dX3_book_35 : decode cX3_book 35 = .ok (.aload_n 0, 1) := by decide +kernel
theorem dX3_book_36 : decode cX3_book 36 = .ok (.getfield 7, 3) := by decide +kernel
theorem dX3_book_39 : decode cX3_book 39 = .ok (.iload_n 2, 1) := by decide +kernel
theorem dX3_book_40 : decode cX3_book 40 = .ok (.laload, 1) := by decide +kernel
theorem dX3_book_41 : decode cX3_book 41 = .ok (.iload_n 3, 1) := by decide +kernel
theorem dX3_book_42 : decode cX3_book 42 = .ok (.invokevirtual 160, 3) := by decide +kernel
theorem dX3_book_45 : decode cX3_book 45 = .ok (.ifCond .eq 23, 3) := by decide +kernel
theorem dX3_book_48 : decode cX3_book 48 = .ok (.aload_n 0, 1) := by decide +kernel
theorem dX3_book_49 : decode cX3_book 49 = .ok (.aload_n 0, 1) := by decide +kernel
theorem dX3_book_50 : decode cX3_book 50 = .ok (.getfield 7, 3) := by decide +kernel
theorem dX3_book_53 : decode cX3_book 53 = .ok (.iload_n 1, 1) := by decide +kernel
theorem dX3_book_54 : decode cX3_book 54 = .ok (.laload, 1) := by decide +kernel
theorem dX3_book_55 : decode cX3_book 55 = .ok (.aload_n 0, 1) := by decide +kernel
theorem dX3_book_56 : decode cX3_book 56 = .ok (.getfield 7, 3) := by decide +kernel
theorem dX3_book_59 : decode cX3_book 59 = .ok (.iload_n 2, 1) := by decide +kernel
theorem dX3_book_60 : decode cX3_book 60 = .ok (.laload, 1) := by decide +kernel
theorem dX3_book_61 : decode cX3_book 61 = .ok (.iload_n 3, 1) := by decide +kernel
theorem dX3_book_62 : decode cX3_book 62 = .ok (.invokevirtual 164, 3) := by decide +kernel
theorem dX3_book_65 : decode cX3_book 65 = .ok (.goto 7, 3) := by decide +kernel
theorem dX3_book_68 : decode cX3_book 68 = .ok (.aload_n 0, 1) := by decide +kernel
theorem dX3_book_69 : decode cX3_book 69 = .ok (.invokevirtual 132, 3) := by decide +kernel
theorem dX3_book_72 : decode cX3_book 72 = .ok (.ireturn, 1) := by decide +kernel
theorem dX3_unbook_0 : decode cX3_unbook 0 = .ok (.aload_n 0, 1) := by decide +kernel
theorem dX3_unbook_1 : decode cX3_unbook 1 = .ok (.aload_n 0, 1) := by decide +kernel
theorem dX3_unbook_2 : decode cX3_unbook 2 = .ok (.iload_n 1, 1) := by decide +kernel
theorem dX3_unbook_3 : decode cX3_unbook 3 = .ok (.invokevirtual 168, 3) := by decide +kernel
theorem dX3_unbook_6 : decode cX3_unbook 6 = .ok (.ifCond .ne 7, 3) := by decide +kernel
theorem dX3_unbook_9 : decode cX3_unbook 9 = .ok (.iconst 1, 1) := by decide +kernel
theorem dX3_unbook_10 : decode cX3_unbook 10 = .ok (.goto 4, 3) := by decide +kernel
theorem dX3_unbook_13 : decode cX3_unbook 13 = .ok (.iconst 0, 1) := by decide +kernel
theorem dX3_unbook_14 : decode cX3_unbook 14 = .ok (.invokevirtual 149, 3) := by decide +kernel
theorem dX3_unbook_17 : decode cX3_unbook 17 = .ok (.ifCond .eq 5, 3) := by decide +kernel
theorem dX3_unbook_20 : decode cX3_unbook 20 = .ok (.iconst 0, 1) := by decide +kernel
theorem dX3_unbook_21 : decode cX3_unbook 21 = .ok (.ireturn, 1) := by decide +kernel
theorem dX3_unbook_22 : decode cX3_unbook 22 = .ok (.aload_n 0, 1) := by decide +kernel
theorem dX3_unbook_23 : decode cX3_unbook 23 = .ok (.dup, 1) := by decide +kernel
theorem dX3_unbook_24 : decode cX3_unbook 24 = .ok (.getfield 56, 3) := by decide +kernel
theorem dX3_unbook_27 : decode cX3_unbook 27 = .ok (.iconst 1, 1) := by decide +kernel
theorem dX3_unbook_28 : decode cX3_unbook 28 = .ok (.isub, 1) := by decide +kernel
theorem dX3_unbook_29 : decode cX3_unbook 29 = .ok (.putfield 56, 3) := by decide +kernel
theorem dX3_unbook_32 : decode cX3_unbook 32 = .ok (.iload_n 1, 1) := by decide +kernel
theorem dX3_unbook_33 : decode cX3_unbook 33 = .ok (.istore_n 2, 1) := by decide +kernel
theorem dX3_unbook_34 : decode cX3_unbook 34 = .ok (.iload_n 2, 1) := by decide +kernel
theorem dX3_unbook_35 : decode cX3_unbook 35 = .ok (.aload_n 0, 1) := by decide +kernel
theorem dX3_unbook_36 : decode cX3_unbook 36 = .ok (.getfield 56, 3) := by decide +kernel
theorem dX3_unbook_39 : decode cX3_unbook 39 = .ok (.if_icmp .ge 51, 3) := by decide +kernel
theorem dX3_unbook_42 : decode cX3_unbook 42 = .ok (.aload_n 0, 1) := by decide +kernel
theorem dX3_unbook_43 : decode cX3_unbook 43 = .ok (.getfield 19, 3) := by decide +kernel
theorem dX3_unbook_46 : decode cX3_unbook 46 = .ok (.iload_n 2, 1) := by decide +kernel
theorem dX3_unbook_47 : decode cX3_unbook 47 = .ok (.aload_n 0, 1) := by decide +kernel
theorem dX3_unbook_48 : decode cX3_unbook 48 = .ok (.getfield 19, 3) := by decide +kernel
theorem dX3_unbook_51 : decode cX3_unbook 51 = .ok (.iload_n 2, 1) := by decide +kernel
theorem dX3_unbook_52 : decode cX3_unbook 52 = .ok (.iconst 1, 1) := by decide +kernel
theorem dX3_unbook_53 : decode cX3_unbook 53 = .ok (.iadd, 1) := by decide +kernel
theorem dX3_unbook_54 : decode cX3_unbook 54 = .ok (.laload, 1) := by decide +kernel
theorem dX3_unbook_55 : decode cX3_unbook 55 = .ok (.lastore, 1) := by decide +kernel
theorem dX3_unbook_56 : decode cX3_unbook 56 = .ok (.aload_n 0, 1) := by decide +kernel
theorem dX3_unbook_57 : decode cX3_unbook 57 = .ok (.getfield 22, 3) := by decide +kernel
theorem dX3_unbook_60 : decode cX3_unbook 60 = .ok (.iload_n 2, 1) := by decide +kernel
theorem dX3_unbook_61 : decode cX3_unbook 61 = .ok (.aload_n 0, 1) := by decide +kernel
theorem dX3_unbook_62 : decode cX3_unbook 62 = .ok (.getfield 22, 3) := by decide +kernel
theorem dX3_unbook_65 : decode cX3_unbook 65 = .ok (.iload_n 2, 1) := by decide +kernel
theorem dX3_unbook_66 : decode cX3_unbook 66 = .ok (.iconst 1, 1) := by decide +kernel
theorem dX3_unbook_67 : decode cX3_unbook 67 = .ok (.iadd, 1) := by decide +kernel
theorem dX3_unbook_68 : decode cX3_unbook 68 = .ok (.laload, 1) := by decide +kernel
theorem dX3_unbook_69 : decode cX3_unbook 69 = .ok (.lastore, 1) := by decide +kernel
theorem dX3_unbook_70 : decode cX3_unbook 70 = .ok (.aload_n 0, 1) := by decide +kernel
theorem dX3_unbook_71 : decode cX3_unbook 71 = .ok (.getfield 25, 3) := by decide +kernel
theorem dX3_unbook_74 : decode cX3_unbook 74 = .ok (.iload_n 2, 1) := by decide +kernel
theorem dX3_unbook_75 : decode cX3_unbook 75 = .ok (.aload_n 0, 1) := by decide +kernel
theorem dX3_unbook_76 : decode cX3_unbook 76 = .ok (.getfield 25, 3) := by decide +kernel
theorem dX3_unbook_79 : decode cX3_unbook 79 = .ok (.iload_n 2, 1) := by decide +kernel
theorem dX3_unbook_80 : decode cX3_unbook 80 = .ok (.iconst 1, 1) := by decide +kernel
theorem dX3_unbook_81 : decode cX3_unbook 81 = .ok (.iadd, 1) := by decide +kernel
theorem dX3_unbook_82 : decode cX3_unbook 82 = .ok (.baload, 1) := by decide +kernel
theorem dX3_unbook_83 : decode cX3_unbook 83 = .ok (.bastore, 1) := by decide +kernel
theorem dX3_unbook_84 : decode cX3_unbook 84 = .ok (.iinc 2 1, 3) := by decide +kernel
theorem dX3_unbook_87 : decode cX3_unbook 87 = .ok (.goto (-53), 3) := by decide +kernel
theorem dX3_unbook_90 : decode cX3_unbook 90 = .ok (.aload_n 0, 1) := by decide +kernel
theorem dX3_unbook_91 : decode cX3_unbook 91 = .ok (.aload_n 0, 1) := by decide +kernel
theorem dX3_unbook_92 : decode cX3_unbook 92 = .ok (.getfield 56, 3) := by decide +kernel
theorem dX3_unbook_95 : decode cX3_unbook 95 = .ok (.invokevirtual 136, 3) := by decide +kernel
theorem dX3_unbook_98 : decode cX3_unbook 98 = .ok (.ireturn, 1) := by decide +kernel
theorem dX3_empty_0 : decode cX3_empty 0 = .ok (.aload_n 0, 1) := by decide +kernel
theorem dX3_empty_1 : decode cX3_empty 1 = .ok (.iconst 0, 1) := by decide +kernel
theorem dX3_empty_2 : decode cX3_empty 2 = .ok (.putfield 35, 3) := by decide +kernel
theorem dX3_empty_5 : decode cX3_empty 5 = .ok (.aload_n 0, 1) := by decide +kernel
theorem dX3_empty_6 : decode cX3_empty 6 = .ok (.getfield 56, 3) := by decide +kernel
theorem dX3_empty_9 : decode cX3_empty 9 = .ok (.istore_n 1, 1) := by decide +kernel
theorem dX3_empty_10 : decode cX3_empty 10 = .ok (.aload_n 0, 1) := by decide +kernel
theorem dX3_empty_11 : decode cX3_empty 11 = .ok (.iconst 0, 1) := by decide +kernel
theorem dX3_empty_12 : decode cX3_empty 12 = .ok (.putfield 56, 3) := by decide +kernel
theorem dX3_empty_15 : decode cX3_empty 15 = .ok (.aload_n 0, 1) := by decide +kernel
theorem dX3_empty_16 : decode cX3_empty 16 = .ok (.iload_n 1, 1) := by decide +kernel
theorem dX3_empty_17 : decode cX3_empty 17 = .ok (.invokevirtual 136, 3) := by decide +kernel
theorem dX3_empty_20 : decode cX3_empty 20 = .ok (.ireturn, 1) := by decide +kernel
theorem dX3_less_0 : decode cX3_less 0 = .ok (.iconst 0, 1) := by decide +kernel
theorem dX3_less_1 : decode cX3_less 1 = .ok (.istore 4, 2) := by decide +kernel
theorem dX3_less_3 : decode cX3_less 3 = .ok (.iconst 0, 1) := by decide +kernel
theorem dX3_less_4 : decode cX3_less 4 = .ok (.istore 5, 2) := by decide +kernel
theorem dX3_less_6 : decode cX3_less 6 = .ok (.iload 5, 2) := by decide +kernel
theorem dX3_less_8 : decode cX3_less 8 = .ok (.iload_n 1, 1) := by decide +kernel
theorem dX3_less_9 : decode cX3_less 9 = .ok (.if_icmp .ge 28, 3) := by decide +kernel
theorem dX3_less_12 : decode cX3_less 12 = .ok (.iload 4, 2) := by decide +kernel
theorem dX3_less_14 : decode cX3_less 14 = .ok (.aload_n 0, 1) := by decide +kernel
theorem dX3_less_15 : decode cX3_less 15 = .ok (.iload 5, 2) := by decide +kernel
theorem dX3_less_17 : decode cX3_less 17 = .ok (.laload, 1) := by decide +kernel
theorem dX3_less_18 : decode cX3_less 18 = .ok (.lload_n 2, 1) := by decide +kernel
theorem dX3_less_19 : decode cX3_less 19 = .ok (.lcmp, 1) := by decide +kernel
theorem dX3_less_20 : decode cX3_less 20 = .ok (.ifCond .ge 7, 3) := by decide +kernel
theorem dX3_less_23 : decode cX3_less 23 = .ok (.iconst 1, 1) := by decide +kernel
theorem dX3_less_24 : decode cX3_less 24 = .ok (.goto 4, 3) := by decide +kernel
theorem dX3_less_27 : decode cX3_less 27 = .ok (.iconst 0, 1) := by decide +kernel
theorem dX3_less_28 : decode cX3_less 28 = .ok (.iadd, 1) := by decide +kernel
theorem dX3_less_29 : decode cX3_less 29 = .ok (.istore 4, 2) := by decide +kernel
theorem dX3_less_31 : decode cX3_less 31 = .ok (.iinc 5 1, 3) := by decide +kernel
theorem dX3_less_34 : decode cX3_less 34 = .ok (.goto (-28), 3) := by decide +kernel
theorem dX3_less_37 : decode cX3_less 37 = .ok (.iload 4, 2) := by decide +kernel
theorem dX3_less_39 : decode cX3_less 39 = .ok (.ireturn, 1) := by decide +kernel
theorem dX3_move_0 : decode cX3_move 0 = .ok (.aload_n 0, 1) := by decide +kernel
theorem dX3_move_1 : decode cX3_move 1 = .ok (.aload_n 0, 1) := by decide +kernel
theorem dX3_move_2 : decode cX3_move 2 = .ok (.iload_n 1, 1) := by decide +kernel
theorem dX3_move_3 : decode cX3_move 3 = .ok (.invokevirtual 168, 3) := by decide +kernel
theorem dX3_move_6 : decode cX3_move 6 = .ok (.ifCond .ne 7, 3) := by decide +kernel
theorem dX3_move_9 : decode cX3_move 9 = .ok (.iconst 1, 1) := by decide +kernel
theorem dX3_move_10 : decode cX3_move 10 = .ok (.goto 4, 3) := by decide +kernel
theorem dX3_move_13 : decode cX3_move 13 = .ok (.iconst 0, 1) := by decide +kernel
theorem dX3_move_14 : decode cX3_move 14 = .ok (.iload_n 2, 1) := by decide +kernel
theorem dX3_move_15 : decode cX3_move 15 = .ok (.iload_n 3, 1) := by decide +kernel
theorem dX3_move_16 : decode cX3_move 16 = .ok (.invokestatic 139, 3) := by decide +kernel
theorem dX3_move_19 : decode cX3_move 19 = .ok (.invokevirtual 113, 3) := by decide +kernel
theorem dX3_move_22 : decode cX3_move 22 = .ok (.ifCond .eq 5, 3) := by decide +kernel
theorem dX3_move_25 : decode cX3_move 25 = .ok (.iconst 0, 1) := by decide +kernel
theorem dX3_move_26 : decode cX3_move 26 = .ok (.ireturn, 1) := by decide +kernel
theorem dX3_move_27 : decode cX3_move 27 = .ok (.aload_n 0, 1) := by decide +kernel
theorem dX3_move_28 : decode cX3_move 28 = .ok (.getfield 19, 3) := by decide +kernel
theorem dX3_move_31 : decode cX3_move 31 = .ok (.iload_n 1, 1) := by decide +kernel
theorem dX3_move_32 : decode cX3_move 32 = .ok (.laload, 1) := by decide +kernel
theorem dX3_move_33 : decode cX3_move 33 = .ok (.iload_n 2, 1) := by decide +kernel
theorem dX3_move_34 : decode cX3_move 34 = .ok (.iload_n 3, 1) := by decide +kernel
theorem dX3_move_35 : decode cX3_move 35 = .ok (.invokestatic 142, 3) := by decide +kernel
theorem dX3_move_38 : decode cX3_move 38 = .ok (.ladd, 1) := by decide +kernel
theorem dX3_move_39 : decode cX3_move 39 = .ok (.lstore 4, 2) := by decide +kernel
theorem dX3_move_41 : decode cX3_move 41 = .ok (.aload_n 0, 1) := by decide +kernel
theorem dX3_move_42 : decode cX3_move 42 = .ok (.getfield 22, 3) := by decide +kernel
theorem dX3_move_45 : decode cX3_move 45 = .ok (.iload_n 1, 1) := by decide +kernel
theorem dX3_move_46 : decode cX3_move 46 = .ok (.laload, 1) := by decide +kernel
theorem dX3_move_47 : decode cX3_move 47 = .ok (.iload_n 2, 1) := by decide +kernel
theorem dX3_move_48 : decode cX3_move 48 = .ok (.iload_n 3, 1) := by decide +kernel
theorem dX3_move_49 : decode cX3_move 49 = .ok (.invokestatic 142, 3) := by decide +kernel
theorem dX3_move_52 : decode cX3_move 52 = .ok (.ladd, 1) := by decide +kernel
theorem dX3_move_53 : decode cX3_move 53 = .ok (.lstore 6, 2) := by decide +kernel
theorem dX3_move_55 : decode cX3_move 55 = .ok (.aload_n 0, 1) := by decide +kernel
theorem dX3_move_56 : decode cX3_move 56 = .ok (.lload 4, 2) := by decide +kernel
theorem dX3_move_58 : decode cX3_move 58 = .ok (.lload 6, 2) := by decide +kernel
theorem dX3_move_60 : decode cX3_move 60 = .ok (.invokevirtual 80, 3) := by decide +kernel
theorem dX3_move_63 : decode cX3_move 63 = .ok (.ifCond .eq 15, 3) := by decide +kernel
theorem dX3_move_66 : decode cX3_move 66 = .ok (.aload_n 0, 1) := by decide +kernel
theorem dX3_move_67 : decode cX3_move 67 = .ok (.lload 4, 2) := by decide +kernel
theorem dX3_move_69 : decode cX3_move 69 = .ok (.lload 6, 2) := by decide +kernel
theorem dX3_move_71 : decode cX3_move 71 = .ok (.iload_n 1, 1) := by decide +kernel
theorem dX3_move_72 : decode cX3_move 72 = .ok (.invokevirtual 84, 3) := by decide +kernel
theorem dX3_move_75 : decode cX3_move 75 = .ok (.ifCond .eq 8, 3) := by decide +kernel
theorem dX3_move_78 : decode cX3_move 78 = .ok (.aload_n 0, 1) := by decide +kernel
theorem dX3_move_79 : decode cX3_move 79 = .ok (.invokevirtual 132, 3) := by decide +kernel
theorem dX3_move_82 : decode cX3_move 82 = .ok (.ireturn, 1) := by decide +kernel
theorem dX3_move_83 : decode cX3_move 83 = .ok (.aload_n 0, 1) := by decide +kernel
theorem dX3_move_84 : decode cX3_move 84 = .ok (.getfield 19, 3) := by decide +kernel
theorem dX3_move_87 : decode cX3_move 87 = .ok (.iload_n 1, 1) := by decide +kernel
theorem dX3_move_88 : decode cX3_move 88 = .ok (.lload 4, 2) := by decide +kernel
theorem dX3_move_90 : decode cX3_move 90 = .ok (.lastore, 1) := by decide +kernel
theorem dX3_move_91 : decode cX3_move 91 = .ok (.aload_n 0, 1) := by decide +kernel
theorem dX3_move_92 : decode cX3_move 92 = .ok (.getfield 22, 3) := by decide +kernel
theorem dX3_move_95 : decode cX3_move 95 = .ok (.iload_n 1, 1) := by decide +kernel
theorem dX3_move_96 : decode cX3_move 96 = .ok (.lload 6, 2) := by decide +kernel
theorem dX3_move_98 : decode cX3_move 98 = .ok (.lastore, 1) := by decide +kernel
theorem dX3_move_99 : decode cX3_move 99 = .ok (.aload_n 0, 1) := by decide +kernel
theorem dX3_move_100 : decode cX3_move 100 = .ok (.aload_n 0, 1) := by decide +kernel
theorem dX3_move_101 : decode cX3_move 101 = .ok (.getfield 19, 3) := by decide +kernel
theorem dX3_move_104 : decode cX3_move 104 = .ok (.aload_n 0, 1) := by decide +kernel
theorem dX3_move_105 : decode cX3_move 105 = .ok (.getfield 56, 3) := by decide +kernel
theorem dX3_move_108 : decode cX3_move 108 = .ok (.lload 4, 2) := by decide +kernel
theorem dX3_move_110 : decode cX3_move 110 = .ok (.invokestatic 171, 3) := by decide +kernel
theorem dX3_move_113 : decode cX3_move 113 = .ok (.invokevirtual 136, 3) := by decide +kernel
theorem dX3_move_116 : decode cX3_move 116 = .ok (.ireturn, 1) := by decide +kernel
theorem dX3_stretch_0 : decode cX3_stretch 0 = .ok (.aload_n 0, 1) := by decide +kernel
theorem dX3_stretch_1 : decode cX3_stretch 1 = .ok (.aload_n 0, 1) := by decide +kernel
theorem dX3_stretch_2 : decode cX3_stretch 2 = .ok (.iload_n 1, 1) := by decide +kernel
theorem dX3_stretch_3 : decode cX3_stretch 3 = .ok (.invokevirtual 168, 3) := by decide +kernel
theorem dX3_stretch_6 : decode cX3_stretch 6 = .ok (.ifCond .ne 7, 3) := by decide +kernel
theorem dX3_stretch_9 : decode cX3_stretch 9 = .ok (.iconst 1, 1) := by decide +kernel
theorem dX3_stretch_10 : decode cX3_stretch 10 = .ok (.goto 4, 3) := by decide +kernel
theorem dX3_stretch_13 : decode cX3_stretch 13 = .ok (.iconst 0, 1) := by decide +kernel
theorem dX3_stretch_14 : decode cX3_stretch 14 = .ok (.iload_n 2, 1) := by decide +kernel
theorem dX3_stretch_15 : decode cX3_stretch 15 = .ok (.iload_n 3, 1) := by decide +kernel
theorem dX3_stretch_16 : decode cX3_stretch 16 = .ok (.invokestatic 139, 3) := by decide +kernel
theorem dX3_stretch_19 : decode cX3_stretch 19 = .ok (.invokevirtual 113, 3) := by decide +kernel
theorem dX3_stretch_22 : decode cX3_stretch 22 = .ok (.ifCond .eq 5, 3) := by decide +kernel
theorem dX3_stretch_25 : decode cX3_stretch 25 = .ok (.iconst 0, 1) := by decide +kernel
theorem dX3_stretch_26 : decode cX3_stretch 26 = .ok (.ireturn, 1) := by decide +kernel
theorem dX3_stretch_27 : decode cX3_stretch 27 = .ok (.aload_n 0, 1) := by decide +kernel
theorem dX3_stretch_28 : decode cX3_stretch 28 = .ok (.getfield 22, 3) := by decide +kernel
theorem dX3_stretch_31 : decode cX3_stretch 31 = .ok (.iload_n 1, 1) := by decide +kernel
theorem dX3_stretch_32 : decode cX3_stretch 32 = .ok (.laload, 1) := by decide +kernel
theorem dX3_stretch_33 : decode cX3_stretch 33 = .ok (.iload_n 2, 1) := by decide +kernel
theorem dX3_stretch_34 : decode cX3_stretch 34 = .ok (.iload_n 3, 1) := by decide +kernel
theorem dX3_stretch_35 : decode cX3_stretch 35 = .ok (.invokestatic 142, 3) := by decide +kernel
theorem dX3_stretch_38 : decode cX3_stretch 38 = .ok (.ladd, 1) := by decide +kernel
theorem dX3_stretch_39 : decode cX3_stretch 39 = .ok (.lstore 4, 2) := by decide +kernel
theorem dX3_stretch_41 : decode cX3_stretch 41 = .ok (.lload 4, 2) := by decide +kernel
theorem dX3_stretch_43 : decode cX3_stretch 43 = .ok (.aload_n 0, 1) := by decide +kernel
theorem dX3_stretch_44 : decode cX3_stretch 44 = .ok (.getfield 19, 3) := by decide +kernel
theorem dX3_stretch_47 : decode cX3_stretch 47 = .ok (.iload_n 1, 1) := by decide +kernel
theorem dX3_stretch_48 : decode cX3_stretch 48 = .ok (.laload, 1) := by decide +kernel
theorem dX3_stretch_49 : decode cX3_stretch 49 = .ok (.lcmp, 1) := by decide +kernel
theorem dX3_stretch_50 : decode cX3_stretch 50 = .ok (.ifCond .le 34, 3) := by decide +kernel
theorem dX3_stretch_53 : decode cX3_stretch 53 = .ok (.aload_n 0, 1) := by decide +kernel
theorem dX3_stretch_54 : decode cX3_stretch 54 = .ok (.aload_n 0, 1) := by decide +kernel
theorem dX3_stretch_55 : decode cX3_stretch 55 = .ok (.getfield 19, 3) := by decide +kernel
theorem dX3_stretch_58 : decode cX3_stretch 58 = .ok (.iload_n 1, 1) := by decide +kernel
theorem dX3_stretch_59 : decode cX3_stretch 59 = .ok (.laload, 1) := by decide +kernel
theorem dX3_stretch_60 : decode cX3_stretch 60 = .ok (.lload 4, 2) := by decide +kernel
theorem dX3_stretch_62 : decode cX3_stretch 62 = .ok (.invokevirtual 80, 3) := by decide +kernel
theorem dX3_stretch_65 : decode cX3_stretch 65 = .ok (.ifCond .eq 19, 3) := by decide +kernel
theorem dX3_stretch_68 : decode cX3_stretch 68 = .ok (.aload_n 0, 1) := by decide +kernel
theorem dX3_stretch_69 : decode cX3_stretch 69 = .ok (.aload_n 0, 1) := by decide +kernel
theorem dX3_stretch_70 : decode cX3_stretch 70 = .ok (.getfield 19, 3) := by decide +kernel
theorem dX3_stretch_73 : decode cX3_stretch 73 = .ok (.iload_n 1, 1) := by decide +kernel
theorem dX3_stretch_74 : decode cX3_stretch 74 = .ok (.laload, 1) := by decide +kernel
theorem dX3_stretch_75 : decode cX3_stretch 75 = .ok (.lload 4, 2) := by decide +kernel
theorem dX3_stretch_77 : decode cX3_stretch 77 = .ok (.iload_n 1, 1) := by decide +kernel
theorem dX3_stretch_78 : decode cX3_stretch 78 = .ok (.invokevirtual 84, 3) := by decide +kernel
theorem dX3_stretch_81 : decode cX3_stretch 81 = .ok (.ifCond .eq 8, 3) := by decide +kernel
theorem dX3_stretch_84 : decode cX3_stretch 84 = .ok (.aload_n 0, 1) := by decide +kernel
theorem dX3_stretch_85 : decode cX3_stretch 85 = .ok (.invokevirtual 132, 3) := by decide +kernel
theorem dX3_stretch_88 : decode cX3_stretch 88 = .ok (.ireturn, 1) := by decide +kernel
theorem dX3_stretch_89 : decode cX3_stretch 89 = .ok (.aload_n 0, 1) := by decide +kernel
theorem dX3_stretch_90 : decode cX3_stretch 90 = .ok (.getfield 22, 3) := by decide +kernel
theorem dX3_stretch_93 : decode cX3_stretch 93 = .ok (.iload_n 1, 1) := by decide +kernel
theorem dX3_stretch_94 : decode cX3_stretch 94 = .ok (.lload 4, 2) := by decide +kernel
theorem dX3_stretch_96 : decode cX3_stretch 96 = .ok (.lastore, 1) := by decide +kernel
theorem dX3_stretch_97 : decode cX3_stretch 97 = .ok (.aload_n 0, 1) := by decide +kernel
theorem dX3_stretch_98 : decode cX3_stretch 98 = .ok (.aload_n 0, 1) := by decide +kernel
theorem dX3_stretch_99 : decode cX3_stretch 99 = .ok (.getfield 22, 3) := by decide +kernel
theorem dX3_stretch_102 : decode cX3_stretch 102 = .ok (.aload_n 0, 1) := by decide +kernel
theorem dX3_stretch_103 : decode cX3_stretch 103 = .ok (.getfield 56, 3) := by decide +kernel
theorem dX3_stretch_106 : decode cX3_stretch 106 = .ok (.lload 4, 2) := by decide +kernel
theorem dX3_stretch_108 : decode cX3_stretch 108 = .ok (.invokestatic 171, 3) := by decide +kernel
theorem dX3_stretch_111 : decode cX3_stretch 111 = .ok (.invokevirtual 136, 3) := by decide +kernel
theorem dX3_stretch_114 : decode cX3_stretch 114 = .ok (.ireturn, 1) := by decide +kernel
theorem dX3_fit_0 : decode cX3_fit 0 = .ok (.aload_n 0, 1) := by decide +kernel
theorem dX3_fit_1 : decode cX3_fit 1 = .ok (.iload_n 1, 1) := by decide +kernel
theorem dX3_fit_2 : decode cX3_fit 2 = .ok (.invokestatic 123, 3) := by decide +kernel
theorem dX3_fit_5 : decode cX3_fit 5 = .ok (.ifCond .eq 11, 3) := by decide +kernel
theorem dX3_fit_8 : decode cX3_fit 8 = .ok (.iload 4, 2) := by decide +kernel
theorem dX3_fit_10 : decode cX3_fit 10 = .ok (.invokestatic 123, 3) := by decide +kernel
theorem dX3_fit_13 : decode cX3_fit 13 = .ok (.ifCond .ne 7, 3) := by decide +kernel
theorem dX3_fit_16 : decode cX3_fit 16 = .ok (.iconst 1, 1) := by decide +kernel
theorem dX3_fit_17 : decode cX3_fit 17 = .ok (.goto 4, 3) := by decide +kernel
theorem dX3_fit_20 : decode cX3_fit 20 = .ok (.iconst 0, 1) := by decide +kernel
theorem dX3_fit_21 : decode cX3_fit 21 = .ok (.iload_n 2, 1) := by decide +kernel
theorem dX3_fit_22 : decode cX3_fit 22 = .ok (.iload_n 3, 1) := by decide +kernel
theorem dX3_fit_23 : decode cX3_fit 23 = .ok (.invokestatic 139, 3) := by decide +kernel
theorem dX3_fit_26 : decode cX3_fit 26 = .ok (.ifCond .ne 8, 3) := by decide +kernel
theorem dX3_fit_29 : decode cX3_fit 29 = .ok (.iload_n 3, 1) := by decide +kernel
theorem dX3_fit_30 : decode cX3_fit 30 = .ok (.iconst 1, 1) := by decide +kernel
theorem dX3_fit_31 : decode cX3_fit 31 = .ok (.if_icmp .ge 7, 3) := by decide +kernel
theorem dX3_fit_34 : decode cX3_fit 34 = .ok (.iconst 1, 1) := by decide +kernel
theorem dX3_fit_35 : decode cX3_fit 35 = .ok (.goto 4, 3) := by decide +kernel
theorem dX3_fit_38 : decode cX3_fit 38 = .ok (.iconst 0, 1) := by decide +kernel
theorem dX3_fit_39 : decode cX3_fit 39 = .ok (.invokevirtual 113, 3) := by decide +kernel
theorem dX3_fit_42 : decode cX3_fit 42 = .ok (.ifCond .eq 5, 3) := by decide +kernel
theorem dX3_fit_45 : decode cX3_fit 45 = .ok (.iconst 0, 1) := by decide +kernel
theorem dX3_fit_46 : decode cX3_fit 46 = .ok (.ireturn, 1) := by decide +kernel
theorem dX3_fit_47 : decode cX3_fit 47 = .ok (.iload_n 2, 1) := by decide +kernel
theorem dX3_fit_48 : decode cX3_fit 48 = .ok (.iload_n 3, 1) := by decide +kernel
theorem dX3_fit_49 : decode cX3_fit 49 = .ok (.invokestatic 142, 3) := by decide +kernel
theorem dX3_fit_52 : decode cX3_fit 52 = .ok (.lstore 5, 2) := by decide +kernel
theorem dX3_fit_54 : decode cX3_fit 54 = .ok (.aload_n 0, 1) := by decide +kernel
theorem dX3_fit_55 : decode cX3_fit 55 = .ok (.getfield 7, 3) := by decide +kernel
theorem dX3_fit_58 : decode cX3_fit 58 = .ok (.iload_n 1, 1) := by decide +kernel
theorem dX3_fit_59 : decode cX3_fit 59 = .ok (.laload, 1) := by decide +kernel
theorem dX3_fit_60 : decode cX3_fit 60 = .ok (.aload_n 0, 1) := by decide +kernel
theorem dX3_fit_61 : decode cX3_fit 61 = .ok (.getfield 53, 3) := by decide +kernel
theorem dX3_fit_64 : decode cX3_fit 64 = .ok (.invokestatic 175, 3) := by decide +kernel
theorem dX3_fit_67 : decode cX3_fit 67 = .ok (.lstore 7, 2) := by decide +kernel
theorem dX3_fit_69 : decode cX3_fit 69 = .ok (.aload_n 0, 1) := by decide +kernel
theorem dX3_fit_70 : decode cX3_fit 70 = .ok (.lload 7, 2) := by decide +kernel
theorem dX3_fit_72 : decode cX3_fit 72 = .ok (.lload 5, 2) := by decide +kernel
theorem dX3_fit_74 : decode cX3_fit 74 = .ok (.invokevirtual 178, 3) := by decide +kernel
theorem dX3_fit_77 : decode cX3_fit 77 = .ok (.istore 9, 2) := by decide +kernel
theorem dX3_fit_79 : decode cX3_fit 79 = .ok (.lload 7, 2) := by decide +kernel
theorem dX3_fit_81 : decode cX3_fit 81 = .ok (.lstore 10, 2) := by decide +kernel
theorem dX3_fit_83 : decode cX3_fit 83 = .ok (.iconst 0, 1) := by decide +kernel
theorem dX3_fit_84 : decode cX3_fit 84 = .ok (.istore 12, 2) := by decide +kernel
theorem dX3_fit_86 : decode cX3_fit 86 = .ok (.iload 12, 2) := by decide +kernel
theorem dX3_fit_88 : decode cX3_fit 88 = .ok (.aload_n 0, 1) := by decide +kernel
theorem dX3_fit_89 : decode cX3_fit 89 = .ok (.getfield 56, 3) := by decide +kernel
theorem dX3_fit_92 : decode cX3_fit 92 = .ok (.if_icmp .ge 68, 3) := by decide +kernel
theorem dX3_fit_95 : decode cX3_fit 95 = .ok (.aload_n 0, 1) := by decide +kernel
theorem dX3_fit_96 : decode cX3_fit 96 = .ok (.getfield 22, 3) := by decide +kernel
theorem dX3_fit_99 : decode cX3_fit 99 = .ok (.iload 12, 2) := by decide +kernel
theorem dX3_fit_101 : decode cX3_fit 101 = .ok (.laload, 1) := by decide +kernel
theorem dX3_fit_102 : decode cX3_fit 102 = .ok (.lload 7, 2) := by decide +kernel
theorem dX3_fit_104 : decode cX3_fit 104 = .ok (.lcmp, 1) := by decide +kernel
theorem dX3_fit_105 : decode cX3_fit 105 = .ok (.ifCond .lt 49, 3) := by decide +kernel
theorem dX3_fit_108 : decode cX3_fit 108 = .ok (.aload_n 0, 1) := by decide +kernel
theorem dX3_fit_109 : decode cX3_fit 109 = .ok (.aload_n 0, 1) := by decide +kernel
theorem dX3_fit_110 : decode cX3_fit 110 = .ok (.getfield 22, 3) := by decide +kernel
theorem dX3_fit_113 : decode cX3_fit 113 = .ok (.iload 12, 2) := by decide +kernel
theorem dX3_fit_115 : decode cX3_fit 115 = .ok (.laload, 1) := by decide +kernel
theorem dX3_fit_116 : decode cX3_fit 116 = .ok (.lload 5, 2) := by decide +kernel
theorem dX3_fit_118 : decode cX3_fit 118 = .ok (.invokevirtual 178, 3) := by decide +kernel
theorem dX3_fit_121 : decode cX3_fit 121 = .ok (.ifCond .eq 33, 3) := by decide +kernel
theorem dX3_fit_124 : decode cX3_fit 124 = .ok (.iload 9, 2) := by decide +kernel
theorem dX3_fit_126 : decode cX3_fit 126 = .ok (.ifCond .eq 16, 3) := by decide +kernel
theorem dX3_fit_129 : decode cX3_fit 129 = .ok (.aload_n 0, 1) := by decide +kernel
theorem dX3_fit_130 : decode cX3_fit 130 = .ok (.getfield 22, 3) := by decide +kernel
theorem dX3_fit_133 : decode cX3_fit 133 = .ok (.iload 12, 2) := by decide +kernel
theorem dX3_fit_135 : decode cX3_fit 135 = .ok (.laload, 1) := by decide +kernel
theorem dX3_fit_136 : decode cX3_fit 136 = .ok (.lload 10, 2) := by decide +kernel
theorem dX3_fit_138 : decode cX3_fit 138 = .ok (.lcmp, 1) := by decide +kernel
theorem dX3_fit_139 : decode cX3_fit 139 = .ok (.ifCond .ge 15, 3) := by decide +kernel
theorem dX3_fit_142 : decode cX3_fit 142 = .ok (.aload_n 0, 1) := by decide +kernel
theorem dX3_fit_143 : decode cX3_fit 143 = .ok (.getfield 22, 3) := by decide +kernel
theorem dX3_fit_146 : decode cX3_fit 146 = .ok (.iload 12, 2) := by decide +kernel
theorem dX3_fit_148 : decode cX3_fit 148 = .ok (.laload, 1) := by decide +kernel
theorem dX3_fit_149 : decode cX3_fit 149 = .ok (.lstore 10, 2) := by decide +kernel
theorem dX3_fit_151 : decode cX3_fit 151 = .ok (.iconst 1, 1) := by decide +kernel
theorem dX3_fit_152 : decode cX3_fit 152 = .ok (.istore 9, 2) := by decide +kernel
theorem dX3_fit_154 : decode cX3_fit 154 = .ok (.iinc 12 1, 3) := by decide +kernel
theorem dX3_fit_157 : decode cX3_fit 157 = .ok (.goto (-71), 3) := by decide +kernel
theorem dX3_fit_160 : decode cX3_fit 160 = .ok (.iload 9, 2) := by decide +kernel
theorem dX3_fit_162 : decode cX3_fit 162 = .ok (.ifCond .ne 8, 3) := by decide +kernel
theorem dX3_fit_165 : decode cX3_fit 165 = .ok (.aload_n 0, 1) := by decide +kernel
theorem dX3_fit_166 : decode cX3_fit 166 = .ok (.invokevirtual 132, 3) := by decide +kernel
theorem dX3_fit_169 : decode cX3_fit 169 = .ok (.ireturn, 1) := by decide +kernel
theorem dX3_fit_170 : decode cX3_fit 170 = .ok (.aload_n 0, 1) := by decide +kernel
theorem dX3_fit_171 : decode cX3_fit 171 = .ok (.getfield 7, 3) := by decide +kernel
theorem dX3_fit_174 : decode cX3_fit 174 = .ok (.iload 4, 2) := by decide +kernel
theorem dX3_fit_176 : decode cX3_fit 176 = .ok (.laload, 1) := by decide +kernel
theorem dX3_fit_177 : decode cX3_fit 177 = .ok (.lload 10, 2) := by decide +kernel
theorem dX3_fit_179 : decode cX3_fit 179 = .ok (.lcmp, 1) := by decide +kernel
theorem dX3_fit_180 : decode cX3_fit 180 = .ok (.ifCond .eq 7, 3) := by decide +kernel
theorem dX3_fit_183 : decode cX3_fit 183 = .ok (.iconst 1, 1) := by decide +kernel
theorem dX3_fit_184 : decode cX3_fit 184 = .ok (.goto 4, 3) := by decide +kernel
theorem dX3_fit_187 : decode cX3_fit 187 = .ok (.iconst 0, 1) := by decide +kernel
theorem dX3_fit_188 : decode cX3_fit 188 = .ok (.istore 12, 2) := by decide +kernel
theorem dX3_fit_190 : decode cX3_fit 190 = .ok (.aload_n 0, 1) := by decide +kernel
theorem dX3_fit_191 : decode cX3_fit 191 = .ok (.getfield 7, 3) := by decide +kernel
theorem dX3_fit_194 : decode cX3_fit 194 = .ok (.iload 4, 2) := by decide +kernel
theorem dX3_fit_196 : decode cX3_fit 196 = .ok (.lload 10, 2) := by decide +kernel
theorem dX3_fit_198 : decode cX3_fit 198 = .ok (.lastore, 1) := by decide +kernel
theorem dX3_fit_199 : decode cX3_fit 199 = .ok (.aload_n 0, 1) := by decide +kernel
theorem dX3_fit_200 : decode cX3_fit 200 = .ok (.iload 12, 2) := by decide +kernel
theorem dX3_fit_202 : decode cX3_fit 202 = .ok (.ifCond .eq 7, 3) := by decide +kernel
theorem dX3_fit_205 : decode cX3_fit 205 = .ok (.iconst 1, 1) := by decide +kernel
theorem dX3_fit_206 : decode cX3_fit 206 = .ok (.goto 4, 3) := by decide +kernel
theorem dX3_fit_209 : decode cX3_fit 209 = .ok (.iconst 0, 1) := by decide +kernel
theorem dX3_fit_210 : decode cX3_fit 210 = .ok (.invokevirtual 136, 3) := by decide +kernel
theorem dX3_fit_213 : decode cX3_fit 213 = .ok (.ireturn, 1) := by decide +kernel
theorem dX3_wish_0 : decode cX3_wish 0 = .ok (.aload_n 0, 1) := by decide +kernel
theorem dX3_wish_1 : decode cX3_wish 1 = .ok (.iload_n 1, 1) := by decide +kernel
theorem dX3_wish_2 : decode cX3_wish 2 = .ok (.invokestatic 123, 3) := by decide +kernel
theorem dX3_wish_5 : decode cX3_wish 5 = .ok (.ifCond .eq 10, 3) := by decide +kernel
theorem dX3_wish_8 : decode cX3_wish 8 = .ok (.iload_n 2, 1) := by decide +kernel
theorem dX3_wish_9 : decode cX3_wish 9 = .ok (.invokestatic 123, 3) := by decide +kernel
theorem dX3_wish_12 : decode cX3_wish 12 = .ok (.ifCond .ne 7, 3) := by decide +kernel
theorem dX3_wish_15 : decode cX3_wish 15 = .ok (.iconst 1, 1) := by decide +kernel
theorem dX3_wish_16 : decode cX3_wish 16 = .ok (.goto 4, 3) := by decide +kernel
theorem dX3_wish_19 : decode cX3_wish 19 = .ok (.iconst 0, 1) := by decide +kernel
theorem dX3_wish_20 : decode cX3_wish 20 = .ok (.invokevirtual 149, 3) := by decide +kernel
theorem dX3_wish_23 : decode cX3_wish 23 = .ok (.ifCond .eq 5, 3) := by decide +kernel
theorem dX3_wish_26 : decode cX3_wish 26 = .ok (.iconst 0, 1) := by decide +kernel
theorem dX3_wish_27 : decode cX3_wish 27 = .ok (.ireturn, 1) := by decide +kernel
theorem dX3_wish_28 : decode cX3_wish 28 = .ok (.aload_n 0, 1) := by decide +kernel
theorem dX3_wish_29 : decode cX3_wish 29 = .ok (.getfield 7, 3) := by decide +kernel
theorem dX3_wish_32 : decode cX3_wish 32 = .ok (.iload_n 1, 1) := by decide +kernel
theorem dX3_wish_33 : decode cX3_wish 33 = .ok (.laload, 1) := by decide +kernel
theorem dX3_wish_34 : decode cX3_wish 34 = .ok (.aload_n 0, 1) := by decide +kernel
theorem dX3_wish_35 : decode cX3_wish 35 = .ok (.getfield 7, 3) := by decide +kernel
theorem dX3_wish_38 : decode cX3_wish 38 = .ok (.iload_n 2, 1) := by decide +kernel
theorem dX3_wish_39 : decode cX3_wish 39 = .ok (.laload, 1) := by decide +kernel
theorem dX3_wish_40 : decode cX3_wish 40 = .ok (.lcmp, 1) := by decide +kernel
theorem dX3_wish_41 : decode cX3_wish 41 = .ok (.ifCond .ge 12, 3) := by decide +kernel
theorem dX3_wish_44 : decode cX3_wish 44 = .ok (.aload_n 0, 1) := by decide +kernel
theorem dX3_wish_45 : decode cX3_wish 45 = .ok (.getfield 88, 3) := by decide +kernel
theorem dX3_wish_48 : decode cX3_wish 48 = .ok (.bipush 8, 2) := by decide +kernel
theorem dX3_wish_50 : decode cX3_wish 50 = .ok (.if_icmp .ne 8, 3) := by decide +kernel
theorem dX3_wish_53 : decode cX3_wish 53 = .ok (.aload_n 0, 1) := by decide +kernel
theorem dX3_wish_54 : decode cX3_wish 54 = .ok (.invokevirtual 132, 3) := by decide +kernel
theorem dX3_wish_57 : decode cX3_wish 57 = .ok (.ireturn, 1) := by decide +kernel
theorem dX3_wish_58 : decode cX3_wish 58 = .ok (.aload_n 0, 1) := by decide +kernel
theorem dX3_wish_59 : decode cX3_wish 59 = .ok (.getfield 29, 3) := by decide +kernel
theorem dX3_wish_62 : decode cX3_wish 62 = .ok (.aload_n 0, 1) := by decide +kernel
theorem dX3_wish_63 : decode cX3_wish 63 = .ok (.getfield 88, 3) := by decide +kernel
theorem dX3_wish_66 : decode cX3_wish 66 = .ok (.aload_n 0, 1) := by decide +kernel
theorem dX3_wish_67 : decode cX3_wish 67 = .ok (.getfield 7, 3) := by decide +kernel
theorem dX3_wish_70 : decode cX3_wish 70 = .ok (.iload_n 1, 1) := by decide +kernel
theorem dX3_wish_71 : decode cX3_wish 71 = .ok (.laload, 1) := by decide +kernel
theorem dX3_wish_72 : decode cX3_wish 72 = .ok (.lastore, 1) := by decide +kernel
theorem dX3_wish_73 : decode cX3_wish 73 = .ok (.aload_n 0, 1) := by decide +kernel
theorem dX3_wish_74 : decode cX3_wish 74 = .ok (.getfield 32, 3) := by decide +kernel
theorem dX3_wish_77 : decode cX3_wish 77 = .ok (.aload_n 0, 1) := by decide +kernel
theorem dX3_wish_78 : decode cX3_wish 78 = .ok (.getfield 88, 3) := by decide +kernel
theorem dX3_wish_81 : decode cX3_wish 81 = .ok (.aload_n 0, 1) := by decide +kernel
theorem dX3_wish_82 : decode cX3_wish 82 = .ok (.getfield 7, 3) := by decide +kernel
theorem dX3_wish_85 : decode cX3_wish 85 = .ok (.iload_n 2, 1) := by decide +kernel
theorem dX3_wish_86 : decode cX3_wish 86 = .ok (.laload, 1) := by decide +kernel
theorem dX3_wish_87 : decode cX3_wish 87 = .ok (.lastore, 1) := by decide +kernel
theorem dX3_wish_88 : decode cX3_wish 88 = .ok (.aload_n 0, 1) := by decide +kernel
theorem dX3_wish_89 : decode cX3_wish 89 = .ok (.dup, 1) := by decide +kernel
theorem dX3_wish_90 : decode cX3_wish 90 = .ok (.getfield 88, 3) := by decide +kernel
theorem dX3_wish_93 : decode cX3_wish 93 = .ok (.iconst 1, 1) := by decide +kernel
theorem dX3_wish_94 : decode cX3_wish 94 = .ok (.iadd, 1) := by decide +kernel
theorem dX3_wish_95 : decode cX3_wish 95 = .ok (.putfield 88, 3) := by decide +kernel
theorem dX3_wish_98 : decode cX3_wish 98 = .ok (.aload_n 0, 1) := by decide +kernel
theorem dX3_wish_99 : decode cX3_wish 99 = .ok (.aload_n 0, 1) := by decide +kernel
theorem dX3_wish_100 : decode cX3_wish 100 = .ok (.getfield 88, 3) := by decide +kernel
theorem dX3_wish_103 : decode cX3_wish 103 = .ok (.iconst 1, 1) := by decide +kernel
theorem dX3_wish_104 : decode cX3_wish 104 = .ok (.isub, 1) := by decide +kernel
theorem dX3_wish_105 : decode cX3_wish 105 = .ok (.invokevirtual 136, 3) := by decide +kernel
theorem dX3_wish_108 : decode cX3_wish 108 = .ok (.ireturn, 1) := by decide +kernel
theorem dX3_gone_0 : decode cX3_gone 0 = .ok (.aload_n 0, 1) := by decide +kernel
theorem dX3_gone_1 : decode cX3_gone 1 = .ok (.dup, 1) := by decide +kernel
theorem dX3_gone_2 : decode cX3_gone 2 = .ok (.getfield 88, 3) := by decide +kernel
theorem dX3_gone_5 : decode cX3_gone 5 = .ok (.iconst 1, 1) := by decide +kernel
theorem dX3_gone_6 : decode cX3_gone 6 = .ok (.isub, 1) := by decide +kernel
theorem dX3_gone_7 : decode cX3_gone 7 = .ok (.putfield 88, 3) := by decide +kernel
theorem dX3_gone_10 : decode cX3_gone 10 = .ok (.iload_n 1, 1) := by decide +kernel
theorem dX3_gone_11 : decode cX3_gone 11 = .ok (.istore_n 2, 1) := by decide +kernel
theorem dX3_gone_12 : decode cX3_gone 12 = .ok (.iload_n 2, 1) := by decide +kernel
theorem dX3_gone_13 : decode cX3_gone 13 = .ok (.aload_n 0, 1) := by decide +kernel
theorem dX3_gone_14 : decode cX3_gone 14 = .ok (.getfield 88, 3) := by decide +kernel
theorem dX3_gone_17 : decode cX3_gone 17 = .ok (.if_icmp .ge 37, 3) := by decide +kernel
theorem dX3_gone_20 : decode cX3_gone 20 = .ok (.aload_n 0, 1) := by decide +kernel
theorem dX3_gone_21 : decode cX3_gone 21 = .ok (.getfield 29, 3) := by decide +kernel
theorem dX3_gone_24 : decode cX3_gone 24 = .ok (.iload_n 2, 1) := by decide +kernel
theorem dX3_gone_25 : decode cX3_gone 25 = .ok (.aload_n 0, 1) := by decide +kernel
theorem dX3_gone_26 : decode cX3_gone 26 = .ok (.getfield 29, 3) := by decide +kernel
theorem dX3_gone_29 : decode cX3_gone 29 = .ok (.iload_n 2, 1) := by decide +kernel
theorem dX3_gone_30 : decode cX3_gone 30 = .ok (.iconst 1, 1) := by decide +kernel
theorem dX3_gone_31 : decode cX3_gone 31 = .ok (.iadd, 1) := by decide +kernel
theorem dX3_gone_32 : decode cX3_gone 32 = .ok (.laload, 1) := by decide +kernel
theorem dX3_gone_33 : decode cX3_gone 33 = .ok (.lastore, 1) := by decide +kernel
theorem dX3_gone_34 : decode cX3_gone 34 = .ok (.aload_n 0, 1) := by decide +kernel
theorem dX3_gone_35 : decode cX3_gone 35 = .ok (.getfield 32, 3) := by decide +kernel
theorem dX3_gone_38 : decode cX3_gone 38 = .ok (.iload_n 2, 1) := by decide +kernel
theorem dX3_gone_39 : decode cX3_gone 39 = .ok (.aload_n 0, 1) := by decide +kernel
theorem dX3_gone_40 : decode cX3_gone 40 = .ok (.getfield 32, 3) := by decide +kernel
theorem dX3_gone_43 : decode cX3_gone 43 = .ok (.iload_n 2, 1) := by decide +kernel
theorem dX3_gone_44 : decode cX3_gone 44 = .ok (.iconst 1, 1) := by decide +kernel
theorem dX3_gone_45 : decode cX3_gone 45 = .ok (.iadd, 1) := by decide +kernel
theorem dX3_gone_46 : decode cX3_gone 46 = .ok (.laload, 1) := by decide +kernel
theorem dX3_gone_47 : decode cX3_gone 47 = .ok (.lastore, 1) := by decide +kernel
theorem dX3_gone_48 : decode cX3_gone 48 = .ok (.iinc 2 1, 3) := by decide +kernel
theorem dX3_gone_51 : decode cX3_gone 51 = .ok (.goto (-39), 3) := by decide +kernel
theorem dX3_gone_54 : decode cX3_gone 54 = .ok (.return_, 1) := by decide +kernel
theorem dX3_unwish_0 : decode cX3_unwish 0 = .ok (.aload_n 0, 1) := by decide +kernel
theorem dX3_unwish_1 : decode cX3_unwish 1 = .ok (.aload_n 0, 1) := by decide +kernel
theorem dX3_unwish_2 : decode cX3_unwish 2 = .ok (.iload_n 1, 1) := by decide +kernel
theorem dX3_unwish_3 : decode cX3_unwish 3 = .ok (.invokevirtual 181, 3) := by decide +kernel
theorem dX3_unwish_6 : decode cX3_unwish 6 = .ok (.ifCond .ne 7, 3) := by decide +kernel
theorem dX3_unwish_9 : decode cX3_unwish 9 = .ok (.iconst 1, 1) := by decide +kernel
theorem dX3_unwish_10 : decode cX3_unwish 10 = .ok (.goto 4, 3) := by decide +kernel
theorem dX3_unwish_13 : decode cX3_unwish 13 = .ok (.iconst 0, 1) := by decide +kernel
theorem dX3_unwish_14 : decode cX3_unwish 14 = .ok (.invokevirtual 149, 3) := by decide +kernel
theorem dX3_unwish_17 : decode cX3_unwish 17 = .ok (.ifCond .eq 5, 3) := by decide +kernel
theorem dX3_unwish_20 : decode cX3_unwish 20 = .ok (.iconst 0, 1) := by decide +kernel
theorem dX3_unwish_21 : decode cX3_unwish 21 = .ok (.ireturn, 1) := by decide +kernel
theorem dX3_unwish_22 : decode cX3_unwish 22 = .ok (.aload_n 0, 1) := by decide +kernel
theorem dX3_unwish_23 : decode cX3_unwish 23 = .ok (.iload_n 1, 1) := by decide +kernel
theorem dX3_unwish_24 : decode cX3_unwish 24 = .ok (.invokevirtual 184, 3) := by decide +kernel
theorem dX3_unwish_27 : decode cX3_unwish 27 = .ok (.aload_n 0, 1) := by decide +kernel
theorem dX3_unwish_28 : decode cX3_unwish 28 = .ok (.aload_n 0, 1) := by decide +kernel
theorem dX3_unwish_29 : decode cX3_unwish 29 = .ok (.getfield 88, 3) := by decide +kernel
theorem dX3_unwish_32 : decode cX3_unwish 32 = .ok (.invokevirtual 136, 3) := by decide +kernel
theorem dX3_unwish_35 : decode cX3_unwish 35 = .ok (.ireturn, 1) := by decide +kernel
theorem dX3_grant_0 : decode cX3_grant 0 = .ok (.aload_n 0, 1) := by decide +kernel
theorem dX3_grant_1 : decode cX3_grant 1 = .ok (.aload_n 0, 1) := by decide +kernel
theorem dX3_grant_2 : decode cX3_grant 2 = .ok (.iload_n 1, 1) := by decide +kernel
theorem dX3_grant_3 : decode cX3_grant 3 = .ok (.invokevirtual 181, 3) := by decide +kernel
theorem dX3_grant_6 : decode cX3_grant 6 = .ok (.ifCond .ne 7, 3) := by decide +kernel
theorem dX3_grant_9 : decode cX3_grant 9 = .ok (.iconst 1, 1) := by decide +kernel
theorem dX3_grant_10 : decode cX3_grant 10 = .ok (.goto 4, 3) := by decide +kernel
theorem dX3_grant_13 : decode cX3_grant 13 = .ok (.iconst 0, 1) := by decide +kernel
theorem dX3_grant_14 : decode cX3_grant 14 = .ok (.invokevirtual 149, 3) := by decide +kernel
theorem dX3_grant_17 : decode cX3_grant 17 = .ok (.ifCond .eq 5, 3) := by decide +kernel
theorem dX3_grant_20 : decode cX3_grant 20 = .ok (.iconst 0, 1) := by decide +kernel
theorem dX3_grant_21 : decode cX3_grant 21 = .ok (.ireturn, 1) := by decide +kernel
theorem dX3_grant_22 : decode cX3_grant 22 = .ok (.aload_n 0, 1) := by decide +kernel
theorem dX3_grant_23 : decode cX3_grant 23 = .ok (.aload_n 0, 1) := by decide +kernel
theorem dX3_grant_24 : decode cX3_grant 24 = .ok (.getfield 29, 3) := by decide +kernel
theorem dX3_grant_27 : decode cX3_grant 27 = .ok (.iload_n 1, 1) := by decide +kernel
theorem dX3_grant_28 : decode cX3_grant 28 = .ok (.laload, 1) := by decide +kernel
theorem dX3_grant_29 : decode cX3_grant 29 = .ok (.aload_n 0, 1) := by decide +kernel
theorem dX3_grant_30 : decode cX3_grant 30 = .ok (.getfield 32, 3) := by decide +kernel
theorem dX3_grant_33 : decode cX3_grant 33 = .ok (.iload_n 1, 1) := by decide +kernel
theorem dX3_grant_34 : decode cX3_grant 34 = .ok (.laload, 1) := by decide +kernel
theorem dX3_grant_35 : decode cX3_grant 35 = .ok (.iconst 0, 1) := by decide +kernel
theorem dX3_grant_36 : decode cX3_grant 36 = .ok (.invokevirtual 160, 3) := by decide +kernel
theorem dX3_grant_39 : decode cX3_grant 39 = .ok (.ifCond .ne 8, 3) := by decide +kernel
theorem dX3_grant_42 : decode cX3_grant 42 = .ok (.aload_n 0, 1) := by decide +kernel
theorem dX3_grant_43 : decode cX3_grant 43 = .ok (.invokevirtual 132, 3) := by decide +kernel
theorem dX3_grant_46 : decode cX3_grant 46 = .ok (.ireturn, 1) := by decide +kernel
theorem dX3_grant_47 : decode cX3_grant 47 = .ok (.aload_n 0, 1) := by decide +kernel
theorem dX3_grant_48 : decode cX3_grant 48 = .ok (.aload_n 0, 1) := by decide +kernel
theorem dX3_grant_49 : decode cX3_grant 49 = .ok (.getfield 29, 3) := by decide +kernel
theorem dX3_grant_52 : decode cX3_grant 52 = .ok (.iload_n 1, 1) := by decide +kernel
theorem dX3_grant_53 : decode cX3_grant 53 = .ok (.laload, 1) := by decide +kernel
theorem dX3_grant_54 : decode cX3_grant 54 = .ok (.aload_n 0, 1) := by decide +kernel
theorem dX3_grant_55 : decode cX3_grant 55 = .ok (.getfield 32, 3) := by decide +kernel
theorem dX3_grant_58 : decode cX3_grant 58 = .ok (.iload_n 1, 1) := by decide +kernel
theorem dX3_grant_59 : decode cX3_grant 59 = .ok (.laload, 1) := by decide +kernel
theorem dX3_grant_60 : decode cX3_grant 60 = .ok (.iconst 0, 1) := by decide +kernel
theorem dX3_grant_61 : decode cX3_grant 61 = .ok (.invokevirtual 164, 3) := by decide +kernel
theorem dX3_grant_64 : decode cX3_grant 64 = .ok (.istore_n 2, 1) := by decide +kernel
theorem dX3_grant_65 : decode cX3_grant 65 = .ok (.aload_n 0, 1) := by decide +kernel
theorem dX3_grant_66 : decode cX3_grant 66 = .ok (.iload_n 1, 1) := by decide +kernel
theorem dX3_grant_67 : decode cX3_grant 67 = .ok (.invokevirtual 184, 3) := by decide +kernel
theorem dX3_grant_70 : decode cX3_grant 70 = .ok (.iload_n 2, 1) := by decide +kernel
theorem dX3_grant_71 : decode cX3_grant 71 = .ok (.ireturn, 1) := by decide +kernel
theorem dX3_second_0 : decode cX3_second 0 = .ok (.aload_n 0, 1) := by decide +kernel
theorem dX3_second_1 : decode cX3_second 1 = .ok (.iload_n 1, 1) := by decide +kernel
theorem dX3_second_2 : decode cX3_second 2 = .ok (.invokestatic 123, 3) := by decide +kernel
theorem dX3_second_5 : decode cX3_second 5 = .ok (.ifCond .ne 7, 3) := by decide +kernel
theorem dX3_second_8 : decode cX3_second 8 = .ok (.iconst 1, 1) := by decide +kernel
theorem dX3_second_9 : decode cX3_second 9 = .ok (.goto 4, 3) := by decide +kernel
theorem dX3_second_12 : decode cX3_second 12 = .ok (.iconst 0, 1) := by decide +kernel
theorem dX3_second_13 : decode cX3_second 13 = .ok (.invokevirtual 149, 3) := by decide +kernel
theorem dX3_second_16 : decode cX3_second 16 = .ok (.ifCond .eq 7, 3) := by decide +kernel
theorem dX3_second_19 : decode cX3_second 19 = .ok (.iconst 0, 1) := by decide +kernel
theorem dX3_second_20 : decode cX3_second 20 = .ok (.goto 12, 3) := by decide +kernel
theorem dX3_second_23 : decode cX3_second 23 = .ok (.aload_n 0, 1) := by decide +kernel
theorem dX3_second_24 : decode cX3_second 24 = .ok (.getfield 7, 3) := by decide +kernel
theorem dX3_second_27 : decode cX3_second 27 = .ok (.iload_n 1, 1) := by decide +kernel
theorem dX3_second_28 : decode cX3_second 28 = .ok (.laload, 1) := by decide +kernel
theorem dX3_second_29 : decode cX3_second 29 = .ok (.invokestatic 43, 3) := by decide +kernel
theorem dX3_second_32 : decode cX3_second 32 = .ok (.ireturn, 1) := by decide +kernel
theorem dX3_nano_0 : decode cX3_nano 0 = .ok (.aload_n 0, 1) := by decide +kernel
theorem dX3_nano_1 : decode cX3_nano 1 = .ok (.iload_n 1, 1) := by decide +kernel
theorem dX3_nano_2 : decode cX3_nano 2 = .ok (.invokestatic 123, 3) := by decide +kernel
theorem dX3_nano_5 : decode cX3_nano 5 = .ok (.ifCond .ne 7, 3) := by decide +kernel
theorem dX3_nano_8 : decode cX3_nano 8 = .ok (.iconst 1, 1) := by decide +kernel
theorem dX3_nano_9 : decode cX3_nano 9 = .ok (.goto 4, 3) := by decide +kernel
theorem dX3_nano_12 : decode cX3_nano 12 = .ok (.iconst 0, 1) := by decide +kernel
theorem dX3_nano_13 : decode cX3_nano 13 = .ok (.invokevirtual 149, 3) := by decide +kernel
theorem dX3_nano_16 : decode cX3_nano 16 = .ok (.ifCond .eq 7, 3) := by decide +kernel
theorem dX3_nano_19 : decode cX3_nano 19 = .ok (.iconst 0, 1) := by decide +kernel
theorem dX3_nano_20 : decode cX3_nano 20 = .ok (.goto 12, 3) := by decide +kernel
theorem dX3_nano_23 : decode cX3_nano 23 = .ok (.aload_n 0, 1) := by decide +kernel
theorem dX3_nano_24 : decode cX3_nano 24 = .ok (.getfield 7, 3) := by decide +kernel
theorem dX3_nano_27 : decode cX3_nano 27 = .ok (.iload_n 1, 1) := by decide +kernel
theorem dX3_nano_28 : decode cX3_nano 28 = .ok (.laload, 1) := by decide +kernel
theorem dX3_nano_29 : decode cX3_nano 29 = .ok (.invokestatic 188, 3) := by decide +kernel
theorem dX3_nano_32 : decode cX3_nano 32 = .ok (.ireturn, 1) := by decide +kernel
theorem dX3_areNone_0 : decode cX3_areNone 0 = .ok (.aload_n 0, 1) := by decide +kernel
theorem dX3_areNone_1 : decode cX3_areNone 1 = .ok (.iload_n 1, 1) := by decide +kernel
theorem dX3_areNone_2 : decode cX3_areNone 2 = .ok (.invokestatic 123, 3) := by decide +kernel
theorem dX3_areNone_5 : decode cX3_areNone 5 = .ok (.ifCond .eq 10, 3) := by decide +kernel
theorem dX3_areNone_8 : decode cX3_areNone 8 = .ok (.iload_n 2, 1) := by decide +kernel
theorem dX3_areNone_9 : decode cX3_areNone 9 = .ok (.invokestatic 123, 3) := by decide +kernel
theorem dX3_areNone_12 : decode cX3_areNone 12 = .ok (.ifCond .ne 7, 3) := by decide +kernel
theorem dX3_areNone_15 : decode cX3_areNone 15 = .ok (.iconst 1, 1) := by decide +kernel
theorem dX3_areNone_16 : decode cX3_areNone 16 = .ok (.goto 4, 3) := by decide +kernel
theorem dX3_areNone_19 : decode cX3_areNone 19 = .ok (.iconst 0, 1) := by decide +kernel
theorem dX3_areNone_20 : decode cX3_areNone 20 = .ok (.invokevirtual 149, 3) := by decide +kernel
theorem dX3_areNone_23 : decode cX3_areNone 23 = .ok (.ireturn, 1) := by decide +kernel
theorem dX3_order_0 : decode cX3_order 0 = .ok (.aload_n 0, 1) := by decide +kernel
theorem dX3_order_1 : decode cX3_order 1 = .ok (.iload_n 1, 1) := by decide +kernel
theorem dX3_order_2 : decode cX3_order 2 = .ok (.iload_n 2, 1) := by decide +kernel
theorem dX3_order_3 : decode cX3_order 3 = .ok (.invokevirtual 209, 3) := by decide +kernel
theorem dX3_order_6 : decode cX3_order 6 = .ok (.ifCond .eq 7, 3) := by decide +kernel
theorem dX3_order_9 : decode cX3_order 9 = .ok (.iconst 0, 1) := by decide +kernel
theorem dX3_order_10 : decode cX3_order 10 = .ok (.goto 19, 3) := by decide +kernel
theorem dX3_order_13 : decode cX3_order 13 = .ok (.aload_n 0, 1) := by decide +kernel
theorem dX3_order_14 : decode cX3_order 14 = .ok (.getfield 7, 3) := by decide +kernel
theorem dX3_order_17 : decode cX3_order 17 = .ok (.iload_n 1, 1) := by decide +kernel
theorem dX3_order_18 : decode cX3_order 18 = .ok (.laload, 1) := by decide +kernel
theorem dX3_order_19 : decode cX3_order 19 = .ok (.aload_n 0, 1) := by decide +kernel
theorem dX3_order_20 : decode cX3_order 20 = .ok (.getfield 7, 3) := by decide +kernel
theorem dX3_order_23 : decode cX3_order 23 = .ok (.iload_n 2, 1) := by decide +kernel
theorem dX3_order_24 : decode cX3_order 24 = .ok (.laload, 1) := by decide +kernel
theorem dX3_order_25 : decode cX3_order 25 = .ok (.lsub, 1) := by decide +kernel
theorem dX3_order_26 : decode cX3_order 26 = .ok (.invokestatic 146, 3) := by decide +kernel
theorem dX3_order_29 : decode cX3_order 29 = .ok (.ireturn, 1) := by decide +kernel
theorem dX3_isBefore_0 : decode cX3_isBefore 0 = .ok (.aload_n 0, 1) := by decide +kernel
theorem dX3_isBefore_1 : decode cX3_isBefore 1 = .ok (.iload_n 1, 1) := by decide +kernel
theorem dX3_isBefore_2 : decode cX3_isBefore 2 = .ok (.iload_n 2, 1) := by decide +kernel
theorem dX3_isBefore_3 : decode cX3_isBefore 3 = .ok (.invokevirtual 209, 3) := by decide +kernel
theorem dX3_isBefore_6 : decode cX3_isBefore 6 = .ok (.ifCond .ne 23, 3) := by decide +kernel
theorem dX3_isBefore_9 : decode cX3_isBefore 9 = .ok (.aload_n 0, 1) := by decide +kernel
theorem dX3_isBefore_10 : decode cX3_isBefore 10 = .ok (.getfield 7, 3) := by decide +kernel
theorem dX3_isBefore_13 : decode cX3_isBefore 13 = .ok (.iload_n 1, 1) := by decide +kernel
theorem dX3_isBefore_14 : decode cX3_isBefore 14 = .ok (.laload, 1) := by decide +kernel
theorem dX3_isBefore_15 : decode cX3_isBefore 15 = .ok (.aload_n 0, 1) := by decide +kernel
theorem dX3_isBefore_16 : decode cX3_isBefore 16 = .ok (.getfield 7, 3) := by decide +kernel
theorem dX3_isBefore_19 : decode cX3_isBefore 19 = .ok (.iload_n 2, 1) := by decide +kernel
theorem dX3_isBefore_20 : decode cX3_isBefore 20 = .ok (.laload, 1) := by decide +kernel
theorem dX3_isBefore_21 : decode cX3_isBefore 21 = .ok (.lcmp, 1) := by decide +kernel
theorem dX3_isBefore_22 : decode cX3_isBefore 22 = .ok (.ifCond .ge 7, 3) := by decide +kernel
theorem dX3_isBefore_25 : decode cX3_isBefore 25 = .ok (.iconst 1, 1) := by decide +kernel
theorem dX3_isBefore_26 : decode cX3_isBefore 26 = .ok (.goto 4, 3) := by decide +kernel
theorem dX3_isBefore_29 : decode cX3_isBefore 29 = .ok (.iconst 0, 1) := by decide +kernel
theorem dX3_isBefore_30 : decode cX3_isBefore 30 = .ok (.ireturn, 1) := by decide +kernel
theorem dX3_isAfter_0 : decode cX3_isAfter 0 = .ok (.aload_n 0, 1) := by decide +kernel
theorem dX3_isAfter_1 : decode cX3_isAfter 1 = .ok (.iload_n 1, 1) := by decide +kernel
theorem dX3_isAfter_2 : decode cX3_isAfter 2 = .ok (.iload_n 2, 1) := by decide +kernel
theorem dX3_isAfter_3 : decode cX3_isAfter 3 = .ok (.invokevirtual 209, 3) := by decide +kernel
theorem dX3_isAfter_6 : decode cX3_isAfter 6 = .ok (.ifCond .ne 23, 3) := by decide +kernel
theorem dX3_isAfter_9 : decode cX3_isAfter 9 = .ok (.aload_n 0, 1) := by decide +kernel
theorem dX3_isAfter_10 : decode cX3_isAfter 10 = .ok (.getfield 7, 3) := by decide +kernel
theorem dX3_isAfter_13 : decode cX3_isAfter 13 = .ok (.iload_n 1, 1) := by decide +kernel
theorem dX3_isAfter_14 : decode cX3_isAfter 14 = .ok (.laload, 1) := by decide +kernel
theorem dX3_isAfter_15 : decode cX3_isAfter 15 = .ok (.aload_n 0, 1) := by decide +kernel
theorem dX3_isAfter_16 : decode cX3_isAfter 16 = .ok (.getfield 7, 3) := by decide +kernel
theorem dX3_isAfter_19 : decode cX3_isAfter 19 = .ok (.iload_n 2, 1) := by decide +kernel
theorem dX3_isAfter_20 : decode cX3_isAfter 20 = .ok (.laload, 1) := by decide +kernel
theorem dX3_isAfter_21 : decode cX3_isAfter 21 = .ok (.lcmp, 1) := by decide +kernel
theorem dX3_isAfter_22 : decode cX3_isAfter 22 = .ok (.ifCond .le 7, 3) := by decide +kernel
theorem dX3_isAfter_25 : decode cX3_isAfter 25 = .ok (.iconst 1, 1) := by decide +kernel
theorem dX3_isAfter_26 : decode cX3_isAfter 26 = .ok (.goto 4, 3) := by decide +kernel
theorem dX3_isAfter_29 : decode cX3_isAfter 29 = .ok (.iconst 0, 1) := by decide +kernel
theorem dX3_isAfter_30 : decode cX3_isAfter 30 = .ok (.ireturn, 1) := by decide +kernel
theorem dX3_same_0 : decode cX3_same 0 = .ok (.aload_n 0, 1) := by decide +kernel
theorem dX3_same_1 : decode cX3_same 1 = .ok (.iload_n 1, 1) := by decide +kernel
theorem dX3_same_2 : decode cX3_same 2 = .ok (.invokestatic 123, 3) := by decide +kernel
theorem dX3_same_5 : decode cX3_same 5 = .ok (.ifCond .eq 10, 3) := by decide +kernel
theorem dX3_same_8 : decode cX3_same 8 = .ok (.iload_n 2, 1) := by decide +kernel
theorem dX3_same_9 : decode cX3_same 9 = .ok (.invokestatic 123, 3) := by decide +kernel
theorem dX3_same_12 : decode cX3_same 12 = .ok (.ifCond .ne 7, 3) := by decide +kernel
theorem dX3_same_15 : decode cX3_same 15 = .ok (.iconst 1, 1) := by decide +kernel
theorem dX3_same_16 : decode cX3_same 16 = .ok (.goto 4, 3) := by decide +kernel
theorem dX3_same_19 : decode cX3_same 19 = .ok (.iconst 0, 1) := by decide +kernel
theorem dX3_same_20 : decode cX3_same 20 = .ok (.iload_n 3, 1) := by decide +kernel
theorem dX3_same_21 : decode cX3_same 21 = .ok (.ifCond .lt 8, 3) := by decide +kernel
theorem dX3_same_24 : decode cX3_same 24 = .ok (.iload_n 3, 1) := by decide +kernel
theorem dX3_same_25 : decode cX3_same 25 = .ok (.iconst 2, 1) := by decide +kernel
theorem dX3_same_26 : decode cX3_same 26 = .ok (.if_icmp .le 7, 3) := by decide +kernel
theorem dX3_same_29 : decode cX3_same 29 = .ok (.iconst 1, 1) := by decide +kernel
theorem dX3_same_30 : decode cX3_same 30 = .ok (.goto 4, 3) := by decide +kernel
theorem dX3_same_33 : decode cX3_same 33 = .ok (.iconst 0, 1) := by decide +kernel
theorem dX3_same_34 : decode cX3_same 34 = .ok (.invokevirtual 113, 3) := by decide +kernel
theorem dX3_same_37 : decode cX3_same 37 = .ok (.ifCond .ne 28, 3) := by decide +kernel
theorem dX3_same_40 : decode cX3_same 40 = .ok (.iload_n 3, 1) := by decide +kernel
theorem dX3_same_41 : decode cX3_same 41 = .ok (.iconst 2, 1) := by decide +kernel
theorem dX3_same_42 : decode cX3_same 42 = .ok (.if_icmp .eq 19, 3) := by decide +kernel
theorem dX3_same_45 : decode cX3_same 45 = .ok (.aload_n 0, 1) := by decide +kernel
theorem dX3_same_46 : decode cX3_same 46 = .ok (.getfield 7, 3) := by decide +kernel
theorem dX3_same_49 : decode cX3_same 49 = .ok (.iload_n 1, 1) := by decide +kernel
theorem dX3_same_50 : decode cX3_same 50 = .ok (.laload, 1) := by decide +kernel
theorem dX3_same_51 : decode cX3_same 51 = .ok (.aload_n 0, 1) := by decide +kernel
theorem dX3_same_52 : decode cX3_same 52 = .ok (.getfield 7, 3) := by decide +kernel
theorem dX3_same_55 : decode cX3_same 55 = .ok (.iload_n 2, 1) := by decide +kernel
theorem dX3_same_56 : decode cX3_same 56 = .ok (.laload, 1) := by decide +kernel
theorem dX3_same_57 : decode cX3_same 57 = .ok (.lcmp, 1) := by decide +kernel
theorem dX3_same_58 : decode cX3_same 58 = .ok (.ifCond .ne 7, 3) := by decide +kernel
theorem dX3_same_61 : decode cX3_same 61 = .ok (.iconst 1, 1) := by decide +kernel
theorem dX3_same_62 : decode cX3_same 62 = .ok (.goto 4, 3) := by decide +kernel
theorem dX3_same_65 : decode cX3_same 65 = .ok (.iconst 0, 1) := by decide +kernel
theorem dX3_same_66 : decode cX3_same 66 = .ok (.ireturn, 1) := by decide +kernel
theorem dX3_half_0 : decode cX3_half 0 = .ok (.iload_n 2, 1) := by decide +kernel
theorem dX3_half_1 : decode cX3_half 1 = .ok (.iconst 2, 1) := by decide +kernel
theorem dX3_half_2 : decode cX3_half 2 = .ok (.irem, 1) := by decide +kernel
theorem dX3_half_3 : decode cX3_half 3 = .ok (.ifCond .ne 10, 3) := by decide +kernel
theorem dX3_half_6 : decode cX3_half 6 = .ok (.lload_n 0, 1) := by decide +kernel
theorem dX3_half_7 : decode cX3_half 7 = .ok (.invokestatic 43, 3) := by decide +kernel
theorem dX3_half_10 : decode cX3_half 10 = .ok (.goto 7, 3) := by decide +kernel
theorem dX3_half_13 : decode cX3_half 13 = .ok (.lload_n 0, 1) := by decide +kernel
theorem dX3_half_14 : decode cX3_half 14 = .ok (.invokestatic 188, 3) := by decide +kernel
theorem dX3_half_17 : decode cX3_half 17 = .ok (.ireturn, 1) := by decide +kernel
theorem dX3_apart_0 : decode cX3_apart 0 = .ok (.aload_n 0, 1) := by decide +kernel
theorem dX3_apart_1 : decode cX3_apart 1 = .ok (.iload_n 1, 1) := by decide +kernel
theorem dX3_apart_2 : decode cX3_apart 2 = .ok (.invokestatic 123, 3) := by decide +kernel
theorem dX3_apart_5 : decode cX3_apart 5 = .ok (.ifCond .eq 10, 3) := by decide +kernel
theorem dX3_apart_8 : decode cX3_apart 8 = .ok (.iload_n 2, 1) := by decide +kernel
theorem dX3_apart_9 : decode cX3_apart 9 = .ok (.invokestatic 123, 3) := by decide +kernel
theorem dX3_apart_12 : decode cX3_apart 12 = .ok (.ifCond .ne 7, 3) := by decide +kernel
theorem dX3_apart_15 : decode cX3_apart 15 = .ok (.iconst 1, 1) := by decide +kernel
theorem dX3_apart_16 : decode cX3_apart 16 = .ok (.goto 4, 3) := by decide +kernel
theorem dX3_apart_19 : decode cX3_apart 19 = .ok (.iconst 0, 1) := by decide +kernel
theorem dX3_apart_20 : decode cX3_apart 20 = .ok (.iload_n 3, 1) := by decide +kernel
theorem dX3_apart_21 : decode cX3_apart 21 = .ok (.ifCond .lt 8, 3) := by decide +kernel
theorem dX3_apart_24 : decode cX3_apart 24 = .ok (.iload_n 3, 1) := by decide +kernel
theorem dX3_apart_25 : decode cX3_apart 25 = .ok (.iconst 1, 1) := by decide +kernel
theorem dX3_apart_26 : decode cX3_apart 26 = .ok (.if_icmp .le 7, 3) := by decide +kernel
theorem dX3_apart_29 : decode cX3_apart 29 = .ok (.iconst 1, 1) := by decide +kernel
theorem dX3_apart_30 : decode cX3_apart 30 = .ok (.goto 4, 3) := by decide +kernel
theorem dX3_apart_33 : decode cX3_apart 33 = .ok (.iconst 0, 1) := by decide +kernel
theorem dX3_apart_34 : decode cX3_apart 34 = .ok (.invokevirtual 113, 3) := by decide +kernel
theorem dX3_apart_37 : decode cX3_apart 37 = .ok (.ifCond .eq 7, 3) := by decide +kernel
theorem dX3_apart_40 : decode cX3_apart 40 = .ok (.iconst 0, 1) := by decide +kernel
theorem dX3_apart_41 : decode cX3_apart 41 = .ok (.goto 20, 3) := by decide +kernel
theorem dX3_apart_44 : decode cX3_apart 44 = .ok (.aload_n 0, 1) := by decide +kernel
theorem dX3_apart_45 : decode cX3_apart 45 = .ok (.getfield 7, 3) := by decide +kernel
theorem dX3_apart_48 : decode cX3_apart 48 = .ok (.iload_n 2, 1) := by decide +kernel
theorem dX3_apart_49 : decode cX3_apart 49 = .ok (.laload, 1) := by decide +kernel
theorem dX3_apart_50 : decode cX3_apart 50 = .ok (.aload_n 0, 1) := by decide +kernel
theorem dX3_apart_51 : decode cX3_apart 51 = .ok (.getfield 7, 3) := by decide +kernel
theorem dX3_apart_54 : decode cX3_apart 54 = .ok (.iload_n 1, 1) := by decide +kernel
theorem dX3_apart_55 : decode cX3_apart 55 = .ok (.laload, 1) := by decide +kernel
theorem dX3_apart_56 : decode cX3_apart 56 = .ok (.lsub, 1) := by decide +kernel
theorem dX3_apart_57 : decode cX3_apart 57 = .ok (.iload_n 3, 1) := by decide +kernel
theorem dX3_apart_58 : decode cX3_apart 58 = .ok (.invokestatic 212, 3) := by decide +kernel
theorem dX3_apart_61 : decode cX3_apart 61 = .ok (.ireturn, 1) := by decide +kernel
theorem dX3_calendar_0 : decode cX3_calendar 0 = .ok (.aload_n 0, 1) := by decide +kernel
theorem dX3_calendar_1 : decode cX3_calendar 1 = .ok (.iload_n 1, 1) := by decide +kernel
theorem dX3_calendar_2 : decode cX3_calendar 2 = .ok (.ifCond .lt 8, 3) := by decide +kernel
theorem dX3_calendar_5 : decode cX3_calendar 5 = .ok (.iload_n 1, 1) := by decide +kernel
theorem dX3_calendar_6 : decode cX3_calendar 6 = .ok (.iconst 3, 1) := by decide +kernel
theorem dX3_calendar_7 : decode cX3_calendar 7 = .ok (.if_icmp .le 7, 3) := by decide +kernel
theorem dX3_calendar_10 : decode cX3_calendar 10 = .ok (.iconst 1, 1) := by decide +kernel
theorem dX3_calendar_11 : decode cX3_calendar 11 = .ok (.goto 4, 3) := by decide +kernel
theorem dX3_calendar_14 : decode cX3_calendar 14 = .ok (.iconst 0, 1) := by decide +kernel
theorem dX3_calendar_15 : decode cX3_calendar 15 = .ok (.invokevirtual 149, 3) := by decide +kernel
theorem dX3_calendar_18 : decode cX3_calendar 18 = .ok (.ifCond .eq 7, 3) := by decide +kernel
theorem dX3_calendar_21 : decode cX3_calendar 21 = .ok (.iconst 0, 1) := by decide +kernel
theorem dX3_calendar_22 : decode cX3_calendar 22 = .ok (.goto 23, 3) := by decide +kernel
theorem dX3_calendar_25 : decode cX3_calendar 25 = .ok (.iload_n 1, 1) := by decide +kernel
theorem dX3_calendar_26 : decode cX3_calendar 26 = .ok (.iconst 2, 1) := by decide +kernel
theorem dX3_calendar_27 : decode cX3_calendar 27 = .ok (.if_icmp .ge 10, 3) := by decide +kernel
theorem dX3_calendar_30 : decode cX3_calendar 30 = .ok (.aload_n 0, 1) := by decide +kernel
theorem dX3_calendar_31 : decode cX3_calendar 31 = .ok (.getfield 53, 3) := by decide +kernel
theorem dX3_calendar_34 : decode cX3_calendar 34 = .ok (.goto 7, 3) := by decide +kernel
theorem dX3_calendar_37 : decode cX3_calendar 37 = .ok (.aload_n 0, 1) := by decide +kernel
theorem dX3_calendar_38 : decode cX3_calendar 38 = .ok (.getfield 15, 3) := by decide +kernel
theorem dX3_calendar_41 : decode cX3_calendar 41 = .ok (.iload_n 1, 1) := by decide +kernel
theorem dX3_calendar_42 : decode cX3_calendar 42 = .ok (.invokestatic 212, 3) := by decide +kernel
theorem dX3_calendar_45 : decode cX3_calendar 45 = .ok (.ireturn, 1) := by decide +kernel
theorem dX3_spans_0 : decode cX3_spans 0 = .ok (.aload_n 0, 1) := by decide +kernel
theorem dX3_spans_1 : decode cX3_spans 1 = .ok (.iconst 0, 1) := by decide +kernel
theorem dX3_spans_2 : decode cX3_spans 2 = .ok (.putfield 35, 3) := by decide +kernel
theorem dX3_spans_5 : decode cX3_spans 5 = .ok (.aload_n 0, 1) := by decide +kernel
theorem dX3_spans_6 : decode cX3_spans 6 = .ok (.getfield 56, 3) := by decide +kernel
theorem dX3_spans_9 : decode cX3_spans 9 = .ok (.ireturn, 1) := by decide +kernel
theorem dX3_ofSpan_0 : decode cX3_ofSpan 0 = .ok (.aload_n 0, 1) := by decide +kernel
theorem dX3_ofSpan_1 : decode cX3_ofSpan 1 = .ok (.aload_n 0, 1) := by decide +kernel
theorem dX3_ofSpan_2 : decode cX3_ofSpan 2 = .ok (.iload_n 1, 1) := by decide +kernel
theorem dX3_ofSpan_3 : decode cX3_ofSpan 3 = .ok (.invokevirtual 168, 3) := by decide +kernel
theorem dX3_ofSpan_6 : decode cX3_ofSpan 6 = .ok (.ifCond .ne 7, 3) := by decide +kernel
theorem dX3_ofSpan_9 : decode cX3_ofSpan 9 = .ok (.iconst 1, 1) := by decide +kernel
theorem dX3_ofSpan_10 : decode cX3_ofSpan 10 = .ok (.goto 4, 3) := by decide +kernel
theorem dX3_ofSpan_13 : decode cX3_ofSpan 13 = .ok (.iconst 0, 1) := by decide +kernel
theorem dX3_ofSpan_14 : decode cX3_ofSpan 14 = .ok (.iload_n 2, 1) := by decide +kernel
theorem dX3_ofSpan_15 : decode cX3_ofSpan 15 = .ok (.ifCond .lt 8, 3) := by decide +kernel
theorem dX3_ofSpan_18 : decode cX3_ofSpan 18 = .ok (.iload_n 2, 1) := by decide +kernel
theorem dX3_ofSpan_19 : decode cX3_ofSpan 19 = .ok (.iconst 4, 1) := by decide +kernel
theorem dX3_ofSpan_20 : decode cX3_ofSpan 20 = .ok (.if_icmp .le 7, 3) := by decide +kernel
theorem dX3_ofSpan_23 : decode cX3_ofSpan 23 = .ok (.iconst 1, 1) := by decide +kernel
theorem dX3_ofSpan_24 : decode cX3_ofSpan 24 = .ok (.goto 4, 3) := by decide +kernel
theorem dX3_ofSpan_27 : decode cX3_ofSpan 27 = .ok (.iconst 0, 1) := by decide +kernel
theorem dX3_ofSpan_28 : decode cX3_ofSpan 28 = .ok (.invokevirtual 113, 3) := by decide +kernel
theorem dX3_ofSpan_31 : decode cX3_ofSpan 31 = .ok (.ifCond .eq 5, 3) := by decide +kernel
theorem dX3_ofSpan_34 : decode cX3_ofSpan 34 = .ok (.iconst 0, 1) := by decide +kernel
theorem dX3_ofSpan_35 : decode cX3_ofSpan 35 = .ok (.ireturn, 1) := by decide +kernel
theorem dX3_ofSpan_36 : decode cX3_ofSpan 36 = .ok (.iload_n 2, 1) := by decide +kernel
theorem dX3_ofSpan_37 : decode cX3_ofSpan 37 = .ok (.iconst 4, 1) := by decide +kernel
theorem dX3_ofSpan_38 : decode cX3_ofSpan 38 = .ok (.if_icmp .ne 20, 3) := by decide +kernel
theorem dX3_ofSpan_41 : decode cX3_ofSpan 41 = .ok (.aload_n 0, 1) := by decide +kernel
theorem dX3_ofSpan_42 : decode cX3_ofSpan 42 = .ok (.getfield 25, 3) := by decide +kernel
theorem dX3_ofSpan_45 : decode cX3_ofSpan 45 = .ok (.iload_n 1, 1) := by decide +kernel
theorem dX3_ofSpan_46 : decode cX3_ofSpan 46 = .ok (.baload, 1) := by decide +kernel
theorem dX3_ofSpan_47 : decode cX3_ofSpan 47 = .ok (.ifCond .eq 7, 3) := by decide +kernel
theorem dX3_ofSpan_50 : decode cX3_ofSpan 50 = .ok (.iconst 1, 1) := by decide +kernel
theorem dX3_ofSpan_51 : decode cX3_ofSpan 51 = .ok (.goto 31, 3) := by decide +kernel
theorem dX3_ofSpan_54 : decode cX3_ofSpan 54 = .ok (.iconst 0, 1) := by decide +kernel
theorem dX3_ofSpan_55 : decode cX3_ofSpan 55 = .ok (.goto 27, 3) := by decide +kernel
theorem dX3_ofSpan_58 : decode cX3_ofSpan 58 = .ok (.iload_n 2, 1) := by decide +kernel
theorem dX3_ofSpan_59 : decode cX3_ofSpan 59 = .ok (.iconst 2, 1) := by decide +kernel
theorem dX3_ofSpan_60 : decode cX3_ofSpan 60 = .ok (.if_icmp .ge 12, 3) := by decide +kernel
theorem dX3_ofSpan_63 : decode cX3_ofSpan 63 = .ok (.aload_n 0, 1) := by decide +kernel
theorem dX3_ofSpan_64 : decode cX3_ofSpan 64 = .ok (.getfield 19, 3) := by decide +kernel
theorem dX3_ofSpan_67 : decode cX3_ofSpan 67 = .ok (.iload_n 1, 1) := by decide +kernel
theorem dX3_ofSpan_68 : decode cX3_ofSpan 68 = .ok (.laload, 1) := by decide +kernel
theorem dX3_ofSpan_69 : decode cX3_ofSpan 69 = .ok (.goto 9, 3) := by decide +kernel
theorem dX3_ofSpan_72 : decode cX3_ofSpan 72 = .ok (.aload_n 0, 1) := by decide +kernel
theorem dX3_ofSpan_73 : decode cX3_ofSpan 73 = .ok (.getfield 22, 3) := by decide +kernel
theorem dX3_ofSpan_76 : decode cX3_ofSpan 76 = .ok (.iload_n 1, 1) := by decide +kernel
theorem dX3_ofSpan_77 : decode cX3_ofSpan 77 = .ok (.laload, 1) := by decide +kernel
theorem dX3_ofSpan_78 : decode cX3_ofSpan 78 = .ok (.iload_n 2, 1) := by decide +kernel
theorem dX3_ofSpan_79 : decode cX3_ofSpan 79 = .ok (.invokestatic 212, 3) := by decide +kernel
theorem dX3_ofSpan_82 : decode cX3_ofSpan 82 = .ok (.ireturn, 1) := by decide +kernel
theorem dX3_meets_0 : decode cX3_meets 0 = .ok (.aload_n 0, 1) := by decide +kernel
theorem dX3_meets_1 : decode cX3_meets 1 = .ok (.aload_n 0, 1) := by decide +kernel
theorem dX3_meets_2 : decode cX3_meets 2 = .ok (.iload_n 1, 1) := by decide +kernel
theorem dX3_meets_3 : decode cX3_meets 3 = .ok (.invokevirtual 168, 3) := by decide +kernel
theorem dX3_meets_6 : decode cX3_meets 6 = .ok (.ifCond .eq 11, 3) := by decide +kernel
theorem dX3_meets_9 : decode cX3_meets 9 = .ok (.aload_n 0, 1) := by decide +kernel
theorem dX3_meets_10 : decode cX3_meets 10 = .ok (.iload_n 2, 1) := by decide +kernel
theorem dX3_meets_11 : decode cX3_meets 11 = .ok (.invokevirtual 168, 3) := by decide +kernel
theorem dX3_meets_14 : decode cX3_meets 14 = .ok (.ifCond .ne 7, 3) := by decide +kernel
theorem dX3_meets_17 : decode cX3_meets 17 = .ok (.iconst 1, 1) := by decide +kernel
theorem dX3_meets_18 : decode cX3_meets 18 = .ok (.goto 4, 3) := by decide +kernel
theorem dX3_meets_21 : decode cX3_meets 21 = .ok (.iconst 0, 1) := by decide +kernel
theorem dX3_meets_22 : decode cX3_meets 22 = .ok (.invokevirtual 149, 3) := by decide +kernel
theorem dX3_meets_25 : decode cX3_meets 25 = .ok (.ifCond .ne 37, 3) := by decide +kernel
theorem dX3_meets_28 : decode cX3_meets 28 = .ok (.aload_n 0, 1) := by decide +kernel
theorem dX3_meets_29 : decode cX3_meets 29 = .ok (.getfield 19, 3) := by decide +kernel
theorem dX3_meets_32 : decode cX3_meets 32 = .ok (.iload_n 1, 1) := by decide +kernel
theorem dX3_meets_33 : decode cX3_meets 33 = .ok (.laload, 1) := by decide +kernel
theorem dX3_meets_34 : decode cX3_meets 34 = .ok (.aload_n 0, 1) := by decide +kernel
theorem dX3_meets_35 : decode cX3_meets 35 = .ok (.getfield 22, 3) := by decide +kernel
theorem dX3_meets_38 : decode cX3_meets 38 = .ok (.iload_n 1, 1) := by decide +kernel
theorem dX3_meets_39 : decode cX3_meets 39 = .ok (.laload, 1) := by decide +kernel
theorem dX3_meets_40 : decode cX3_meets 40 = .ok (.aload_n 0, 1) := by decide +kernel
theorem dX3_meets_41 : decode cX3_meets 41 = .ok (.getfield 19, 3) := by decide +kernel
theorem dX3_meets_44 : decode cX3_meets 44 = .ok (.iload_n 2, 1) := by decide +kernel
theorem dX3_meets_45 : decode cX3_meets 45 = .ok (.laload, 1) := by decide +kernel
theorem dX3_meets_46 : decode cX3_meets 46 = .ok (.aload_n 0, 1) := by decide +kernel
theorem dX3_meets_47 : decode cX3_meets 47 = .ok (.getfield 22, 3) := by decide +kernel
theorem dX3_meets_50 : decode cX3_meets 50 = .ok (.iload_n 2, 1) := by decide +kernel
theorem dX3_meets_51 : decode cX3_meets 51 = .ok (.laload, 1) := by decide +kernel
theorem dX3_meets_52 : decode cX3_meets 52 = .ok (.invokestatic 59, 3) := by decide +kernel
theorem dX3_meets_55 : decode cX3_meets 55 = .ok (.ifCond .eq 7, 3) := by decide +kernel
theorem dX3_meets_58 : decode cX3_meets 58 = .ok (.iconst 1, 1) := by decide +kernel
theorem dX3_meets_59 : decode cX3_meets 59 = .ok (.goto 4, 3) := by decide +kernel
theorem dX3_meets_62 : decode cX3_meets 62 = .ok (.iconst 0, 1) := by decide +kernel
theorem dX3_meets_63 : decode cX3_meets 63 = .ok (.ireturn, 1) := by decide +kernel
theorem dX3_clashes_0 : decode cX3_clashes 0 = .ok (.aload_n 0, 1) := by decide +kernel
theorem dX3_clashes_1 : decode cX3_clashes 1 = .ok (.iconst 0, 1) := by decide +kernel
theorem dX3_clashes_2 : decode cX3_clashes 2 = .ok (.putfield 35, 3) := by decide +kernel
theorem dX3_clashes_5 : decode cX3_clashes 5 = .ok (.iconst 0, 1) := by decide +kernel
theorem dX3_clashes_6 : decode cX3_clashes 6 = .ok (.istore_n 1, 1) := by decide +kernel
theorem dX3_clashes_7 : decode cX3_clashes 7 = .ok (.iconst 0, 1) := by decide +kernel
theorem dX3_clashes_8 : decode cX3_clashes 8 = .ok (.istore_n 2, 1) := by decide +kernel
theorem dX3_clashes_9 : decode cX3_clashes 9 = .ok (.iload_n 2, 1) := by decide +kernel
theorem dX3_clashes_10 : decode cX3_clashes 10 = .ok (.aload_n 0, 1) := by decide +kernel
theorem dX3_clashes_11 : decode cX3_clashes 11 = .ok (.getfield 56, 3) := by decide +kernel
theorem dX3_clashes_14 : decode cX3_clashes 14 = .ok (.if_icmp .ge 60, 3) := by decide +kernel
theorem dX3_clashes_17 : decode cX3_clashes 17 = .ok (.iconst 0, 1) := by decide +kernel
theorem dX3_clashes_18 : decode cX3_clashes 18 = .ok (.istore_n 3, 1) := by decide +kernel
theorem dX3_clashes_19 : decode cX3_clashes 19 = .ok (.iload_n 3, 1) := by decide +kernel
theorem dX3_clashes_20 : decode cX3_clashes 20 = .ok (.iload_n 2, 1) := by decide +kernel
theorem dX3_clashes_21 : decode cX3_clashes 21 = .ok (.if_icmp .ge 47, 3) := by decide +kernel
theorem dX3_clashes_24 : decode cX3_clashes 24 = .ok (.iload_n 1, 1) := by decide +kernel
theorem dX3_clashes_25 : decode cX3_clashes 25 = .ok (.aload_n 0, 1) := by decide +kernel
theorem dX3_clashes_26 : decode cX3_clashes 26 = .ok (.getfield 19, 3) := by decide +kernel
theorem dX3_clashes_29 : decode cX3_clashes 29 = .ok (.iload_n 2, 1) := by decide +kernel
theorem dX3_clashes_30 : decode cX3_clashes 30 = .ok (.laload, 1) := by decide +kernel
theorem dX3_clashes_31 : decode cX3_clashes 31 = .ok (.aload_n 0, 1) := by decide +kernel
theorem dX3_clashes_32 : decode cX3_clashes 32 = .ok (.getfield 22, 3) := by decide +kernel
theorem dX3_clashes_35 : decode cX3_clashes 35 = .ok (.iload_n 2, 1) := by decide +kernel
theorem dX3_clashes_36 : decode cX3_clashes 36 = .ok (.laload, 1) := by decide +kernel
theorem dX3_clashes_37 : decode cX3_clashes 37 = .ok (.aload_n 0, 1) := by decide +kernel
theorem dX3_clashes_38 : decode cX3_clashes 38 = .ok (.getfield 19, 3) := by decide +kernel
theorem dX3_clashes_41 : decode cX3_clashes 41 = .ok (.iload_n 3, 1) := by decide +kernel
theorem dX3_clashes_42 : decode cX3_clashes 42 = .ok (.laload, 1) := by decide +kernel
theorem dX3_clashes_43 : decode cX3_clashes 43 = .ok (.aload_n 0, 1) := by decide +kernel
theorem dX3_clashes_44 : decode cX3_clashes 44 = .ok (.getfield 22, 3) := by decide +kernel
theorem dX3_clashes_47 : decode cX3_clashes 47 = .ok (.iload_n 3, 1) := by decide +kernel
theorem dX3_clashes_48 : decode cX3_clashes 48 = .ok (.laload, 1) := by decide +kernel
theorem dX3_clashes_49 : decode cX3_clashes 49 = .ok (.invokestatic 59, 3) := by decide +kernel
theorem dX3_clashes_52 : decode cX3_clashes 52 = .ok (.ifCond .eq 7, 3) := by decide +kernel
theorem dX3_clashes_55 : decode cX3_clashes 55 = .ok (.iconst 1, 1) := by decide +kernel
theorem dX3_clashes_56 : decode cX3_clashes 56 = .ok (.goto 4, 3) := by decide +kernel
theorem dX3_clashes_59 : decode cX3_clashes 59 = .ok (.iconst 0, 1) := by decide +kernel
theorem dX3_clashes_60 : decode cX3_clashes 60 = .ok (.iadd, 1) := by decide +kernel
theorem dX3_clashes_61 : decode cX3_clashes 61 = .ok (.istore_n 1, 1) := by decide +kernel
theorem dX3_clashes_62 : decode cX3_clashes 62 = .ok (.iinc 3 1, 3) := by decide +kernel
theorem dX3_clashes_65 : decode cX3_clashes 65 = .ok (.goto (-46), 3) := by decide +kernel
theorem dX3_clashes_68 : decode cX3_clashes 68 = .ok (.iinc 2 1, 3) := by decide +kernel
theorem dX3_clashes_71 : decode cX3_clashes 71 = .ok (.goto (-62), 3) := by decide +kernel
theorem dX3_clashes_74 : decode cX3_clashes 74 = .ok (.iload_n 1, 1) := by decide +kernel
theorem dX3_clashes_75 : decode cX3_clashes 75 = .ok (.ireturn, 1) := by decide +kernel
theorem dX3_at_0 : decode cX3_at 0 = .ok (.aload_n 0, 1) := by decide +kernel
theorem dX3_at_1 : decode cX3_at 1 = .ok (.iload_n 1, 1) := by decide +kernel
theorem dX3_at_2 : decode cX3_at 2 = .ok (.invokestatic 123, 3) := by decide +kernel
theorem dX3_at_5 : decode cX3_at 5 = .ok (.ifCond .ne 7, 3) := by decide +kernel
theorem dX3_at_8 : decode cX3_at 8 = .ok (.iconst 1, 1) := by decide +kernel
theorem dX3_at_9 : decode cX3_at 9 = .ok (.goto 4, 3) := by decide +kernel
theorem dX3_at_12 : decode cX3_at 12 = .ok (.iconst 0, 1) := by decide +kernel
theorem dX3_at_13 : decode cX3_at 13 = .ok (.invokevirtual 149, 3) := by decide +kernel
theorem dX3_at_16 : decode cX3_at 16 = .ok (.ifCond .eq 7, 3) := by decide +kernel
theorem dX3_at_19 : decode cX3_at 19 = .ok (.iconst 0, 1) := by decide +kernel
theorem dX3_at_20 : decode cX3_at 20 = .ok (.goto 13, 3) := by decide +kernel
theorem dX3_at_23 : decode cX3_at 23 = .ok (.aload_n 0, 1) := by decide +kernel
theorem dX3_at_24 : decode cX3_at 24 = .ok (.aload_n 0, 1) := by decide +kernel
theorem dX3_at_25 : decode cX3_at 25 = .ok (.getfield 7, 3) := by decide +kernel
theorem dX3_at_28 : decode cX3_at 28 = .ok (.iload_n 1, 1) := by decide +kernel
theorem dX3_at_29 : decode cX3_at 29 = .ok (.laload, 1) := by decide +kernel
theorem dX3_at_30 : decode cX3_at 30 = .ok (.invokevirtual 63, 3) := by decide +kernel
theorem dX3_at_33 : decode cX3_at 33 = .ok (.ireturn, 1) := by decide +kernel
theorem dX3_deepest__0 : decode cX3_deepest_ 0 = .ok (.aload_n 0, 1) := by decide +kernel
theorem dX3_deepest__1 : decode cX3_deepest_ 1 = .ok (.iconst 0, 1) := by decide +kernel
theorem dX3_deepest__2 : decode cX3_deepest_ 2 = .ok (.putfield 35, 3) := by decide +kernel
theorem dX3_deepest__5 : decode cX3_deepest_ 5 = .ok (.aload_n 0, 1) := by decide +kernel
theorem dX3_deepest__6 : decode cX3_deepest_ 6 = .ok (.getfield 19, 3) := by decide +kernel
theorem dX3_deepest__9 : decode cX3_deepest_ 9 = .ok (.aload_n 0, 1) := by decide +kernel
theorem dX3_deepest__10 : decode cX3_deepest_ 10 = .ok (.getfield 22, 3) := by decide +kernel
theorem dX3_deepest__13 : decode cX3_deepest_ 13 = .ok (.aload_n 0, 1) := by decide +kernel
theorem dX3_deepest__14 : decode cX3_deepest_ 14 = .ok (.getfield 56, 3) := by decide +kernel
theorem dX3_deepest__17 : decode cX3_deepest_ 17 = .ok (.invokestatic 216, 3) := by decide +kernel
theorem dX3_deepest__20 : decode cX3_deepest_ 20 = .ok (.ireturn, 1) := by decide +kernel
theorem dX3_isFree_0 : decode cX3_isFree 0 = .ok (.aload_n 0, 1) := by decide +kernel
theorem dX3_isFree_1 : decode cX3_isFree 1 = .ok (.iload_n 1, 1) := by decide +kernel
theorem dX3_isFree_2 : decode cX3_isFree 2 = .ok (.iload_n 2, 1) := by decide +kernel
theorem dX3_isFree_3 : decode cX3_isFree 3 = .ok (.invokevirtual 209, 3) := by decide +kernel
theorem dX3_isFree_6 : decode cX3_isFree 6 = .ok (.ifCond .ne 49, 3) := by decide +kernel
theorem dX3_isFree_9 : decode cX3_isFree 9 = .ok (.aload_n 0, 1) := by decide +kernel
theorem dX3_isFree_10 : decode cX3_isFree 10 = .ok (.getfield 7, 3) := by decide +kernel
theorem dX3_isFree_13 : decode cX3_isFree 13 = .ok (.iload_n 1, 1) := by decide +kernel
theorem dX3_isFree_14 : decode cX3_isFree 14 = .ok (.laload, 1) := by decide +kernel
theorem dX3_isFree_15 : decode cX3_isFree 15 = .ok (.aload_n 0, 1) := by decide +kernel
theorem dX3_isFree_16 : decode cX3_isFree 16 = .ok (.getfield 7, 3) := by decide +kernel
theorem dX3_isFree_19 : decode cX3_isFree 19 = .ok (.iload_n 2, 1) := by decide +kernel
theorem dX3_isFree_20 : decode cX3_isFree 20 = .ok (.laload, 1) := by decide +kernel
theorem dX3_isFree_21 : decode cX3_isFree 21 = .ok (.lcmp, 1) := by decide +kernel
theorem dX3_isFree_22 : decode cX3_isFree 22 = .ok (.ifCond .ge 33, 3) := by decide +kernel
theorem dX3_isFree_25 : decode cX3_isFree 25 = .ok (.aload_n 0, 1) := by decide +kernel
theorem dX3_isFree_26 : decode cX3_isFree 26 = .ok (.aload_n 0, 1) := by decide +kernel
theorem dX3_isFree_27 : decode cX3_isFree 27 = .ok (.getfield 7, 3) := by decide +kernel
theorem dX3_isFree_30 : decode cX3_isFree 30 = .ok (.iload_n 1, 1) := by decide +kernel
theorem dX3_isFree_31 : decode cX3_isFree 31 = .ok (.laload, 1) := by decide +kernel
theorem dX3_isFree_32 : decode cX3_isFree 32 = .ok (.aload_n 0, 1) := by decide +kernel
theorem dX3_isFree_33 : decode cX3_isFree 33 = .ok (.getfield 7, 3) := by decide +kernel
theorem dX3_isFree_36 : decode cX3_isFree 36 = .ok (.iload_n 2, 1) := by decide +kernel
theorem dX3_isFree_37 : decode cX3_isFree 37 = .ok (.laload, 1) := by decide +kernel
theorem dX3_isFree_38 : decode cX3_isFree 38 = .ok (.aload_n 0, 1) := by decide +kernel
theorem dX3_isFree_39 : decode cX3_isFree 39 = .ok (.getfield 7, 3) := by decide +kernel
theorem dX3_isFree_42 : decode cX3_isFree 42 = .ok (.iload_n 1, 1) := by decide +kernel
theorem dX3_isFree_43 : decode cX3_isFree 43 = .ok (.laload, 1) := by decide +kernel
theorem dX3_isFree_44 : decode cX3_isFree 44 = .ok (.lsub, 1) := by decide +kernel
theorem dX3_isFree_45 : decode cX3_isFree 45 = .ok (.invokevirtual 178, 3) := by decide +kernel
theorem dX3_isFree_48 : decode cX3_isFree 48 = .ok (.ifCond .eq 7, 3) := by decide +kernel
theorem dX3_isFree_51 : decode cX3_isFree 51 = .ok (.iconst 1, 1) := by decide +kernel
theorem dX3_isFree_52 : decode cX3_isFree 52 = .ok (.goto 4, 3) := by decide +kernel
theorem dX3_isFree_55 : decode cX3_isFree 55 = .ok (.iconst 0, 1) := by decide +kernel
theorem dX3_isFree_56 : decode cX3_isFree 56 = .ok (.ireturn, 1) := by decide +kernel
theorem dX3_frees_0 : decode cX3_frees 0 = .ok (.aload_n 0, 1) := by decide +kernel
theorem dX3_frees_1 : decode cX3_frees 1 = .ok (.iconst 0, 1) := by decide +kernel
theorem dX3_frees_2 : decode cX3_frees 2 = .ok (.putfield 35, 3) := by decide +kernel
theorem dX3_frees_5 : decode cX3_frees 5 = .ok (.aload_n 0, 1) := by decide +kernel
theorem dX3_frees_6 : decode cX3_frees 6 = .ok (.invokevirtual 66, 3) := by decide +kernel
theorem dX3_frees_9 : decode cX3_frees 9 = .ok (.invokestatic 70, 3) := by decide +kernel
theorem dX3_frees_12 : decode cX3_frees 12 = .ok (.ireturn, 1) := by decide +kernel
theorem dX3_ofFree_0 : decode cX3_ofFree 0 = .ok (.aload_n 0, 1) := by decide +kernel
theorem dX3_ofFree_1 : decode cX3_ofFree 1 = .ok (.invokevirtual 66, 3) := by decide +kernel
theorem dX3_ofFree_4 : decode cX3_ofFree 4 = .ok (.astore_n 3, 1) := by decide +kernel
theorem dX3_ofFree_5 : decode cX3_ofFree 5 = .ok (.aload_n 0, 1) := by decide +kernel
theorem dX3_ofFree_6 : decode cX3_ofFree 6 = .ok (.iload_n 1, 1) := by decide +kernel
theorem dX3_ofFree_7 : decode cX3_ofFree 7 = .ok (.ifCond .lt 11, 3) := by decide +kernel
theorem dX3_ofFree_10 : decode cX3_ofFree 10 = .ok (.iload_n 1, 1) := by decide +kernel
theorem dX3_ofFree_11 : decode cX3_ofFree 11 = .ok (.aload_n 3, 1) := by decide +kernel
theorem dX3_ofFree_12 : decode cX3_ofFree 12 = .ok (.invokestatic 70, 3) := by decide +kernel
theorem dX3_ofFree_15 : decode cX3_ofFree 15 = .ok (.if_icmp .lt 7, 3) := by decide +kernel
theorem dX3_ofFree_18 : decode cX3_ofFree 18 = .ok (.iconst 1, 1) := by decide +kernel
theorem dX3_ofFree_19 : decode cX3_ofFree 19 = .ok (.goto 4, 3) := by decide +kernel
theorem dX3_ofFree_22 : decode cX3_ofFree 22 = .ok (.iconst 0, 1) := by decide +kernel
theorem dX3_ofFree_23 : decode cX3_ofFree 23 = .ok (.iload_n 2, 1) := by decide +kernel
theorem dX3_ofFree_24 : decode cX3_ofFree 24 = .ok (.ifCond .lt 8, 3) := by decide +kernel
theorem dX3_ofFree_27 : decode cX3_ofFree 27 = .ok (.iload_n 2, 1) := by decide +kernel
theorem dX3_ofFree_28 : decode cX3_ofFree 28 = .ok (.iconst 3, 1) := by decide +kernel
theorem dX3_ofFree_29 : decode cX3_ofFree 29 = .ok (.if_icmp .le 7, 3) := by decide +kernel
theorem dX3_ofFree_32 : decode cX3_ofFree 32 = .ok (.iconst 1, 1) := by decide +kernel
theorem dX3_ofFree_33 : decode cX3_ofFree 33 = .ok (.goto 4, 3) := by decide +kernel
theorem dX3_ofFree_36 : decode cX3_ofFree 36 = .ok (.iconst 0, 1) := by decide +kernel
theorem dX3_ofFree_37 : decode cX3_ofFree 37 = .ok (.invokevirtual 113, 3) := by decide +kernel
theorem dX3_ofFree_40 : decode cX3_ofFree 40 = .ok (.ifCond .eq 5, 3) := by decide +kernel
theorem dX3_ofFree_43 : decode cX3_ofFree 43 = .ok (.iconst 0, 1) := by decide +kernel
theorem dX3_ofFree_44 : decode cX3_ofFree 44 = .ok (.ireturn, 1) := by decide +kernel
theorem dX3_ofFree_45 : decode cX3_ofFree 45 = .ok (.aload_n 3, 1) := by decide +kernel
theorem dX3_ofFree_46 : decode cX3_ofFree 46 = .ok (.iconst 2, 1) := by decide +kernel
theorem dX3_ofFree_47 : decode cX3_ofFree 47 = .ok (.iload_n 1, 1) := by decide +kernel
theorem dX3_ofFree_48 : decode cX3_ofFree 48 = .ok (.imul, 1) := by decide +kernel
theorem dX3_ofFree_49 : decode cX3_ofFree 49 = .ok (.iload_n 2, 1) := by decide +kernel
theorem dX3_ofFree_50 : decode cX3_ofFree 50 = .ok (.iconst 2, 1) := by decide +kernel
theorem dX3_ofFree_51 : decode cX3_ofFree 51 = .ok (.idiv, 1) := by decide +kernel
theorem dX3_ofFree_52 : decode cX3_ofFree 52 = .ok (.iadd, 1) := by decide +kernel
theorem dX3_ofFree_53 : decode cX3_ofFree 53 = .ok (.laload, 1) := by decide +kernel
theorem dX3_ofFree_54 : decode cX3_ofFree 54 = .ok (.iload_n 2, 1) := by decide +kernel
theorem dX3_ofFree_55 : decode cX3_ofFree 55 = .ok (.invokestatic 212, 3) := by decide +kernel
theorem dX3_ofFree_58 : decode cX3_ofFree 58 = .ok (.ireturn, 1) := by decide +kernel
theorem dX3_freeAt_0 : decode cX3_freeAt 0 = .ok (.aload_n 0, 1) := by decide +kernel
theorem dX3_freeAt_1 : decode cX3_freeAt 1 = .ok (.iload_n 1, 1) := by decide +kernel
theorem dX3_freeAt_2 : decode cX3_freeAt 2 = .ok (.invokestatic 123, 3) := by decide +kernel
theorem dX3_freeAt_5 : decode cX3_freeAt 5 = .ok (.ifCond .ne 7, 3) := by decide +kernel
theorem dX3_freeAt_8 : decode cX3_freeAt 8 = .ok (.iconst 1, 1) := by decide +kernel
theorem dX3_freeAt_9 : decode cX3_freeAt 9 = .ok (.goto 4, 3) := by decide +kernel
theorem dX3_freeAt_12 : decode cX3_freeAt 12 = .ok (.iconst 0, 1) := by decide +kernel
theorem dX3_freeAt_13 : decode cX3_freeAt 13 = .ok (.invokevirtual 149, 3) := by decide +kernel
theorem dX3_freeAt_16 : decode cX3_freeAt 16 = .ok (.ifCond .eq 5, 3) := by decide +kernel
theorem dX3_freeAt_19 : decode cX3_freeAt 19 = .ok (.iconst 0, 1) := by decide +kernel
theorem dX3_freeAt_20 : decode cX3_freeAt 20 = .ok (.ireturn, 1) := by decide +kernel
theorem dX3_freeAt_21 : decode cX3_freeAt 21 = .ok (.aload_n 0, 1) := by decide +kernel
theorem dX3_freeAt_22 : decode cX3_freeAt 22 = .ok (.invokevirtual 66, 3) := by decide +kernel
theorem dX3_freeAt_25 : decode cX3_freeAt 25 = .ok (.astore_n 2, 1) := by decide +kernel
theorem dX3_freeAt_26 : decode cX3_freeAt 26 = .ok (.iconst 0, 1) := by decide +kernel
theorem dX3_freeAt_27 : decode cX3_freeAt 27 = .ok (.istore_n 3, 1) := by decide +kernel
theorem dX3_freeAt_28 : decode cX3_freeAt 28 = .ok (.iload_n 3, 1) := by decide +kernel
theorem dX3_freeAt_29 : decode cX3_freeAt 29 = .ok (.aload_n 2, 1) := by decide +kernel
theorem dX3_freeAt_30 : decode cX3_freeAt 30 = .ok (.invokestatic 70, 3) := by decide +kernel
theorem dX3_freeAt_33 : decode cX3_freeAt 33 = .ok (.if_icmp .ge 43, 3) := by decide +kernel
theorem dX3_freeAt_36 : decode cX3_freeAt 36 = .ok (.aload_n 2, 1) := by decide +kernel
theorem dX3_freeAt_37 : decode cX3_freeAt 37 = .ok (.iconst 2, 1) := by decide +kernel
theorem dX3_freeAt_38 : decode cX3_freeAt 38 = .ok (.iload_n 3, 1) := by decide +kernel
theorem dX3_freeAt_39 : decode cX3_freeAt 39 = .ok (.imul, 1) := by decide +kernel
theorem dX3_freeAt_40 : decode cX3_freeAt 40 = .ok (.laload, 1) := by decide +kernel
theorem dX3_freeAt_41 : decode cX3_freeAt 41 = .ok (.aload_n 0, 1) := by decide +kernel
theorem dX3_freeAt_42 : decode cX3_freeAt 42 = .ok (.getfield 7, 3) := by decide +kernel
theorem dX3_freeAt_45 : decode cX3_freeAt 45 = .ok (.iload_n 1, 1) := by decide +kernel
theorem dX3_freeAt_46 : decode cX3_freeAt 46 = .ok (.laload, 1) := by decide +kernel
theorem dX3_freeAt_47 : decode cX3_freeAt 47 = .ok (.lcmp, 1) := by decide +kernel
theorem dX3_freeAt_48 : decode cX3_freeAt 48 = .ok (.ifCond .gt 22, 3) := by decide +kernel
theorem dX3_freeAt_51 : decode cX3_freeAt 51 = .ok (.aload_n 0, 1) := by decide +kernel
theorem dX3_freeAt_52 : decode cX3_freeAt 52 = .ok (.getfield 7, 3) := by decide +kernel
theorem dX3_freeAt_55 : decode cX3_freeAt 55 = .ok (.iload_n 1, 1) := by decide +kernel
theorem dX3_freeAt_56 : decode cX3_freeAt 56 = .ok (.laload, 1) := by decide +kernel
theorem dX3_freeAt_57 : decode cX3_freeAt 57 = .ok (.aload_n 2, 1) := by decide +kernel
theorem dX3_freeAt_58 : decode cX3_freeAt 58 = .ok (.iconst 2, 1) := by decide +kernel
theorem dX3_freeAt_59 : decode cX3_freeAt 59 = .ok (.iload_n 3, 1) := by decide +kernel
theorem dX3_freeAt_60 : decode cX3_freeAt 60 = .ok (.imul, 1) := by decide +kernel
theorem dX3_freeAt_61 : decode cX3_freeAt 61 = .ok (.iconst 1, 1) := by decide +kernel
theorem dX3_freeAt_62 : decode cX3_freeAt 62 = .ok (.iadd, 1) := by decide +kernel
theorem dX3_freeAt_63 : decode cX3_freeAt 63 = .ok (.laload, 1) := by decide +kernel
theorem dX3_freeAt_64 : decode cX3_freeAt 64 = .ok (.lcmp, 1) := by decide +kernel
theorem dX3_freeAt_65 : decode cX3_freeAt 65 = .ok (.ifCond .ge 5, 3) := by decide +kernel
theorem dX3_freeAt_68 : decode cX3_freeAt 68 = .ok (.iload_n 3, 1) := by decide +kernel
theorem dX3_freeAt_69 : decode cX3_freeAt 69 = .ok (.ireturn, 1) := by decide +kernel
theorem dX3_freeAt_70 : decode cX3_freeAt 70 = .ok (.iinc 3 1, 3) := by decide +kernel
theorem dX3_freeAt_73 : decode cX3_freeAt 73 = .ok (.goto (-45), 3) := by decide +kernel
theorem dX3_freeAt_76 : decode cX3_freeAt 76 = .ok (.iconst (-1), 1) := by decide +kernel
theorem dX3_freeAt_77 : decode cX3_freeAt 77 = .ok (.ireturn, 1) := by decide +kernel
theorem dX3_length_0 : decode cX3_length 0 = .ok (.aload_n 0, 1) := by decide +kernel
theorem dX3_length_1 : decode cX3_length 1 = .ok (.iload_n 1, 1) := by decide +kernel
theorem dX3_length_2 : decode cX3_length 2 = .ok (.ifCond .lt 8, 3) := by decide +kernel
theorem dX3_length_5 : decode cX3_length 5 = .ok (.iload_n 1, 1) := by decide +kernel
theorem dX3_length_6 : decode cX3_length 6 = .ok (.iconst 5, 1) := by decide +kernel
theorem dX3_length_7 : decode cX3_length 7 = .ok (.if_icmp .le 7, 3) := by decide +kernel
theorem dX3_length_10 : decode cX3_length 10 = .ok (.iconst 1, 1) := by decide +kernel
theorem dX3_length_11 : decode cX3_length 11 = .ok (.goto 4, 3) := by decide +kernel
theorem dX3_length_14 : decode cX3_length 14 = .ok (.iconst 0, 1) := by decide +kernel
theorem dX3_length_15 : decode cX3_length 15 = .ok (.invokevirtual 149, 3) := by decide +kernel
theorem dX3_length_18 : decode cX3_length 18 = .ok (.ifCond .eq 5, 3) := by decide +kernel
theorem dX3_length_21 : decode cX3_length 21 = .ok (.iconst 0, 1) := by decide +kernel
theorem dX3_length_22 : decode cX3_length 22 = .ok (.ireturn, 1) := by decide +kernel
theorem dX3_length_23 : decode cX3_length 23 = .ok (.iload_n 1, 1) := by decide +kernel
theorem dX3_length_24 : decode cX3_length 24 = .ok (.iconst 2, 1) := by decide +kernel
theorem dX3_length_25 : decode cX3_length 25 = .ok (.if_icmp .ge 10, 3) := by decide +kernel
theorem dX3_length_28 : decode cX3_length 28 = .ok (.aload_n 0, 1) := by decide +kernel
theorem dX3_length_29 : decode cX3_length 29 = .ok (.invokevirtual 220, 3) := by decide +kernel
theorem dX3_length_32 : decode cX3_length 32 = .ok (.goto 24, 3) := by decide +kernel
theorem dX3_length_35 : decode cX3_length 35 = .ok (.iload_n 1, 1) := by decide +kernel
theorem dX3_length_36 : decode cX3_length 36 = .ok (.iconst 4, 1) := by decide +kernel
theorem dX3_length_37 : decode cX3_length 37 = .ok (.if_icmp .ge 10, 3) := by decide +kernel
theorem dX3_length_40 : decode cX3_length 40 = .ok (.aload_n 0, 1) := by decide +kernel
theorem dX3_length_41 : decode cX3_length 41 = .ok (.invokevirtual 224, 3) := by decide +kernel
theorem dX3_length_44 : decode cX3_length 44 = .ok (.goto 12, 3) := by decide +kernel
theorem dX3_length_47 : decode cX3_length 47 = .ok (.aload_n 0, 1) := by decide +kernel
theorem dX3_length_48 : decode cX3_length 48 = .ok (.getfield 15, 3) := by decide +kernel
theorem dX3_length_51 : decode cX3_length 51 = .ok (.aload_n 0, 1) := by decide +kernel
theorem dX3_length_52 : decode cX3_length 52 = .ok (.getfield 53, 3) := by decide +kernel
theorem dX3_length_55 : decode cX3_length 55 = .ok (.lsub, 1) := by decide +kernel
theorem dX3_length_56 : decode cX3_length 56 = .ok (.iload_n 1, 1) := by decide +kernel
theorem dX3_length_57 : decode cX3_length 57 = .ok (.invokestatic 212, 3) := by decide +kernel
theorem dX3_length_60 : decode cX3_length 60 = .ok (.ireturn, 1) := by decide +kernel
theorem dX3_wishes_0 : decode cX3_wishes 0 = .ok (.aload_n 0, 1) := by decide +kernel
theorem dX3_wishes_1 : decode cX3_wishes 1 = .ok (.iconst 0, 1) := by decide +kernel
theorem dX3_wishes_2 : decode cX3_wishes 2 = .ok (.putfield 35, 3) := by decide +kernel
theorem dX3_wishes_5 : decode cX3_wishes 5 = .ok (.aload_n 0, 1) := by decide +kernel
theorem dX3_wishes_6 : decode cX3_wishes 6 = .ok (.getfield 88, 3) := by decide +kernel
theorem dX3_wishes_9 : decode cX3_wishes 9 = .ok (.ireturn, 1) := by decide +kernel
theorem dX3_ofWish_0 : decode cX3_ofWish 0 = .ok (.aload_n 0, 1) := by decide +kernel
theorem dX3_ofWish_1 : decode cX3_ofWish 1 = .ok (.aload_n 0, 1) := by decide +kernel
theorem dX3_ofWish_2 : decode cX3_ofWish 2 = .ok (.iload_n 1, 1) := by decide +kernel
theorem dX3_ofWish_3 : decode cX3_ofWish 3 = .ok (.invokevirtual 181, 3) := by decide +kernel
theorem dX3_ofWish_6 : decode cX3_ofWish 6 = .ok (.ifCond .ne 7, 3) := by decide +kernel
theorem dX3_ofWish_9 : decode cX3_ofWish 9 = .ok (.iconst 1, 1) := by decide +kernel
theorem dX3_ofWish_10 : decode cX3_ofWish 10 = .ok (.goto 4, 3) := by decide +kernel
theorem dX3_ofWish_13 : decode cX3_ofWish 13 = .ok (.iconst 0, 1) := by decide +kernel
theorem dX3_ofWish_14 : decode cX3_ofWish 14 = .ok (.iload_n 2, 1) := by decide +kernel
theorem dX3_ofWish_15 : decode cX3_ofWish 15 = .ok (.ifCond .lt 8, 3) := by decide +kernel
theorem dX3_ofWish_18 : decode cX3_ofWish 18 = .ok (.iload_n 2, 1) := by decide +kernel
theorem dX3_ofWish_19 : decode cX3_ofWish 19 = .ok (.iconst 3, 1) := by decide +kernel
theorem dX3_ofWish_20 : decode cX3_ofWish 20 = .ok (.if_icmp .le 7, 3) := by decide +kernel
theorem dX3_ofWish_23 : decode cX3_ofWish 23 = .ok (.iconst 1, 1) := by decide +kernel
theorem dX3_ofWish_24 : decode cX3_ofWish 24 = .ok (.goto 4, 3) := by decide +kernel
theorem dX3_ofWish_27 : decode cX3_ofWish 27 = .ok (.iconst 0, 1) := by decide +kernel
theorem dX3_ofWish_28 : decode cX3_ofWish 28 = .ok (.invokevirtual 113, 3) := by decide +kernel
theorem dX3_ofWish_31 : decode cX3_ofWish 31 = .ok (.ifCond .eq 7, 3) := by decide +kernel
theorem dX3_ofWish_34 : decode cX3_ofWish 34 = .ok (.iconst 0, 1) := by decide +kernel
theorem dX3_ofWish_35 : decode cX3_ofWish 35 = .ok (.goto 27, 3) := by decide +kernel
theorem dX3_ofWish_38 : decode cX3_ofWish 38 = .ok (.iload_n 2, 1) := by decide +kernel
theorem dX3_ofWish_39 : decode cX3_ofWish 39 = .ok (.iconst 2, 1) := by decide +kernel
theorem dX3_ofWish_40 : decode cX3_ofWish 40 = .ok (.if_icmp .ge 12, 3) := by decide +kernel
theorem dX3_ofWish_43 : decode cX3_ofWish 43 = .ok (.aload_n 0, 1) := by decide +kernel
theorem dX3_ofWish_44 : decode cX3_ofWish 44 = .ok (.getfield 29, 3) := by decide +kernel
theorem dX3_ofWish_47 : decode cX3_ofWish 47 = .ok (.iload_n 1, 1) := by decide +kernel
theorem dX3_ofWish_48 : decode cX3_ofWish 48 = .ok (.laload, 1) := by decide +kernel
theorem dX3_ofWish_49 : decode cX3_ofWish 49 = .ok (.goto 9, 3) := by decide +kernel
theorem dX3_ofWish_52 : decode cX3_ofWish 52 = .ok (.aload_n 0, 1) := by decide +kernel
theorem dX3_ofWish_53 : decode cX3_ofWish 53 = .ok (.getfield 32, 3) := by decide +kernel
theorem dX3_ofWish_56 : decode cX3_ofWish 56 = .ok (.iload_n 1, 1) := by decide +kernel
theorem dX3_ofWish_57 : decode cX3_ofWish 57 = .ok (.laload, 1) := by decide +kernel
theorem dX3_ofWish_58 : decode cX3_ofWish 58 = .ok (.iload_n 2, 1) := by decide +kernel
theorem dX3_ofWish_59 : decode cX3_ofWish 59 = .ok (.invokestatic 212, 3) := by decide +kernel
theorem dX3_ofWish_62 : decode cX3_ofWish 62 = .ok (.ireturn, 1) := by decide +kernel
theorem dX3_isApart_0 : decode cX3_isApart 0 = .ok (.aload_n 0, 1) := by decide +kernel
theorem dX3_isApart_1 : decode cX3_isApart 1 = .ok (.iload_n 1, 1) := by decide +kernel
theorem dX3_isApart_2 : decode cX3_isApart 2 = .ok (.ifCond .lt 12, 3) := by decide +kernel
theorem dX3_isApart_5 : decode cX3_isApart 5 = .ok (.iload_n 1, 1) := by decide +kernel
theorem dX3_isApart_6 : decode cX3_isApart 6 = .ok (.aload_n 0, 1) := by decide +kernel
theorem dX3_isApart_7 : decode cX3_isApart 7 = .ok (.getfield 88, 3) := by decide +kernel
theorem dX3_isApart_10 : decode cX3_isApart 10 = .ok (.ishr, 1) := by decide +kernel
theorem dX3_isApart_11 : decode cX3_isApart 11 = .ok (.ifCond .le 7, 3) := by decide +kernel
theorem dX3_isApart_14 : decode cX3_isApart 14 = .ok (.iconst 1, 1) := by decide +kernel
theorem dX3_isApart_15 : decode cX3_isApart 15 = .ok (.goto 4, 3) := by decide +kernel
theorem dX3_isApart_18 : decode cX3_isApart 18 = .ok (.iconst 0, 1) := by decide +kernel
theorem dX3_isApart_19 : decode cX3_isApart 19 = .ok (.invokevirtual 149, 3) := by decide +kernel
theorem dX3_isApart_22 : decode cX3_isApart 22 = .ok (.ifCond .ne 15, 3) := by decide +kernel
theorem dX3_isApart_25 : decode cX3_isApart 25 = .ok (.aload_n 0, 1) := by decide +kernel
theorem dX3_isApart_26 : decode cX3_isApart 26 = .ok (.iload_n 1, 1) := by decide +kernel
theorem dX3_isApart_27 : decode cX3_isApart 27 = .ok (.invokevirtual 95, 3) := by decide +kernel
theorem dX3_isApart_30 : decode cX3_isApart 30 = .ok (.ifCond .eq 7, 3) := by decide +kernel
theorem dX3_isApart_33 : decode cX3_isApart 33 = .ok (.iconst 1, 1) := by decide +kernel
theorem dX3_isApart_34 : decode cX3_isApart 34 = .ok (.goto 4, 3) := by decide +kernel
theorem dX3_isApart_37 : decode cX3_isApart 37 = .ok (.iconst 0, 1) := by decide +kernel
theorem dX3_isApart_38 : decode cX3_isApart 38 = .ok (.ireturn, 1) := by decide +kernel
theorem dX3_chosen_0 : decode cX3_chosen 0 = .ok (.aload_n 0, 1) := by decide +kernel
theorem dX3_chosen_1 : decode cX3_chosen 1 = .ok (.iconst 0, 1) := by decide +kernel
theorem dX3_chosen_2 : decode cX3_chosen 2 = .ok (.putfield 35, 3) := by decide +kernel
theorem dX3_chosen_5 : decode cX3_chosen 5 = .ok (.aload_n 0, 1) := by decide +kernel
theorem dX3_chosen_6 : decode cX3_chosen 6 = .ok (.invokevirtual 227, 3) := by decide +kernel
theorem dX3_chosen_9 : decode cX3_chosen 9 = .ok (.ireturn, 1) := by decide +kernel
theorem dX3_most_0 : decode cX3_most 0 = .ok (.aload_n 0, 1) := by decide +kernel
theorem dX3_most_1 : decode cX3_most 1 = .ok (.iload_n 1, 1) := by decide +kernel
theorem dX3_most_2 : decode cX3_most 2 = .ok (.ifCond .lt 8, 3) := by decide +kernel
theorem dX3_most_5 : decode cX3_most 5 = .ok (.iload_n 1, 1) := by decide +kernel
theorem dX3_most_6 : decode cX3_most 6 = .ok (.iconst 1, 1) := by decide +kernel
theorem dX3_most_7 : decode cX3_most 7 = .ok (.if_icmp .le 7, 3) := by decide +kernel
theorem dX3_most_10 : decode cX3_most 10 = .ok (.iconst 1, 1) := by decide +kernel
theorem dX3_most_11 : decode cX3_most 11 = .ok (.goto 4, 3) := by decide +kernel
theorem dX3_most_14 : decode cX3_most 14 = .ok (.iconst 0, 1) := by decide +kernel
theorem dX3_most_15 : decode cX3_most 15 = .ok (.invokevirtual 149, 3) := by decide +kernel
theorem dX3_most_18 : decode cX3_most 18 = .ok (.ifCond .eq 7, 3) := by decide +kernel
theorem dX3_most_21 : decode cX3_most 21 = .ok (.iconst 0, 1) := by decide +kernel
theorem dX3_most_22 : decode cX3_most 22 = .ok (.goto 21, 3) := by decide +kernel
theorem dX3_most_25 : decode cX3_most 25 = .ok (.iload_n 1, 1) := by decide +kernel
theorem dX3_most_26 : decode cX3_most 26 = .ok (.ifCond .ne 13, 3) := by decide +kernel
theorem dX3_most_29 : decode cX3_most 29 = .ok (.aload_n 0, 1) := by decide +kernel
theorem dX3_most_30 : decode cX3_most 30 = .ok (.invokevirtual 227, 3) := by decide +kernel
theorem dX3_most_33 : decode cX3_most 33 = .ok (.invokestatic 99, 3) := by decide +kernel
theorem dX3_most_36 : decode cX3_most 36 = .ok (.goto 7, 3) := by decide +kernel
theorem dX3_most_39 : decode cX3_most 39 = .ok (.aload_n 0, 1) := by decide +kernel
theorem dX3_most_40 : decode cX3_most 40 = .ok (.invokevirtual 230, 3) := by decide +kernel
theorem dX3_most_43 : decode cX3_most 43 = .ok (.ireturn, 1) := by decide +kernel
theorem dX3_crowd_0 : decode cX3_crowd 0 = .ok (.aload_n 0, 1) := by decide +kernel
theorem dX3_crowd_1 : decode cX3_crowd 1 = .ok (.iconst 0, 1) := by decide +kernel
theorem dX3_crowd_2 : decode cX3_crowd 2 = .ok (.putfield 35, 3) := by decide +kernel
theorem dX3_crowd_5 : decode cX3_crowd 5 = .ok (.aload_n 0, 1) := by decide +kernel
theorem dX3_crowd_6 : decode cX3_crowd 6 = .ok (.getfield 29, 3) := by decide +kernel
theorem dX3_crowd_9 : decode cX3_crowd 9 = .ok (.aload_n 0, 1) := by decide +kernel
theorem dX3_crowd_10 : decode cX3_crowd 10 = .ok (.getfield 32, 3) := by decide +kernel
theorem dX3_crowd_13 : decode cX3_crowd 13 = .ok (.aload_n 0, 1) := by decide +kernel
theorem dX3_crowd_14 : decode cX3_crowd 14 = .ok (.getfield 88, 3) := by decide +kernel
theorem dX3_crowd_17 : decode cX3_crowd 17 = .ok (.invokestatic 216, 3) := by decide +kernel
theorem dX3_crowd_20 : decode cX3_crowd 20 = .ok (.ireturn, 1) := by decide +kernel
theorem dX3_room_0 : decode cX3_room 0 = .ok (.aload_n 0, 1) := by decide +kernel
theorem dX3_room_1 : decode cX3_room 1 = .ok (.aload_n 0, 1) := by decide +kernel
theorem dX3_room_2 : decode cX3_room 2 = .ok (.iload_n 1, 1) := by decide +kernel
theorem dX3_room_3 : decode cX3_room 3 = .ok (.invokevirtual 181, 3) := by decide +kernel
theorem dX3_room_6 : decode cX3_room 6 = .ok (.ifCond .ne 7, 3) := by decide +kernel
theorem dX3_room_9 : decode cX3_room 9 = .ok (.iconst 1, 1) := by decide +kernel
theorem dX3_room_10 : decode cX3_room 10 = .ok (.goto 4, 3) := by decide +kernel
theorem dX3_room_13 : decode cX3_room 13 = .ok (.iconst 0, 1) := by decide +kernel
theorem dX3_room_14 : decode cX3_room 14 = .ok (.invokevirtual 149, 3) := by decide +kernel
theorem dX3_room_17 : decode cX3_room 17 = .ok (.ifCond .eq 7, 3) := by decide +kernel
theorem dX3_room_20 : decode cX3_room 20 = .ok (.iconst 0, 1) := by decide +kernel
theorem dX3_room_21 : decode cX3_room 21 = .ok (.goto 9, 3) := by decide +kernel
theorem dX3_room_24 : decode cX3_room 24 = .ok (.aload_n 0, 1) := by decide +kernel
theorem dX3_room_25 : decode cX3_room 25 = .ok (.invokevirtual 107, 3) := by decide +kernel
theorem dX3_room_28 : decode cX3_room 28 = .ok (.iload_n 1, 1) := by decide +kernel
theorem dX3_room_29 : decode cX3_room 29 = .ok (.iaload, 1) := by decide +kernel
theorem dX3_room_30 : decode cX3_room 30 = .ok (.ireturn, 1) := by decide +kernel
theorem dX3_rooms_0 : decode cX3_rooms 0 = .ok (.aload_n 0, 1) := by decide +kernel
theorem dX3_rooms_1 : decode cX3_rooms 1 = .ok (.iconst 0, 1) := by decide +kernel
theorem dX3_rooms_2 : decode cX3_rooms 2 = .ok (.putfield 35, 3) := by decide +kernel
theorem dX3_rooms_5 : decode cX3_rooms 5 = .ok (.aload_n 0, 1) := by decide +kernel
theorem dX3_rooms_6 : decode cX3_rooms 6 = .ok (.invokevirtual 233, 3) := by decide +kernel
theorem dX3_rooms_9 : decode cX3_rooms 9 = .ok (.ireturn, 1) := by decide +kernel
theorem dX3_house_0 : decode cX3_house 0 = .ok (.aload_n 0, 1) := by decide +kernel
theorem dX3_house_1 : decode cX3_house 1 = .ok (.iload_n 1, 1) := by decide +kernel
theorem dX3_house_2 : decode cX3_house 2 = .ok (.ifCond .lt 8, 3) := by decide +kernel
theorem dX3_house_5 : decode cX3_house 5 = .ok (.iload_n 1, 1) := by decide +kernel
theorem dX3_house_6 : decode cX3_house 6 = .ok (.iconst 2, 1) := by decide +kernel
theorem dX3_house_7 : decode cX3_house 7 = .ok (.if_icmp .le 7, 3) := by decide +kernel
theorem dX3_house_10 : decode cX3_house 10 = .ok (.iconst 1, 1) := by decide +kernel
theorem dX3_house_11 : decode cX3_house 11 = .ok (.goto 4, 3) := by decide +kernel
theorem dX3_house_14 : decode cX3_house 14 = .ok (.iconst 0, 1) := by decide +kernel
theorem dX3_house_15 : decode cX3_house 15 = .ok (.invokevirtual 149, 3) := by decide +kernel
theorem dX3_house_18 : decode cX3_house 18 = .ok (.ifCond .eq 7, 3) := by decide +kernel
theorem dX3_house_21 : decode cX3_house 21 = .ok (.iconst 0, 1) := by decide +kernel
theorem dX3_house_22 : decode cX3_house 22 = .ok (.goto 30, 3) := by decide +kernel
theorem dX3_house_25 : decode cX3_house 25 = .ok (.iload_n 1, 1) := by decide +kernel
theorem dX3_house_26 : decode cX3_house 26 = .ok (.ifCond .ne 10, 3) := by decide +kernel
theorem dX3_house_29 : decode cX3_house 29 = .ok (.aload_n 0, 1) := by decide +kernel
theorem dX3_house_30 : decode cX3_house 30 = .ok (.getfield 117, 3) := by decide +kernel
theorem dX3_house_33 : decode cX3_house 33 = .ok (.goto 19, 3) := by decide +kernel
theorem dX3_house_36 : decode cX3_house 36 = .ok (.iload_n 1, 1) := by decide +kernel
theorem dX3_house_37 : decode cX3_house 37 = .ok (.iconst 1, 1) := by decide +kernel
theorem dX3_house_38 : decode cX3_house 38 = .ok (.if_icmp .ne 10, 3) := by decide +kernel
theorem dX3_house_41 : decode cX3_house 41 = .ok (.aload_n 0, 1) := by decide +kernel
theorem dX3_house_42 : decode cX3_house 42 = .ok (.getfield 120, 3) := by decide +kernel
theorem dX3_house_45 : decode cX3_house 45 = .ok (.goto 7, 3) := by decide +kernel
theorem dX3_house_48 : decode cX3_house 48 = .ok (.aload_n 0, 1) := by decide +kernel
theorem dX3_house_49 : decode cX3_house 49 = .ok (.getfield 236, 3) := by decide +kernel
theorem dX3_house_52 : decode cX3_house 52 = .ok (.ireturn, 1) := by decide +kernel
theorem dX3_knock_0 : decode cX3_knock 0 = .ok (.aload_n 0, 1) := by decide +kernel
theorem dX3_knock_1 : decode cX3_knock 1 = .ok (.iconst 0, 1) := by decide +kernel
theorem dX3_knock_2 : decode cX3_knock 2 = .ok (.putfield 35, 3) := by decide +kernel
theorem dX3_knock_5 : decode cX3_knock 5 = .ok (.aload_n 0, 1) := by decide +kernel
theorem dX3_knock_6 : decode cX3_knock 6 = .ok (.dup, 1) := by decide +kernel
theorem dX3_knock_7 : decode cX3_knock 7 = .ok (.getfield 236, 3) := by decide +kernel
theorem dX3_knock_10 : decode cX3_knock 10 = .ok (.iconst 1, 1) := by decide +kernel
theorem dX3_knock_11 : decode cX3_knock 11 = .ok (.iadd, 1) := by decide +kernel
theorem dX3_knock_12 : decode cX3_knock 12 = .ok (.putfield 236, 3) := by decide +kernel
theorem dX3_knock_15 : decode cX3_knock 15 = .ok (.aload_n 0, 1) := by decide +kernel
theorem dX3_knock_16 : decode cX3_knock 16 = .ok (.getfield 236, 3) := by decide +kernel
theorem dX3_knock_19 : decode cX3_knock 19 = .ok (.ireturn, 1) := by decide +kernel
theorem dX3_areSpans_0 : decode cX3_areSpans 0 = .ok (.iconst 0, 1) := by decide +kernel
theorem dX3_areSpans_1 : decode cX3_areSpans 1 = .ok (.istore_n 1, 1) := by decide +kernel
theorem dX3_areSpans_2 : decode cX3_areSpans 2 = .ok (.iload_n 1, 1) := by decide +kernel
theorem dX3_areSpans_3 : decode cX3_areSpans 3 = .ok (.aload_n 0, 1) := by decide +kernel
theorem dX3_areSpans_4 : decode cX3_areSpans 4 = .ok (.getfield 56, 3) := by decide +kernel
theorem dX3_areSpans_7 : decode cX3_areSpans 7 = .ok (.if_icmp .ge 93, 3) := by decide +kernel
theorem dX3_areSpans_10 : decode cX3_areSpans 10 = .ok (.aload_n 0, 1) := by decide +kernel
theorem dX3_areSpans_11 : decode cX3_areSpans 11 = .ok (.aload_n 0, 1) := by decide +kernel
theorem dX3_areSpans_12 : decode cX3_areSpans 12 = .ok (.getfield 19, 3) := by decide +kernel
theorem dX3_areSpans_15 : decode cX3_areSpans 15 = .ok (.iload_n 1, 1) := by decide +kernel
theorem dX3_areSpans_16 : decode cX3_areSpans 16 = .ok (.laload, 1) := by decide +kernel
theorem dX3_areSpans_17 : decode cX3_areSpans 17 = .ok (.aload_n 0, 1) := by decide +kernel
theorem dX3_areSpans_18 : decode cX3_areSpans 18 = .ok (.getfield 22, 3) := by decide +kernel
theorem dX3_areSpans_21 : decode cX3_areSpans 21 = .ok (.iload_n 1, 1) := by decide +kernel
theorem dX3_areSpans_22 : decode cX3_areSpans 22 = .ok (.laload, 1) := by decide +kernel
theorem dX3_areSpans_23 : decode cX3_areSpans 23 = .ok (.invokevirtual 80, 3) := by decide +kernel
theorem dX3_areSpans_26 : decode cX3_areSpans 26 = .ok (.ifCond .ne 5, 3) := by decide +kernel
theorem dX3_areSpans_29 : decode cX3_areSpans 29 = .ok (.iconst 0, 1) := by decide +kernel
theorem dX3_areSpans_30 : decode cX3_areSpans 30 = .ok (.ireturn, 1) := by decide +kernel
theorem dX3_areSpans_31 : decode cX3_areSpans 31 = .ok (.iconst 0, 1) := by decide +kernel
theorem dX3_areSpans_32 : decode cX3_areSpans 32 = .ok (.istore_n 2, 1) := by decide +kernel
theorem dX3_areSpans_33 : decode cX3_areSpans 33 = .ok (.iload_n 2, 1) := by decide +kernel
theorem dX3_areSpans_34 : decode cX3_areSpans 34 = .ok (.iload_n 1, 1) := by decide +kernel
theorem dX3_areSpans_35 : decode cX3_areSpans 35 = .ok (.if_icmp .ge 59, 3) := by decide +kernel
theorem dX3_areSpans_38 : decode cX3_areSpans 38 = .ok (.aload_n 0, 1) := by decide +kernel
theorem dX3_areSpans_39 : decode cX3_areSpans 39 = .ok (.getfield 19, 3) := by decide +kernel
theorem dX3_areSpans_42 : decode cX3_areSpans 42 = .ok (.iload_n 1, 1) := by decide +kernel
theorem dX3_areSpans_43 : decode cX3_areSpans 43 = .ok (.laload, 1) := by decide +kernel
theorem dX3_areSpans_44 : decode cX3_areSpans 44 = .ok (.aload_n 0, 1) := by decide +kernel
theorem dX3_areSpans_45 : decode cX3_areSpans 45 = .ok (.getfield 22, 3) := by decide +kernel
theorem dX3_areSpans_48 : decode cX3_areSpans 48 = .ok (.iload_n 1, 1) := by decide +kernel
theorem dX3_areSpans_49 : decode cX3_areSpans 49 = .ok (.laload, 1) := by decide +kernel
theorem dX3_areSpans_50 : decode cX3_areSpans 50 = .ok (.aload_n 0, 1) := by decide +kernel
theorem dX3_areSpans_51 : decode cX3_areSpans 51 = .ok (.getfield 19, 3) := by decide +kernel
theorem dX3_areSpans_54 : decode cX3_areSpans 54 = .ok (.iload_n 2, 1) := by decide +kernel
theorem dX3_areSpans_55 : decode cX3_areSpans 55 = .ok (.laload, 1) := by decide +kernel
theorem dX3_areSpans_56 : decode cX3_areSpans 56 = .ok (.aload_n 0, 1) := by decide +kernel
theorem dX3_areSpans_57 : decode cX3_areSpans 57 = .ok (.getfield 22, 3) := by decide +kernel
theorem dX3_areSpans_60 : decode cX3_areSpans 60 = .ok (.iload_n 2, 1) := by decide +kernel
theorem dX3_areSpans_61 : decode cX3_areSpans 61 = .ok (.laload, 1) := by decide +kernel
theorem dX3_areSpans_62 : decode cX3_areSpans 62 = .ok (.invokestatic 59, 3) := by decide +kernel
theorem dX3_areSpans_65 : decode cX3_areSpans 65 = .ok (.ifCond .eq 23, 3) := by decide +kernel
theorem dX3_areSpans_68 : decode cX3_areSpans 68 = .ok (.aload_n 0, 1) := by decide +kernel
theorem dX3_areSpans_69 : decode cX3_areSpans 69 = .ok (.getfield 25, 3) := by decide +kernel
theorem dX3_areSpans_72 : decode cX3_areSpans 72 = .ok (.iload_n 1, 1) := by decide +kernel
theorem dX3_areSpans_73 : decode cX3_areSpans 73 = .ok (.baload, 1) := by decide +kernel
theorem dX3_areSpans_74 : decode cX3_areSpans 74 = .ok (.ifCond .ne 14, 3) := by decide +kernel
theorem dX3_areSpans_77 : decode cX3_areSpans 77 = .ok (.aload_n 0, 1) := by decide +kernel
theorem dX3_areSpans_78 : decode cX3_areSpans 78 = .ok (.getfield 25, 3) := by decide +kernel
theorem dX3_areSpans_81 : decode cX3_areSpans 81 = .ok (.iload_n 2, 1) := by decide +kernel
theorem dX3_areSpans_82 : decode cX3_areSpans 82 = .ok (.baload, 1) := by decide +kernel
theorem dX3_areSpans_83 : decode cX3_areSpans 83 = .ok (.ifCond .ne 5, 3) := by decide +kernel
theorem dX3_areSpans_86 : decode cX3_areSpans 86 = .ok (.iconst 0, 1) := by decide +kernel
theorem dX3_areSpans_87 : decode cX3_areSpans 87 = .ok (.ireturn, 1) := by decide +kernel
theorem dX3_areSpans_88 : decode cX3_areSpans 88 = .ok (.iinc 2 1, 3) := by decide +kernel
theorem dX3_areSpans_91 : decode cX3_areSpans 91 = .ok (.goto (-58), 3) := by decide +kernel
theorem dX3_areSpans_94 : decode cX3_areSpans 94 = .ok (.iinc 1 1, 3) := by decide +kernel
theorem dX3_areSpans_97 : decode cX3_areSpans 97 = .ok (.goto (-95), 3) := by decide +kernel
theorem dX3_areSpans_100 : decode cX3_areSpans 100 = .ok (.aload_n 0, 1) := by decide +kernel
theorem dX3_areSpans_101 : decode cX3_areSpans 101 = .ok (.invokevirtual 66, 3) := by decide +kernel
theorem dX3_areSpans_104 : decode cX3_areSpans 104 = .ok (.astore_n 1, 1) := by decide +kernel
theorem dX3_areSpans_105 : decode cX3_areSpans 105 = .ok (.iconst 0, 1) := by decide +kernel
theorem dX3_areSpans_106 : decode cX3_areSpans 106 = .ok (.istore_n 2, 1) := by decide +kernel
theorem dX3_areSpans_107 : decode cX3_areSpans 107 = .ok (.iload_n 2, 1) := by decide +kernel
theorem dX3_areSpans_108 : decode cX3_areSpans 108 = .ok (.aload_n 1, 1) := by decide +kernel
theorem dX3_areSpans_109 : decode cX3_areSpans 109 = .ok (.invokestatic 70, 3) := by decide +kernel
theorem dX3_areSpans_112 : decode cX3_areSpans 112 = .ok (.if_icmp .ge 31, 3) := by decide +kernel
theorem dX3_areSpans_115 : decode cX3_areSpans 115 = .ok (.aload_n 0, 1) := by decide +kernel
theorem dX3_areSpans_116 : decode cX3_areSpans 116 = .ok (.aload_n 1, 1) := by decide +kernel
theorem dX3_areSpans_117 : decode cX3_areSpans 117 = .ok (.iconst 2, 1) := by decide +kernel
theorem dX3_areSpans_118 : decode cX3_areSpans 118 = .ok (.iload_n 2, 1) := by decide +kernel
theorem dX3_areSpans_119 : decode cX3_areSpans 119 = .ok (.imul, 1) := by decide +kernel
theorem dX3_areSpans_120 : decode cX3_areSpans 120 = .ok (.laload, 1) := by decide +kernel
theorem dX3_areSpans_121 : decode cX3_areSpans 121 = .ok (.aload_n 1, 1) := by decide +kernel
theorem dX3_areSpans_122 : decode cX3_areSpans 122 = .ok (.iconst 2, 1) := by decide +kernel
theorem dX3_areSpans_123 : decode cX3_areSpans 123 = .ok (.iload_n 2, 1) := by decide +kernel
theorem dX3_areSpans_124 : decode cX3_areSpans 124 = .ok (.imul, 1) := by decide +kernel
theorem dX3_areSpans_125 : decode cX3_areSpans 125 = .ok (.iconst 1, 1) := by decide +kernel
theorem dX3_areSpans_126 : decode cX3_areSpans 126 = .ok (.iadd, 1) := by decide +kernel
theorem dX3_areSpans_127 : decode cX3_areSpans 127 = .ok (.laload, 1) := by decide +kernel
theorem dX3_areSpans_128 : decode cX3_areSpans 128 = .ok (.iconst (-1), 1) := by decide +kernel
theorem dX3_areSpans_129 : decode cX3_areSpans 129 = .ok (.invokevirtual 84, 3) := by decide +kernel
theorem dX3_areSpans_132 : decode cX3_areSpans 132 = .ok (.ifCond .eq 5, 3) := by decide +kernel
theorem dX3_areSpans_135 : decode cX3_areSpans 135 = .ok (.iconst 0, 1) := by decide +kernel
theorem dX3_areSpans_136 : decode cX3_areSpans 136 = .ok (.ireturn, 1) := by decide +kernel
theorem dX3_areSpans_137 : decode cX3_areSpans 137 = .ok (.iinc 2 1, 3) := by decide +kernel
theorem dX3_areSpans_140 : decode cX3_areSpans 140 = .ok (.goto (-33), 3) := by decide +kernel
theorem dX3_areSpans_143 : decode cX3_areSpans 143 = .ok (.iconst 1, 1) := by decide +kernel
theorem dX3_areSpans_144 : decode cX3_areSpans 144 = .ok (.ireturn, 1) := by decide +kernel
theorem dX3_isSound_0 : decode cX3_isSound 0 = .ok (.aload_n 0, 1) := by decide +kernel
theorem dX3_isSound_1 : decode cX3_isSound 1 = .ok (.iconst 0, 1) := by decide +kernel
theorem dX3_isSound_2 : decode cX3_isSound 2 = .ok (.putfield 35, 3) := by decide +kernel
theorem dX3_isSound_5 : decode cX3_isSound 5 = .ok (.aload_n 0, 1) := by decide +kernel
theorem dX3_isSound_6 : decode cX3_isSound 6 = .ok (.invokevirtual 227, 3) := by decide +kernel
theorem dX3_isSound_9 : decode cX3_isSound 9 = .ok (.istore_n 1, 1) := by decide +kernel
theorem dX3_isSound_10 : decode cX3_isSound 10 = .ok (.aload_n 0, 1) := by decide +kernel
theorem dX3_isSound_11 : decode cX3_isSound 11 = .ok (.getfield 53, 3) := by decide +kernel
theorem dX3_isSound_14 : decode cX3_isSound 14 = .ok (.aload_n 0, 1) := by decide +kernel
theorem dX3_isSound_15 : decode cX3_isSound 15 = .ok (.getfield 15, 3) := by decide +kernel
theorem dX3_isSound_18 : decode cX3_isSound 18 = .ok (.lcmp, 1) := by decide +kernel
theorem dX3_isSound_19 : decode cX3_isSound 19 = .ok (.ifCond .ge 77, 3) := by decide +kernel
theorem dX3_isSound_22 : decode cX3_isSound 22 = .ok (.aload_n 0, 1) := by decide +kernel
theorem dX3_isSound_23 : decode cX3_isSound 23 = .ok (.invokevirtual 239, 3) := by decide +kernel
theorem dX3_isSound_26 : decode cX3_isSound 26 = .ok (.ifCond .eq 70, 3) := by decide +kernel
theorem dX3_isSound_29 : decode cX3_isSound 29 = .ok (.aload_n 0, 1) := by decide +kernel
theorem dX3_isSound_30 : decode cX3_isSound 30 = .ok (.invokevirtual 220, 3) := by decide +kernel
theorem dX3_isSound_33 : decode cX3_isSound 33 = .ok (.aload_n 0, 1) := by decide +kernel
theorem dX3_isSound_34 : decode cX3_isSound 34 = .ok (.invokevirtual 224, 3) := by decide +kernel
theorem dX3_isSound_37 : decode cX3_isSound 37 = .ok (.ladd, 1) := by decide +kernel
theorem dX3_isSound_38 : decode cX3_isSound 38 = .ok (.aload_n 0, 1) := by decide +kernel
theorem dX3_isSound_39 : decode cX3_isSound 39 = .ok (.getfield 15, 3) := by decide +kernel
theorem dX3_isSound_42 : decode cX3_isSound 42 = .ok (.aload_n 0, 1) := by decide +kernel
theorem dX3_isSound_43 : decode cX3_isSound 43 = .ok (.getfield 53, 3) := by decide +kernel
theorem dX3_isSound_46 : decode cX3_isSound 46 = .ok (.lsub, 1) := by decide +kernel
theorem dX3_isSound_47 : decode cX3_isSound 47 = .ok (.lcmp, 1) := by decide +kernel
theorem dX3_isSound_48 : decode cX3_isSound 48 = .ok (.ifCond .ne 48, 3) := by decide +kernel
theorem dX3_isSound_51 : decode cX3_isSound 51 = .ok (.aload_n 0, 1) := by decide +kernel
theorem dX3_isSound_52 : decode cX3_isSound 52 = .ok (.iload_n 1, 1) := by decide +kernel
theorem dX3_isSound_53 : decode cX3_isSound 53 = .ok (.invokevirtual 95, 3) := by decide +kernel
theorem dX3_isSound_56 : decode cX3_isSound 56 = .ok (.ifCond .eq 40, 3) := by decide +kernel
theorem dX3_isSound_59 : decode cX3_isSound 59 = .ok (.iload_n 1, 1) := by decide +kernel
theorem dX3_isSound_60 : decode cX3_isSound 60 = .ok (.invokestatic 99, 3) := by decide +kernel
theorem dX3_isSound_63 : decode cX3_isSound 63 = .ok (.aload_n 0, 1) := by decide +kernel
theorem dX3_isSound_64 : decode cX3_isSound 64 = .ok (.invokevirtual 230, 3) := by decide +kernel
theorem dX3_isSound_67 : decode cX3_isSound 67 = .ok (.if_icmp .ne 29, 3) := by decide +kernel
theorem dX3_isSound_70 : decode cX3_isSound 70 = .ok (.aload_n 0, 1) := by decide +kernel
theorem dX3_isSound_71 : decode cX3_isSound 71 = .ok (.invokevirtual 233, 3) := by decide +kernel
theorem dX3_isSound_74 : decode cX3_isSound 74 = .ok (.aload_n 0, 1) := by decide +kernel
theorem dX3_isSound_75 : decode cX3_isSound 75 = .ok (.getfield 29, 3) := by decide +kernel
theorem dX3_isSound_78 : decode cX3_isSound 78 = .ok (.aload_n 0, 1) := by decide +kernel
theorem dX3_isSound_79 : decode cX3_isSound 79 = .ok (.getfield 32, 3) := by decide +kernel
theorem dX3_isSound_82 : decode cX3_isSound 82 = .ok (.aload_n 0, 1) := by decide +kernel
theorem dX3_isSound_83 : decode cX3_isSound 83 = .ok (.getfield 88, 3) := by decide +kernel
theorem dX3_isSound_86 : decode cX3_isSound 86 = .ok (.invokestatic 216, 3) := by decide +kernel
theorem dX3_isSound_89 : decode cX3_isSound 89 = .ok (.if_icmp .ne 7, 3) := by decide +kernel
theorem dX3_isSound_92 : decode cX3_isSound 92 = .ok (.iconst 1, 1) := by decide +kernel
theorem dX3_isSound_93 : decode cX3_isSound 93 = .ok (.goto 4, 3) := by decide +kernel
theorem dX3_isSound_96 : decode cX3_isSound 96 = .ok (.iconst 0, 1) := by decide +kernel
theorem dX3_isSound_97 : decode cX3_isSound 97 = .ok (.ireturn, 1) := by decide +kernel
theorem dX3_added_0 : decode cX3_added 0 = .ok (.lload_n 1, 1) := by decide +kernel
theorem dX3_added_1 : decode cX3_added 1 = .ok (.ldc2_w 243, 3) := by decide +kernel
theorem dX3_added_4 : decode cX3_added 4 = .ok (.lmul, 1) := by decide +kernel
theorem dX3_added_5 : decode cX3_added 5 = .ok (.aload_n 3, 1) := by decide +kernel
theorem dX3_added_6 : decode cX3_added 6 = .ok (.iload 5, 2) := by decide +kernel
theorem dX3_added_8 : decode cX3_added 8 = .ok (.laload, 1) := by decide +kernel
theorem dX3_added_9 : decode cX3_added 9 = .ok (.invokestatic 43, 3) := by decide +kernel
theorem dX3_added_12 : decode cX3_added 12 = .ok (.i2l, 1) := by decide +kernel
theorem dX3_added_13 : decode cX3_added 13 = .ok (.ladd, 1) := by decide +kernel
theorem dX3_added_14 : decode cX3_added 14 = .ok (.ldc2_w 243, 3) := by decide +kernel
theorem dX3_added_17 : decode cX3_added 17 = .ok (.lmul, 1) := by decide +kernel
theorem dX3_added_18 : decode cX3_added 18 = .ok (.aload_n 3, 1) := by decide +kernel
theorem dX3_added_19 : decode cX3_added 19 = .ok (.iload 5, 2) := by decide +kernel
theorem dX3_added_21 : decode cX3_added 21 = .ok (.laload, 1) := by decide +kernel
theorem dX3_added_22 : decode cX3_added 22 = .ok (.invokestatic 188, 3) := by decide +kernel
theorem dX3_added_25 : decode cX3_added 25 = .ok (.i2l, 1) := by decide +kernel
theorem dX3_added_26 : decode cX3_added 26 = .ok (.ladd, 1) := by decide +kernel
theorem dX3_added_27 : decode cX3_added 27 = .ok (.lstore 6, 2) := by decide +kernel
theorem dX3_added_29 : decode cX3_added 29 = .ok (.lload 6, 2) := by decide +kernel
theorem dX3_added_31 : decode cX3_added 31 = .ok (.ldc2_w 243, 3) := by decide +kernel
theorem dX3_added_34 : decode cX3_added 34 = .ok (.lmul, 1) := by decide +kernel
theorem dX3_added_35 : decode cX3_added 35 = .ok (.aload 4, 2) := by decide +kernel
theorem dX3_added_37 : decode cX3_added 37 = .ok (.iload 5, 2) := by decide +kernel
theorem dX3_added_39 : decode cX3_added 39 = .ok (.laload, 1) := by decide +kernel
theorem dX3_added_40 : decode cX3_added 40 = .ok (.invokestatic 43, 3) := by decide +kernel
theorem dX3_added_43 : decode cX3_added 43 = .ok (.i2l, 1) := by decide +kernel
theorem dX3_added_44 : decode cX3_added 44 = .ok (.ladd, 1) := by decide +kernel
theorem dX3_added_45 : decode cX3_added 45 = .ok (.ldc2_w 243, 3) := by decide +kernel
theorem dX3_added_48 : decode cX3_added 48 = .ok (.lmul, 1) := by decide +kernel
theorem dX3_added_49 : decode cX3_added 49 = .ok (.aload 4, 2) := by decide +kernel
theorem dX3_added_51 : decode cX3_added 51 = .ok (.iload 5, 2) := by decide +kernel
theorem dX3_added_53 : decode cX3_added 53 = .ok (.laload, 1) := by decide +kernel
theorem dX3_added_54 : decode cX3_added 54 = .ok (.invokestatic 188, 3) := by decide +kernel
theorem dX3_added_57 : decode cX3_added 57 = .ok (.i2l, 1) := by decide +kernel
theorem dX3_added_58 : decode cX3_added 58 = .ok (.ladd, 1) := by decide +kernel
theorem dX3_added_59 : decode cX3_added 59 = .ok (.lreturn, 1) := by decide +kernel
theorem dX3_digest_0 : decode cX3_digest 0 = .ok (.ldc2_w 245, 3) := by decide +kernel
theorem dX3_digest_3 : decode cX3_digest 3 = .ok (.lstore_n 1, 1) := by decide +kernel
theorem dX3_digest_4 : decode cX3_digest 4 = .ok (.iconst 0, 1) := by decide +kernel
theorem dX3_digest_5 : decode cX3_digest 5 = .ok (.istore_n 3, 1) := by decide +kernel
theorem dX3_digest_6 : decode cX3_digest 6 = .ok (.iload_n 3, 1) := by decide +kernel
theorem dX3_digest_7 : decode cX3_digest 7 = .ok (.iconst 4, 1) := by decide +kernel
theorem dX3_digest_8 : decode cX3_digest 8 = .ok (.if_icmp .ge 57, 3) := by decide +kernel
theorem dX3_digest_11 : decode cX3_digest 11 = .ok (.lload_n 1, 1) := by decide +kernel
theorem dX3_digest_12 : decode cX3_digest 12 = .ok (.ldc2_w 243, 3) := by decide +kernel
theorem dX3_digest_15 : decode cX3_digest 15 = .ok (.lmul, 1) := by decide +kernel
theorem dX3_digest_16 : decode cX3_digest 16 = .ok (.aload_n 0, 1) := by decide +kernel
theorem dX3_digest_17 : decode cX3_digest 17 = .ok (.iload_n 3, 1) := by decide +kernel
theorem dX3_digest_18 : decode cX3_digest 18 = .ok (.invokevirtual 247, 3) := by decide +kernel
theorem dX3_digest_21 : decode cX3_digest 21 = .ok (.i2l, 1) := by decide +kernel
theorem dX3_digest_22 : decode cX3_digest 22 = .ok (.ladd, 1) := by decide +kernel
theorem dX3_digest_23 : decode cX3_digest 23 = .ok (.ldc2_w 243, 3) := by decide +kernel
theorem dX3_digest_26 : decode cX3_digest 26 = .ok (.lmul, 1) := by decide +kernel
theorem dX3_digest_27 : decode cX3_digest 27 = .ok (.aload_n 0, 1) := by decide +kernel
theorem dX3_digest_28 : decode cX3_digest 28 = .ok (.iload_n 3, 1) := by decide +kernel
theorem dX3_digest_29 : decode cX3_digest 29 = .ok (.invokevirtual 250, 3) := by decide +kernel
theorem dX3_digest_32 : decode cX3_digest 32 = .ok (.i2l, 1) := by decide +kernel
theorem dX3_digest_33 : decode cX3_digest 33 = .ok (.ladd, 1) := by decide +kernel
theorem dX3_digest_34 : decode cX3_digest 34 = .ok (.lstore_n 1, 1) := by decide +kernel
theorem dX3_digest_35 : decode cX3_digest 35 = .ok (.lload_n 1, 1) := by decide +kernel
theorem dX3_digest_36 : decode cX3_digest 36 = .ok (.ldc2_w 243, 3) := by decide +kernel
theorem dX3_digest_39 : decode cX3_digest 39 = .ok (.lmul, 1) := by decide +kernel
theorem dX3_digest_40 : decode cX3_digest 40 = .ok (.aload_n 0, 1) := by decide +kernel
theorem dX3_digest_41 : decode cX3_digest 41 = .ok (.iload_n 3, 1) := by decide +kernel
theorem dX3_digest_42 : decode cX3_digest 42 = .ok (.invokevirtual 253, 3) := by decide +kernel
theorem dX3_digest_45 : decode cX3_digest 45 = .ok (.i2l, 1) := by decide +kernel
theorem dX3_digest_46 : decode cX3_digest 46 = .ok (.ladd, 1) := by decide +kernel
theorem dX3_digest_47 : decode cX3_digest 47 = .ok (.ldc2_w 243, 3) := by decide +kernel
theorem dX3_digest_50 : decode cX3_digest 50 = .ok (.lmul, 1) := by decide +kernel
theorem dX3_digest_51 : decode cX3_digest 51 = .ok (.aload_n 0, 1) := by decide +kernel
theorem dX3_digest_52 : decode cX3_digest 52 = .ok (.iload_n 3, 1) := by decide +kernel
theorem dX3_digest_53 : decode cX3_digest 53 = .ok (.invokevirtual 256, 3) := by decide +kernel
theorem dX3_digest_56 : decode cX3_digest 56 = .ok (.i2l, 1) := by decide +kernel
theorem dX3_digest_57 : decode cX3_digest 57 = .ok (.ladd, 1) := by decide +kernel
theorem dX3_digest_58 : decode cX3_digest 58 = .ok (.lstore_n 1, 1) := by decide +kernel
theorem dX3_digest_59 : decode cX3_digest 59 = .ok (.iinc 3 1, 3) := by decide +kernel
theorem dX3_digest_62 : decode cX3_digest 62 = .ok (.goto (-56), 3) := by decide +kernel
theorem dX3_digest_65 : decode cX3_digest 65 = .ok (.iconst 0, 1) := by decide +kernel
theorem dX3_digest_66 : decode cX3_digest 66 = .ok (.istore_n 3, 1) := by decide +kernel
theorem dX3_digest_67 : decode cX3_digest 67 = .ok (.iload_n 3, 1) := by decide +kernel
theorem dX3_digest_68 : decode cX3_digest 68 = .ok (.iconst 4, 1) := by decide +kernel
theorem dX3_digest_69 : decode cX3_digest 69 = .ok (.if_icmp .ge 22, 3) := by decide +kernel
theorem dX3_digest_72 : decode cX3_digest 72 = .ok (.lload_n 1, 1) := by decide +kernel
theorem dX3_digest_73 : decode cX3_digest 73 = .ok (.ldc2_w 243, 3) := by decide +kernel
theorem dX3_digest_76 : decode cX3_digest 76 = .ok (.lmul, 1) := by decide +kernel
theorem dX3_digest_77 : decode cX3_digest 77 = .ok (.aload_n 0, 1) := by decide +kernel
theorem dX3_digest_78 : decode cX3_digest 78 = .ok (.iload_n 3, 1) := by decide +kernel
theorem dX3_digest_79 : decode cX3_digest 79 = .ok (.invokevirtual 259, 3) := by decide +kernel
theorem dX3_digest_82 : decode cX3_digest 82 = .ok (.i2l, 1) := by decide +kernel
theorem dX3_digest_83 : decode cX3_digest 83 = .ok (.ladd, 1) := by decide +kernel
theorem dX3_digest_84 : decode cX3_digest 84 = .ok (.lstore_n 1, 1) := by decide +kernel
theorem dX3_digest_85 : decode cX3_digest 85 = .ok (.iinc 3 1, 3) := by decide +kernel
theorem dX3_digest_88 : decode cX3_digest 88 = .ok (.goto (-21), 3) := by decide +kernel
theorem dX3_digest_91 : decode cX3_digest 91 = .ok (.lload_n 1, 1) := by decide +kernel
theorem dX3_digest_92 : decode cX3_digest 92 = .ok (.ldc2_w 243, 3) := by decide +kernel
theorem dX3_digest_95 : decode cX3_digest 95 = .ok (.lmul, 1) := by decide +kernel
theorem dX3_digest_96 : decode cX3_digest 96 = .ok (.aload_n 0, 1) := by decide +kernel
theorem dX3_digest_97 : decode cX3_digest 97 = .ok (.getfield 56, 3) := by decide +kernel
theorem dX3_digest_100 : decode cX3_digest 100 = .ok (.i2l, 1) := by decide +kernel
theorem dX3_digest_101 : decode cX3_digest 101 = .ok (.ladd, 1) := by decide +kernel
theorem dX3_digest_102 : decode cX3_digest 102 = .ok (.lstore_n 1, 1) := by decide +kernel
theorem dX3_digest_103 : decode cX3_digest 103 = .ok (.iconst 0, 1) := by decide +kernel
theorem dX3_digest_104 : decode cX3_digest 104 = .ok (.istore_n 3, 1) := by decide +kernel
theorem dX3_digest_105 : decode cX3_digest 105 = .ok (.iload_n 3, 1) := by decide +kernel
theorem dX3_digest_106 : decode cX3_digest 106 = .ok (.aload_n 0, 1) := by decide +kernel
theorem dX3_digest_107 : decode cX3_digest 107 = .ok (.getfield 56, 3) := by decide +kernel
theorem dX3_digest_110 : decode cX3_digest 110 = .ok (.if_icmp .ge 44, 3) := by decide +kernel
theorem dX3_digest_113 : decode cX3_digest 113 = .ok (.aload_n 0, 1) := by decide +kernel
theorem dX3_digest_114 : decode cX3_digest 114 = .ok (.lload_n 1, 1) := by decide +kernel
theorem dX3_digest_115 : decode cX3_digest 115 = .ok (.aload_n 0, 1) := by decide +kernel
theorem dX3_digest_116 : decode cX3_digest 116 = .ok (.getfield 19, 3) := by decide +kernel
theorem dX3_digest_119 : decode cX3_digest 119 = .ok (.aload_n 0, 1) := by decide +kernel
theorem dX3_digest_120 : decode cX3_digest 120 = .ok (.getfield 22, 3) := by decide +kernel
theorem dX3_digest_123 : decode cX3_digest 123 = .ok (.iload_n 3, 1) := by decide +kernel
theorem dX3_digest_124 : decode cX3_digest 124 = .ok (.invokevirtual 262, 3) := by decide +kernel
theorem dX3_digest_127 : decode cX3_digest 127 = .ok (.ldc2_w 243, 3) := by decide +kernel
theorem dX3_digest_130 : decode cX3_digest 130 = .ok (.lmul, 1) := by decide +kernel
theorem dX3_digest_131 : decode cX3_digest 131 = .ok (.aload_n 0, 1) := by decide +kernel
theorem dX3_digest_132 : decode cX3_digest 132 = .ok (.getfield 25, 3) := by decide +kernel
theorem dX3_digest_135 : decode cX3_digest 135 = .ok (.iload_n 3, 1) := by decide +kernel
theorem dX3_digest_136 : decode cX3_digest 136 = .ok (.baload, 1) := by decide +kernel
theorem dX3_digest_137 : decode cX3_digest 137 = .ok (.ifCond .eq 7, 3) := by decide +kernel
theorem dX3_digest_140 : decode cX3_digest 140 = .ok (.iconst 1, 1) := by decide +kernel
theorem dX3_digest_141 : decode cX3_digest 141 = .ok (.goto 4, 3) := by decide +kernel
theorem dX3_digest_144 : decode cX3_digest 144 = .ok (.iconst 0, 1) := by decide +kernel
theorem dX3_digest_145 : decode cX3_digest 145 = .ok (.i2l, 1) := by decide +kernel
theorem dX3_digest_146 : decode cX3_digest 146 = .ok (.ladd, 1) := by decide +kernel
theorem dX3_digest_147 : decode cX3_digest 147 = .ok (.lstore_n 1, 1) := by decide +kernel
theorem dX3_digest_148 : decode cX3_digest 148 = .ok (.iinc 3 1, 3) := by decide +kernel
theorem dX3_digest_151 : decode cX3_digest 151 = .ok (.goto (-46), 3) := by decide +kernel
theorem dX3_digest_154 : decode cX3_digest 154 = .ok (.lload_n 1, 1) := by decide +kernel
theorem dX3_digest_155 : decode cX3_digest 155 = .ok (.ldc2_w 243, 3) := by decide +kernel
theorem dX3_digest_158 : decode cX3_digest 158 = .ok (.lmul, 1) := by decide +kernel
theorem dX3_digest_159 : decode cX3_digest 159 = .ok (.aload_n 0, 1) := by decide +kernel
theorem dX3_digest_160 : decode cX3_digest 160 = .ok (.invokevirtual 266, 3) := by decide +kernel
theorem dX3_digest_163 : decode cX3_digest 163 = .ok (.i2l, 1) := by decide +kernel
theorem dX3_digest_164 : decode cX3_digest 164 = .ok (.ladd, 1) := by decide +kernel
theorem dX3_digest_165 : decode cX3_digest 165 = .ok (.ldc2_w 243, 3) := by decide +kernel
theorem dX3_digest_168 : decode cX3_digest 168 = .ok (.lmul, 1) := by decide +kernel
theorem dX3_digest_169 : decode cX3_digest 169 = .ok (.aload_n 0, 1) := by decide +kernel
theorem dX3_digest_170 : decode cX3_digest 170 = .ok (.invokevirtual 269, 3) := by decide +kernel
theorem dX3_digest_173 : decode cX3_digest 173 = .ok (.i2l, 1) := by decide +kernel
theorem dX3_digest_174 : decode cX3_digest 174 = .ok (.ladd, 1) := by decide +kernel
theorem dX3_digest_175 : decode cX3_digest 175 = .ok (.ldc2_w 243, 3) := by decide +kernel
theorem dX3_digest_178 : decode cX3_digest 178 = .ok (.lmul, 1) := by decide +kernel
theorem dX3_digest_179 : decode cX3_digest 179 = .ok (.aload_n 0, 1) := by decide +kernel
theorem dX3_digest_180 : decode cX3_digest 180 = .ok (.invokevirtual 271, 3) := by decide +kernel
theorem dX3_digest_183 : decode cX3_digest 183 = .ok (.i2l, 1) := by decide +kernel
theorem dX3_digest_184 : decode cX3_digest 184 = .ok (.ladd, 1) := by decide +kernel
theorem dX3_digest_185 : decode cX3_digest 185 = .ok (.lstore_n 1, 1) := by decide +kernel
theorem dX3_digest_186 : decode cX3_digest 186 = .ok (.iconst 0, 1) := by decide +kernel
theorem dX3_digest_187 : decode cX3_digest 187 = .ok (.istore_n 3, 1) := by decide +kernel
theorem dX3_digest_188 : decode cX3_digest 188 = .ok (.iload_n 3, 1) := by decide +kernel
theorem dX3_digest_189 : decode cX3_digest 189 = .ok (.aload_n 0, 1) := by decide +kernel
theorem dX3_digest_190 : decode cX3_digest 190 = .ok (.invokevirtual 271, 3) := by decide +kernel
theorem dX3_digest_193 : decode cX3_digest 193 = .ok (.if_icmp .ge 39, 3) := by decide +kernel
theorem dX3_digest_196 : decode cX3_digest 196 = .ok (.iconst 0, 1) := by decide +kernel
theorem dX3_digest_197 : decode cX3_digest 197 = .ok (.istore 4, 2) := by decide +kernel
theorem dX3_digest_199 : decode cX3_digest 199 = .ok (.iload 4, 2) := by decide +kernel
theorem dX3_digest_201 : decode cX3_digest 201 = .ok (.iconst 4, 1) := by decide +kernel
theorem dX3_digest_202 : decode cX3_digest 202 = .ok (.if_icmp .ge 24, 3) := by decide +kernel
theorem dX3_digest_205 : decode cX3_digest 205 = .ok (.lload_n 1, 1) := by decide +kernel
theorem dX3_digest_206 : decode cX3_digest 206 = .ok (.ldc2_w 243, 3) := by decide +kernel
theorem dX3_digest_209 : decode cX3_digest 209 = .ok (.lmul, 1) := by decide +kernel
theorem dX3_digest_210 : decode cX3_digest 210 = .ok (.aload_n 0, 1) := by decide +kernel
theorem dX3_digest_211 : decode cX3_digest 211 = .ok (.iload_n 3, 1) := by decide +kernel
theorem dX3_digest_212 : decode cX3_digest 212 = .ok (.iload 4, 2) := by decide +kernel
theorem dX3_digest_214 : decode cX3_digest 214 = .ok (.invokevirtual 274, 3) := by decide +kernel
theorem dX3_digest_217 : decode cX3_digest 217 = .ok (.i2l, 1) := by decide +kernel
theorem dX3_digest_218 : decode cX3_digest 218 = .ok (.ladd, 1) := by decide +kernel
theorem dX3_digest_219 : decode cX3_digest 219 = .ok (.lstore_n 1, 1) := by decide +kernel
theorem dX3_digest_220 : decode cX3_digest 220 = .ok (.iinc 4 1, 3) := by decide +kernel
theorem dX3_digest_223 : decode cX3_digest 223 = .ok (.goto (-24), 3) := by decide +kernel
theorem dX3_digest_226 : decode cX3_digest 226 = .ok (.iinc 3 1, 3) := by decide +kernel
theorem dX3_digest_229 : decode cX3_digest 229 = .ok (.goto (-41), 3) := by decide +kernel
theorem dX3_digest_232 : decode cX3_digest 232 = .ok (.iconst 0, 1) := by decide +kernel
theorem dX3_digest_233 : decode cX3_digest 233 = .ok (.istore_n 3, 1) := by decide +kernel
theorem dX3_digest_234 : decode cX3_digest 234 = .ok (.iload_n 3, 1) := by decide +kernel
theorem dX3_digest_235 : decode cX3_digest 235 = .ok (.bipush 6, 2) := by decide +kernel
theorem dX3_digest_237 : decode cX3_digest 237 = .ok (.if_icmp .ge 22, 3) := by decide +kernel
theorem dX3_digest_240 : decode cX3_digest 240 = .ok (.lload_n 1, 1) := by decide +kernel
theorem dX3_digest_241 : decode cX3_digest 241 = .ok (.ldc2_w 243, 3) := by decide +kernel
theorem dX3_digest_244 : decode cX3_digest 244 = .ok (.lmul, 1) := by decide +kernel
theorem dX3_digest_245 : decode cX3_digest 245 = .ok (.aload_n 0, 1) := by decide +kernel
theorem dX3_digest_246 : decode cX3_digest 246 = .ok (.iload_n 3, 1) := by decide +kernel
theorem dX3_digest_247 : decode cX3_digest 247 = .ok (.invokevirtual 277, 3) := by decide +kernel
theorem dX3_digest_250 : decode cX3_digest 250 = .ok (.i2l, 1) := by decide +kernel
theorem dX3_digest_251 : decode cX3_digest 251 = .ok (.ladd, 1) := by decide +kernel
theorem dX3_digest_252 : decode cX3_digest 252 = .ok (.lstore_n 1, 1) := by decide +kernel
theorem dX3_digest_253 : decode cX3_digest 253 = .ok (.iinc 3 1, 3) := by decide +kernel
theorem dX3_digest_256 : decode cX3_digest 256 = .ok (.goto (-22), 3) := by decide +kernel
theorem dX3_digest_259 : decode cX3_digest 259 = .ok (.lload_n 1, 1) := by decide +kernel
theorem dX3_digest_260 : decode cX3_digest 260 = .ok (.ldc2_w 243, 3) := by decide +kernel
theorem dX3_digest_263 : decode cX3_digest 263 = .ok (.lmul, 1) := by decide +kernel
theorem dX3_digest_264 : decode cX3_digest 264 = .ok (.aload_n 0, 1) := by decide +kernel
theorem dX3_digest_265 : decode cX3_digest 265 = .ok (.getfield 88, 3) := by decide +kernel
theorem dX3_digest_268 : decode cX3_digest 268 = .ok (.i2l, 1) := by decide +kernel
theorem dX3_digest_269 : decode cX3_digest 269 = .ok (.ladd, 1) := by decide +kernel
theorem dX3_digest_270 : decode cX3_digest 270 = .ok (.lstore_n 1, 1) := by decide +kernel
theorem dX3_digest_271 : decode cX3_digest 271 = .ok (.aload_n 0, 1) := by decide +kernel
theorem dX3_digest_272 : decode cX3_digest 272 = .ok (.invokevirtual 107, 3) := by decide +kernel
theorem dX3_digest_275 : decode cX3_digest 275 = .ok (.astore_n 3, 1) := by decide +kernel
theorem dX3_digest_276 : decode cX3_digest 276 = .ok (.iconst 0, 1) := by decide +kernel
theorem dX3_digest_277 : decode cX3_digest 277 = .ok (.istore 4, 2) := by decide +kernel
theorem dX3_digest_279 : decode cX3_digest 279 = .ok (.iload 4, 2) := by decide +kernel
theorem dX3_digest_281 : decode cX3_digest 281 = .ok (.aload_n 0, 1) := by decide +kernel
theorem dX3_digest_282 : decode cX3_digest 282 = .ok (.getfield 88, 3) := by decide +kernel
theorem dX3_digest_285 : decode cX3_digest 285 = .ok (.if_icmp .ge 35, 3) := by decide +kernel
theorem dX3_digest_288 : decode cX3_digest 288 = .ok (.aload_n 0, 1) := by decide +kernel
theorem dX3_digest_289 : decode cX3_digest 289 = .ok (.lload_n 1, 1) := by decide +kernel
theorem dX3_digest_290 : decode cX3_digest 290 = .ok (.aload_n 0, 1) := by decide +kernel
theorem dX3_digest_291 : decode cX3_digest 291 = .ok (.getfield 29, 3) := by decide +kernel
theorem dX3_digest_294 : decode cX3_digest 294 = .ok (.aload_n 0, 1) := by decide +kernel
theorem dX3_digest_295 : decode cX3_digest 295 = .ok (.getfield 32, 3) := by decide +kernel
theorem dX3_digest_298 : decode cX3_digest 298 = .ok (.iload 4, 2) := by decide +kernel
theorem dX3_digest_300 : decode cX3_digest 300 = .ok (.invokevirtual 262, 3) := by decide +kernel
theorem dX3_digest_303 : decode cX3_digest 303 = .ok (.ldc2_w 243, 3) := by decide +kernel
theorem dX3_digest_306 : decode cX3_digest 306 = .ok (.lmul, 1) := by decide +kernel
theorem dX3_digest_307 : decode cX3_digest 307 = .ok (.aload_n 3, 1) := by decide +kernel
theorem dX3_digest_308 : decode cX3_digest 308 = .ok (.iload 4, 2) := by decide +kernel
theorem dX3_digest_310 : decode cX3_digest 310 = .ok (.iaload, 1) := by decide +kernel
theorem dX3_digest_311 : decode cX3_digest 311 = .ok (.i2l, 1) := by decide +kernel
theorem dX3_digest_312 : decode cX3_digest 312 = .ok (.ladd, 1) := by decide +kernel
theorem dX3_digest_313 : decode cX3_digest 313 = .ok (.lstore_n 1, 1) := by decide +kernel
theorem dX3_digest_314 : decode cX3_digest 314 = .ok (.iinc 4 1, 3) := by decide +kernel
theorem dX3_digest_317 : decode cX3_digest 317 = .ok (.goto (-38), 3) := by decide +kernel
theorem dX3_digest_320 : decode cX3_digest 320 = .ok (.lload_n 1, 1) := by decide +kernel
theorem dX3_digest_321 : decode cX3_digest 321 = .ok (.ldc2_w 243, 3) := by decide +kernel
theorem dX3_digest_324 : decode cX3_digest 324 = .ok (.lmul, 1) := by decide +kernel
theorem dX3_digest_325 : decode cX3_digest 325 = .ok (.aload_n 0, 1) := by decide +kernel
theorem dX3_digest_326 : decode cX3_digest 326 = .ok (.invokevirtual 227, 3) := by decide +kernel
theorem dX3_digest_329 : decode cX3_digest 329 = .ok (.i2l, 1) := by decide +kernel
theorem dX3_digest_330 : decode cX3_digest 330 = .ok (.ladd, 1) := by decide +kernel
theorem dX3_digest_331 : decode cX3_digest 331 = .ok (.ldc2_w 243, 3) := by decide +kernel
theorem dX3_digest_334 : decode cX3_digest 334 = .ok (.lmul, 1) := by decide +kernel
theorem dX3_digest_335 : decode cX3_digest 335 = .ok (.aload_n 0, 1) := by decide +kernel
theorem dX3_digest_336 : decode cX3_digest 336 = .ok (.invokevirtual 230, 3) := by decide +kernel
theorem dX3_digest_339 : decode cX3_digest 339 = .ok (.i2l, 1) := by decide +kernel
theorem dX3_digest_340 : decode cX3_digest 340 = .ok (.ladd, 1) := by decide +kernel
theorem dX3_digest_341 : decode cX3_digest 341 = .ok (.ldc2_w 243, 3) := by decide +kernel
theorem dX3_digest_344 : decode cX3_digest 344 = .ok (.lmul, 1) := by decide +kernel
theorem dX3_digest_345 : decode cX3_digest 345 = .ok (.aload_n 0, 1) := by decide +kernel
theorem dX3_digest_346 : decode cX3_digest 346 = .ok (.invokevirtual 280, 3) := by decide +kernel
theorem dX3_digest_349 : decode cX3_digest 349 = .ok (.i2l, 1) := by decide +kernel
theorem dX3_digest_350 : decode cX3_digest 350 = .ok (.ladd, 1) := by decide +kernel
theorem dX3_digest_351 : decode cX3_digest 351 = .ok (.lstore_n 1, 1) := by decide +kernel
theorem dX3_digest_352 : decode cX3_digest 352 = .ok (.iconst 0, 1) := by decide +kernel
theorem dX3_digest_353 : decode cX3_digest 353 = .ok (.istore 4, 2) := by decide +kernel
theorem dX3_digest_355 : decode cX3_digest 355 = .ok (.iload 4, 2) := by decide +kernel
theorem dX3_digest_357 : decode cX3_digest 357 = .ok (.iconst 3, 1) := by decide +kernel
theorem dX3_digest_358 : decode cX3_digest 358 = .ok (.if_icmp .ge 23, 3) := by decide +kernel
theorem dX3_digest_361 : decode cX3_digest 361 = .ok (.lload_n 1, 1) := by decide +kernel
theorem dX3_digest_362 : decode cX3_digest 362 = .ok (.ldc2_w 243, 3) := by decide +kernel
theorem dX3_digest_365 : decode cX3_digest 365 = .ok (.lmul, 1) := by decide +kernel
theorem dX3_digest_366 : decode cX3_digest 366 = .ok (.aload_n 0, 1) := by decide +kernel
theorem dX3_digest_367 : decode cX3_digest 367 = .ok (.iload 4, 2) := by decide +kernel
theorem dX3_digest_369 : decode cX3_digest 369 = .ok (.invokevirtual 283, 3) := by decide +kernel
theorem dX3_digest_372 : decode cX3_digest 372 = .ok (.i2l, 1) := by decide +kernel
theorem dX3_digest_373 : decode cX3_digest 373 = .ok (.ladd, 1) := by decide +kernel
theorem dX3_digest_374 : decode cX3_digest 374 = .ok (.lstore_n 1, 1) := by decide +kernel
theorem dX3_digest_375 : decode cX3_digest 375 = .ok (.iinc 4 1, 3) := by decide +kernel
theorem dX3_digest_378 : decode cX3_digest 378 = .ok (.goto (-23), 3) := by decide +kernel
theorem dX3_digest_381 : decode cX3_digest 381 = .ok (.lload_n 1, 1) := by decide +kernel
theorem dX3_digest_382 : decode cX3_digest 382 = .ok (.ldc2_w 243, 3) := by decide +kernel
theorem dX3_digest_385 : decode cX3_digest 385 = .ok (.lmul, 1) := by decide +kernel
theorem dX3_digest_386 : decode cX3_digest 386 = .ok (.aload_n 0, 1) := by decide +kernel
theorem dX3_digest_387 : decode cX3_digest 387 = .ok (.invokevirtual 286, 3) := by decide +kernel
theorem dX3_digest_390 : decode cX3_digest 390 = .ok (.ifCond .eq 7, 3) := by decide +kernel
theorem dX3_digest_393 : decode cX3_digest 393 = .ok (.iconst 1, 1) := by decide +kernel
theorem dX3_digest_394 : decode cX3_digest 394 = .ok (.goto 4, 3) := by decide +kernel
theorem dX3_digest_397 : decode cX3_digest 397 = .ok (.iconst 0, 1) := by decide +kernel
theorem dX3_digest_398 : decode cX3_digest 398 = .ok (.i2l, 1) := by decide +kernel
theorem dX3_digest_399 : decode cX3_digest 399 = .ok (.ladd, 1) := by decide +kernel
theorem dX3_digest_400 : decode cX3_digest 400 = .ok (.lstore_n 1, 1) := by decide +kernel
theorem dX3_digest_401 : decode cX3_digest 401 = .ok (.aload_n 0, 1) := by decide +kernel
theorem dX3_digest_402 : decode cX3_digest 402 = .ok (.iconst 0, 1) := by decide +kernel
theorem dX3_digest_403 : decode cX3_digest 403 = .ok (.putfield 35, 3) := by decide +kernel
theorem dX3_digest_406 : decode cX3_digest 406 = .ok (.lload_n 1, 1) := by decide +kernel
theorem dX3_digest_407 : decode cX3_digest 407 = .ok (.lreturn, 1) := by decide +kernel
theorem dX3_thrown_0 : decode cX3_thrown 0 = .ok (.aload_n 0, 1) := by decide +kernel
theorem dX3_thrown_1 : decode cX3_thrown 1 = .ok (.getfield 35, 3) := by decide +kernel
theorem dX3_thrown_4 : decode cX3_thrown 4 = .ok (.ireturn, 1) := by decide +kernel
theorem dX3_text_0 : decode cX3_text 0 = .ok (.aload_n 0, 1) := by decide +kernel
theorem dX3_text_1 : decode cX3_text 1 = .ok (.iload_n 1, 1) := by decide +kernel
theorem dX3_text_2 : decode cX3_text 2 = .ok (.invokestatic 123, 3) := by decide +kernel
theorem dX3_text_5 : decode cX3_text 5 = .ok (.ifCond .ne 7, 3) := by decide +kernel
theorem dX3_text_8 : decode cX3_text 8 = .ok (.iconst 1, 1) := by decide +kernel
theorem dX3_text_9 : decode cX3_text 9 = .ok (.goto 4, 3) := by decide +kernel
theorem dX3_text_12 : decode cX3_text 12 = .ok (.iconst 0, 1) := by decide +kernel
theorem dX3_text_13 : decode cX3_text 13 = .ok (.invokevirtual 149, 3) := by decide +kernel
theorem dX3_text_16 : decode cX3_text 16 = .ok (.ifCond .eq 8, 3) := by decide +kernel
theorem dX3_text_19 : decode cX3_text 19 = .ok (.ldc 191, 2) := by decide +kernel
theorem dX3_text_21 : decode cX3_text 21 = .ok (.goto 42, 3) := by decide +kernel
theorem dX3_text_24 : decode cX3_text 24 = .ok (.new 193, 3) := by decide +kernel
theorem dX3_text_27 : decode cX3_text 27 = .ok (.dup, 1) := by decide +kernel
theorem dX3_text_28 : decode cX3_text 28 = .ok (.invokespecial 195, 3) := by decide +kernel
theorem dX3_text_31 : decode cX3_text 31 = .ok (.aload_n 0, 1) := by decide +kernel
theorem dX3_text_32 : decode cX3_text 32 = .ok (.getfield 7, 3) := by decide +kernel
theorem dX3_text_35 : decode cX3_text 35 = .ok (.iload_n 1, 1) := by decide +kernel
theorem dX3_text_36 : decode cX3_text 36 = .ok (.laload, 1) := by decide +kernel
theorem dX3_text_37 : decode cX3_text 37 = .ok (.invokestatic 43, 3) := by decide +kernel
theorem dX3_text_40 : decode cX3_text 40 = .ok (.invokevirtual 196, 3) := by decide +kernel
theorem dX3_text_43 : decode cX3_text 43 = .ok (.ldc 200, 2) := by decide +kernel
theorem dX3_text_45 : decode cX3_text 45 = .ok (.invokevirtual 202, 3) := by decide +kernel
theorem dX3_text_48 : decode cX3_text 48 = .ok (.aload_n 0, 1) := by decide +kernel
theorem dX3_text_49 : decode cX3_text 49 = .ok (.getfield 7, 3) := by decide +kernel
theorem dX3_text_52 : decode cX3_text 52 = .ok (.iload_n 1, 1) := by decide +kernel
theorem dX3_text_53 : decode cX3_text 53 = .ok (.laload, 1) := by decide +kernel
theorem dX3_text_54 : decode cX3_text 54 = .ok (.invokestatic 188, 3) := by decide +kernel
theorem dX3_text_57 : decode cX3_text 57 = .ok (.invokevirtual 196, 3) := by decide +kernel
theorem dX3_text_60 : decode cX3_text 60 = .ok (.invokevirtual 205, 3) := by decide +kernel
theorem dX3_text_63 : decode cX3_text 63 = .ok (.areturn, 1) := by decide +kernel
theorem dX3_init_0 : decode cX3_init 0 = .ok (.aload_n 0, 1) := by decide +kernel
theorem dX3_init_1 : decode cX3_init 1 = .ok (.invokespecial 1, 3) := by decide +kernel
theorem dX3_init_4 : decode cX3_init 4 = .ok (.aload_n 0, 1) := by decide +kernel
theorem dX3_init_5 : decode cX3_init 5 = .ok (.iconst 4, 1) := by decide +kernel
theorem dX3_init_6 : decode cX3_init 6 = .ok (.newarray .long, 2) := by decide +kernel
theorem dX3_init_8 : decode cX3_init 8 = .ok (.putfield 7, 3) := by decide +kernel
theorem dX3_init_11 : decode cX3_init 11 = .ok (.aload_n 0, 1) := by decide +kernel
theorem dX3_init_12 : decode cX3_init 12 = .ok (.ldc2_w 13, 3) := by decide +kernel
theorem dX3_init_15 : decode cX3_init 15 = .ok (.putfield 15, 3) := by decide +kernel
theorem dX3_init_18 : decode cX3_init 18 = .ok (.aload_n 0, 1) := by decide +kernel
theorem dX3_init_19 : decode cX3_init 19 = .ok (.bipush 10, 2) := by decide +kernel
theorem dX3_init_21 : decode cX3_init 21 = .ok (.newarray .long, 2) := by decide +kernel
theorem dX3_init_23 : decode cX3_init 23 = .ok (.putfield 19, 3) := by decide +kernel
theorem dX3_init_26 : decode cX3_init 26 = .ok (.aload_n 0, 1) := by decide +kernel
theorem dX3_init_27 : decode cX3_init 27 = .ok (.bipush 10, 2) := by decide +kernel
theorem dX3_init_29 : decode cX3_init 29 = .ok (.newarray .long, 2) := by decide +kernel
theorem dX3_init_31 : decode cX3_init 31 = .ok (.putfield 22, 3) := by decide +kernel
theorem dX3_init_34 : decode cX3_init 34 = .ok (.aload_n 0, 1) := by decide +kernel
theorem dX3_init_35 : decode cX3_init 35 = .ok (.bipush 10, 2) := by decide +kernel
theorem dX3_init_37 : decode cX3_init 37 = .ok (.newarray .boolean, 2) := by decide +kernel
theorem dX3_init_39 : decode cX3_init 39 = .ok (.putfield 25, 3) := by decide +kernel
theorem dX3_init_42 : decode cX3_init 42 = .ok (.aload_n 0, 1) := by decide +kernel
theorem dX3_init_43 : decode cX3_init 43 = .ok (.bipush 8, 2) := by decide +kernel
theorem dX3_init_45 : decode cX3_init 45 = .ok (.newarray .long, 2) := by decide +kernel
theorem dX3_init_47 : decode cX3_init 47 = .ok (.putfield 29, 3) := by decide +kernel
theorem dX3_init_50 : decode cX3_init 50 = .ok (.aload_n 0, 1) := by decide +kernel
theorem dX3_init_51 : decode cX3_init 51 = .ok (.bipush 8, 2) := by decide +kernel
theorem dX3_init_53 : decode cX3_init 53 = .ok (.newarray .long, 2) := by decide +kernel
theorem dX3_init_55 : decode cX3_init 55 = .ok (.putfield 32, 3) := by decide +kernel
theorem dX3_init_58 : decode cX3_init 58 = .ok (.return_, 1) := by decide +kernel
