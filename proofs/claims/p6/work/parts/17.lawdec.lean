theorem dL_set_0 : decode cL_set 0 = .ok (.aload 4, 2) := by decide +kernel
theorem dL_set_2 : decode cL_set 2 = .ok (.aload_n 0, 1) := by decide +kernel
theorem dL_set_3 : decode cL_set 3 = .ok (.iload_n 1, 1) := by decide +kernel
theorem dL_set_4 : decode cL_set 4 = .ok (.iload_n 2, 1) := by decide +kernel
theorem dL_set_5 : decode cL_set 5 = .ok (.iload_n 3, 1) := by decide +kernel
theorem dL_set_6 : decode cL_set 6 = .ok (.invokevirtual 7, 3) := by decide +kernel
theorem dL_set_9 : decode cL_set 9 = .ok (.i2l, 1) := by decide +kernel
theorem dL_set_10 : decode cL_set 10 = .ok (.putfield 13, 3) := by decide +kernel
theorem dL_set_13 : decode cL_set 13 = .ok (.goto 11, 3) := by decide +kernel
theorem dL_set_16 : decode cL_set 16 = .ok (.astore 5, 2) := by decide +kernel
theorem dL_set_18 : decode cL_set 18 = .ok (.iconst 1, 1) := by decide +kernel
theorem dL_set_19 : decode cL_set 19 = .ok (.ireturn, 1) := by decide +kernel
theorem dL_set_20 : decode cL_set 20 = .ok (.astore 5, 2) := by decide +kernel
theorem dL_set_22 : decode cL_set 22 = .ok (.iconst 2, 1) := by decide +kernel
theorem dL_set_23 : decode cL_set 23 = .ok (.ireturn, 1) := by decide +kernel
theorem dL_set_24 : decode cL_set 24 = .ok (.iconst 0, 1) := by decide +kernel
theorem dL_set_25 : decode cL_set 25 = .ok (.ireturn, 1) := by decide +kernel
theorem dL_go_0 : decode cL_go 0 = .ok (.aload 5, 2) := by decide +kernel
theorem dL_go_2 : decode cL_go 2 = .ok (.aload_n 0, 1) := by decide +kernel
theorem dL_go_3 : decode cL_go 3 = .ok (.iload_n 1, 1) := by decide +kernel
theorem dL_go_4 : decode cL_go 4 = .ok (.iload_n 2, 1) := by decide +kernel
theorem dL_go_5 : decode cL_go 5 = .ok (.iload_n 3, 1) := by decide +kernel
theorem dL_go_6 : decode cL_go 6 = .ok (.iload 4, 2) := by decide +kernel
theorem dL_go_8 : decode cL_go 8 = .ok (.invokevirtual 23, 3) := by decide +kernel
theorem dL_go_11 : decode cL_go 11 = .ok (.i2l, 1) := by decide +kernel
theorem dL_go_12 : decode cL_go 12 = .ok (.putfield 13, 3) := by decide +kernel
theorem dL_go_15 : decode cL_go 15 = .ok (.goto 11, 3) := by decide +kernel
theorem dL_go_18 : decode cL_go 18 = .ok (.astore 6, 2) := by decide +kernel
theorem dL_go_20 : decode cL_go 20 = .ok (.iconst 1, 1) := by decide +kernel
theorem dL_go_21 : decode cL_go 21 = .ok (.ireturn, 1) := by decide +kernel
theorem dL_go_22 : decode cL_go 22 = .ok (.astore 6, 2) := by decide +kernel
theorem dL_go_24 : decode cL_go 24 = .ok (.iconst 2, 1) := by decide +kernel
theorem dL_go_25 : decode cL_go 25 = .ok (.ireturn, 1) := by decide +kernel
theorem dL_go_26 : decode cL_go 26 = .ok (.iconst 0, 1) := by decide +kernel
theorem dL_go_27 : decode cL_go 27 = .ok (.ireturn, 1) := by decide +kernel
theorem dL_copy_0 : decode cL_copy 0 = .ok (.aload_n 3, 1) := by decide +kernel
theorem dL_copy_1 : decode cL_copy 1 = .ok (.aload_n 0, 1) := by decide +kernel
theorem dL_copy_2 : decode cL_copy 2 = .ok (.iload_n 1, 1) := by decide +kernel
theorem dL_copy_3 : decode cL_copy 3 = .ok (.iload_n 2, 1) := by decide +kernel
theorem dL_copy_4 : decode cL_copy 4 = .ok (.invokevirtual 27, 3) := by decide +kernel
theorem dL_copy_7 : decode cL_copy 7 = .ok (.i2l, 1) := by decide +kernel
theorem dL_copy_8 : decode cL_copy 8 = .ok (.putfield 13, 3) := by decide +kernel
theorem dL_copy_11 : decode cL_copy 11 = .ok (.goto 7, 3) := by decide +kernel
theorem dL_copy_14 : decode cL_copy 14 = .ok (.astore 4, 2) := by decide +kernel
theorem dL_copy_16 : decode cL_copy 16 = .ok (.iconst 1, 1) := by decide +kernel
theorem dL_copy_17 : decode cL_copy 17 = .ok (.ireturn, 1) := by decide +kernel
theorem dL_copy_18 : decode cL_copy 18 = .ok (.iconst 0, 1) := by decide +kernel
theorem dL_copy_19 : decode cL_copy 19 = .ok (.ireturn, 1) := by decide +kernel
theorem dL_swap_0 : decode cL_swap 0 = .ok (.aload_n 3, 1) := by decide +kernel
theorem dL_swap_1 : decode cL_swap 1 = .ok (.aload_n 0, 1) := by decide +kernel
theorem dL_swap_2 : decode cL_swap 2 = .ok (.iload_n 1, 1) := by decide +kernel
theorem dL_swap_3 : decode cL_swap 3 = .ok (.iload_n 2, 1) := by decide +kernel
theorem dL_swap_4 : decode cL_swap 4 = .ok (.invokevirtual 31, 3) := by decide +kernel
theorem dL_swap_7 : decode cL_swap 7 = .ok (.i2l, 1) := by decide +kernel
theorem dL_swap_8 : decode cL_swap 8 = .ok (.putfield 13, 3) := by decide +kernel
theorem dL_swap_11 : decode cL_swap 11 = .ok (.goto 7, 3) := by decide +kernel
theorem dL_swap_14 : decode cL_swap 14 = .ok (.astore 4, 2) := by decide +kernel
theorem dL_swap_16 : decode cL_swap 16 = .ok (.iconst 1, 1) := by decide +kernel
theorem dL_swap_17 : decode cL_swap 17 = .ok (.ireturn, 1) := by decide +kernel
theorem dL_swap_18 : decode cL_swap 18 = .ok (.iconst 0, 1) := by decide +kernel
theorem dL_swap_19 : decode cL_swap 19 = .ok (.ireturn, 1) := by decide +kernel
theorem dL_pick_0 : decode cL_pick 0 = .ok (.aload_n 3, 1) := by decide +kernel
theorem dL_pick_1 : decode cL_pick 1 = .ok (.aload_n 0, 1) := by decide +kernel
theorem dL_pick_2 : decode cL_pick 2 = .ok (.iload_n 1, 1) := by decide +kernel
theorem dL_pick_3 : decode cL_pick 3 = .ok (.iload_n 2, 1) := by decide +kernel
theorem dL_pick_4 : decode cL_pick 4 = .ok (.invokevirtual 34, 3) := by decide +kernel
theorem dL_pick_7 : decode cL_pick 7 = .ok (.i2l, 1) := by decide +kernel
theorem dL_pick_8 : decode cL_pick 8 = .ok (.putfield 13, 3) := by decide +kernel
theorem dL_pick_11 : decode cL_pick 11 = .ok (.goto 7, 3) := by decide +kernel
theorem dL_pick_14 : decode cL_pick 14 = .ok (.astore 4, 2) := by decide +kernel
theorem dL_pick_16 : decode cL_pick 16 = .ok (.iconst 1, 1) := by decide +kernel
theorem dL_pick_17 : decode cL_pick 17 = .ok (.ireturn, 1) := by decide +kernel
theorem dL_pick_18 : decode cL_pick 18 = .ok (.iconst 0, 1) := by decide +kernel
theorem dL_pick_19 : decode cL_pick 19 = .ok (.ireturn, 1) := by decide +kernel
theorem dL_shift_0 : decode cL_shift 0 = .ok (.aload_n 3, 1) := by decide +kernel
theorem dL_shift_1 : decode cL_shift 1 = .ok (.aload_n 0, 1) := by decide +kernel
theorem dL_shift_2 : decode cL_shift 2 = .ok (.iload_n 1, 1) := by decide +kernel
theorem dL_shift_3 : decode cL_shift 3 = .ok (.iload_n 2, 1) := by decide +kernel
theorem dL_shift_4 : decode cL_shift 4 = .ok (.invokevirtual 38, 3) := by decide +kernel
theorem dL_shift_7 : decode cL_shift 7 = .ok (.i2l, 1) := by decide +kernel
theorem dL_shift_8 : decode cL_shift 8 = .ok (.putfield 13, 3) := by decide +kernel
theorem dL_shift_11 : decode cL_shift 11 = .ok (.goto 7, 3) := by decide +kernel
theorem dL_shift_14 : decode cL_shift 14 = .ok (.astore 4, 2) := by decide +kernel
theorem dL_shift_16 : decode cL_shift 16 = .ok (.iconst 1, 1) := by decide +kernel
theorem dL_shift_17 : decode cL_shift 17 = .ok (.ireturn, 1) := by decide +kernel
theorem dL_shift_18 : decode cL_shift 18 = .ok (.iconst 0, 1) := by decide +kernel
theorem dL_shift_19 : decode cL_shift 19 = .ok (.ireturn, 1) := by decide +kernel
theorem dL_open_0 : decode cL_open 0 = .ok (.aload_n 3, 1) := by decide +kernel
theorem dL_open_1 : decode cL_open 1 = .ok (.aload_n 0, 1) := by decide +kernel
theorem dL_open_2 : decode cL_open 2 = .ok (.iload_n 1, 1) := by decide +kernel
theorem dL_open_3 : decode cL_open 3 = .ok (.iload_n 2, 1) := by decide +kernel
theorem dL_open_4 : decode cL_open 4 = .ok (.invokevirtual 41, 3) := by decide +kernel
theorem dL_open_7 : decode cL_open 7 = .ok (.i2l, 1) := by decide +kernel
theorem dL_open_8 : decode cL_open 8 = .ok (.putfield 13, 3) := by decide +kernel
theorem dL_open_11 : decode cL_open 11 = .ok (.goto 7, 3) := by decide +kernel
theorem dL_open_14 : decode cL_open 14 = .ok (.astore 4, 2) := by decide +kernel
theorem dL_open_16 : decode cL_open 16 = .ok (.iconst 1, 1) := by decide +kernel
theorem dL_open_17 : decode cL_open 17 = .ok (.ireturn, 1) := by decide +kernel
theorem dL_open_18 : decode cL_open 18 = .ok (.iconst 0, 1) := by decide +kernel
theorem dL_open_19 : decode cL_open 19 = .ok (.ireturn, 1) := by decide +kernel
theorem dL_book_0 : decode cL_book 0 = .ok (.aload 4, 2) := by decide +kernel
theorem dL_book_2 : decode cL_book 2 = .ok (.aload_n 0, 1) := by decide +kernel
theorem dL_book_3 : decode cL_book 3 = .ok (.iload_n 1, 1) := by decide +kernel
theorem dL_book_4 : decode cL_book 4 = .ok (.iload_n 2, 1) := by decide +kernel
theorem dL_book_5 : decode cL_book 5 = .ok (.iload_n 3, 1) := by decide +kernel
theorem dL_book_6 : decode cL_book 6 = .ok (.invokevirtual 44, 3) := by decide +kernel
theorem dL_book_9 : decode cL_book 9 = .ok (.i2l, 1) := by decide +kernel
theorem dL_book_10 : decode cL_book 10 = .ok (.putfield 13, 3) := by decide +kernel
theorem dL_book_13 : decode cL_book 13 = .ok (.goto 7, 3) := by decide +kernel
theorem dL_book_16 : decode cL_book 16 = .ok (.astore 5, 2) := by decide +kernel
theorem dL_book_18 : decode cL_book 18 = .ok (.iconst 1, 1) := by decide +kernel
theorem dL_book_19 : decode cL_book 19 = .ok (.ireturn, 1) := by decide +kernel
theorem dL_book_20 : decode cL_book 20 = .ok (.iconst 0, 1) := by decide +kernel
theorem dL_book_21 : decode cL_book 21 = .ok (.ireturn, 1) := by decide +kernel
theorem dL_unbook_0 : decode cL_unbook 0 = .ok (.aload_n 2, 1) := by decide +kernel
theorem dL_unbook_1 : decode cL_unbook 1 = .ok (.aload_n 0, 1) := by decide +kernel
theorem dL_unbook_2 : decode cL_unbook 2 = .ok (.iload_n 1, 1) := by decide +kernel
theorem dL_unbook_3 : decode cL_unbook 3 = .ok (.invokevirtual 48, 3) := by decide +kernel
theorem dL_unbook_6 : decode cL_unbook 6 = .ok (.i2l, 1) := by decide +kernel
theorem dL_unbook_7 : decode cL_unbook 7 = .ok (.putfield 13, 3) := by decide +kernel
theorem dL_unbook_10 : decode cL_unbook 10 = .ok (.goto 6, 3) := by decide +kernel
theorem dL_unbook_13 : decode cL_unbook 13 = .ok (.astore_n 3, 1) := by decide +kernel
theorem dL_unbook_14 : decode cL_unbook 14 = .ok (.iconst 1, 1) := by decide +kernel
theorem dL_unbook_15 : decode cL_unbook 15 = .ok (.ireturn, 1) := by decide +kernel
theorem dL_unbook_16 : decode cL_unbook 16 = .ok (.iconst 0, 1) := by decide +kernel
theorem dL_unbook_17 : decode cL_unbook 17 = .ok (.ireturn, 1) := by decide +kernel
theorem dL_move_0 : decode cL_move 0 = .ok (.aload 4, 2) := by decide +kernel
theorem dL_move_2 : decode cL_move 2 = .ok (.aload_n 0, 1) := by decide +kernel
theorem dL_move_3 : decode cL_move 3 = .ok (.iload_n 1, 1) := by decide +kernel
theorem dL_move_4 : decode cL_move 4 = .ok (.iload_n 2, 1) := by decide +kernel
theorem dL_move_5 : decode cL_move 5 = .ok (.iload_n 3, 1) := by decide +kernel
theorem dL_move_6 : decode cL_move 6 = .ok (.invokevirtual 52, 3) := by decide +kernel
theorem dL_move_9 : decode cL_move 9 = .ok (.i2l, 1) := by decide +kernel
theorem dL_move_10 : decode cL_move 10 = .ok (.putfield 13, 3) := by decide +kernel
theorem dL_move_13 : decode cL_move 13 = .ok (.goto 11, 3) := by decide +kernel
theorem dL_move_16 : decode cL_move 16 = .ok (.astore 5, 2) := by decide +kernel
theorem dL_move_18 : decode cL_move 18 = .ok (.iconst 1, 1) := by decide +kernel
theorem dL_move_19 : decode cL_move 19 = .ok (.ireturn, 1) := by decide +kernel
theorem dL_move_20 : decode cL_move 20 = .ok (.astore 5, 2) := by decide +kernel
theorem dL_move_22 : decode cL_move 22 = .ok (.iconst 2, 1) := by decide +kernel
theorem dL_move_23 : decode cL_move 23 = .ok (.ireturn, 1) := by decide +kernel
theorem dL_move_24 : decode cL_move 24 = .ok (.iconst 0, 1) := by decide +kernel
theorem dL_move_25 : decode cL_move 25 = .ok (.ireturn, 1) := by decide +kernel
theorem dL_stretch_0 : decode cL_stretch 0 = .ok (.aload 4, 2) := by decide +kernel
theorem dL_stretch_2 : decode cL_stretch 2 = .ok (.aload_n 0, 1) := by decide +kernel
theorem dL_stretch_3 : decode cL_stretch 3 = .ok (.iload_n 1, 1) := by decide +kernel
theorem dL_stretch_4 : decode cL_stretch 4 = .ok (.iload_n 2, 1) := by decide +kernel
theorem dL_stretch_5 : decode cL_stretch 5 = .ok (.iload_n 3, 1) := by decide +kernel
theorem dL_stretch_6 : decode cL_stretch 6 = .ok (.invokevirtual 55, 3) := by decide +kernel
theorem dL_stretch_9 : decode cL_stretch 9 = .ok (.i2l, 1) := by decide +kernel
theorem dL_stretch_10 : decode cL_stretch 10 = .ok (.putfield 13, 3) := by decide +kernel
theorem dL_stretch_13 : decode cL_stretch 13 = .ok (.goto 11, 3) := by decide +kernel
theorem dL_stretch_16 : decode cL_stretch 16 = .ok (.astore 5, 2) := by decide +kernel
theorem dL_stretch_18 : decode cL_stretch 18 = .ok (.iconst 1, 1) := by decide +kernel
theorem dL_stretch_19 : decode cL_stretch 19 = .ok (.ireturn, 1) := by decide +kernel
theorem dL_stretch_20 : decode cL_stretch 20 = .ok (.astore 5, 2) := by decide +kernel
theorem dL_stretch_22 : decode cL_stretch 22 = .ok (.iconst 2, 1) := by decide +kernel
theorem dL_stretch_23 : decode cL_stretch 23 = .ok (.ireturn, 1) := by decide +kernel
theorem dL_stretch_24 : decode cL_stretch 24 = .ok (.iconst 0, 1) := by decide +kernel
theorem dL_stretch_25 : decode cL_stretch 25 = .ok (.ireturn, 1) := by decide +kernel
theorem dL_fit_0 : decode cL_fit 0 = .ok (.aload 5, 2) := by decide +kernel
theorem dL_fit_2 : decode cL_fit 2 = .ok (.aload_n 0, 1) := by decide +kernel
theorem dL_fit_3 : decode cL_fit 3 = .ok (.iload_n 1, 1) := by decide +kernel
theorem dL_fit_4 : decode cL_fit 4 = .ok (.iload_n 2, 1) := by decide +kernel
theorem dL_fit_5 : decode cL_fit 5 = .ok (.iload_n 3, 1) := by decide +kernel
theorem dL_fit_6 : decode cL_fit 6 = .ok (.iload 4, 2) := by decide +kernel
theorem dL_fit_8 : decode cL_fit 8 = .ok (.invokevirtual 58, 3) := by decide +kernel
theorem dL_fit_11 : decode cL_fit 11 = .ok (.i2l, 1) := by decide +kernel
theorem dL_fit_12 : decode cL_fit 12 = .ok (.putfield 13, 3) := by decide +kernel
theorem dL_fit_15 : decode cL_fit 15 = .ok (.goto 11, 3) := by decide +kernel
theorem dL_fit_18 : decode cL_fit 18 = .ok (.astore 6, 2) := by decide +kernel
theorem dL_fit_20 : decode cL_fit 20 = .ok (.iconst 1, 1) := by decide +kernel
theorem dL_fit_21 : decode cL_fit 21 = .ok (.ireturn, 1) := by decide +kernel
theorem dL_fit_22 : decode cL_fit 22 = .ok (.astore 6, 2) := by decide +kernel
theorem dL_fit_24 : decode cL_fit 24 = .ok (.iconst 2, 1) := by decide +kernel
theorem dL_fit_25 : decode cL_fit 25 = .ok (.ireturn, 1) := by decide +kernel
theorem dL_fit_26 : decode cL_fit 26 = .ok (.iconst 0, 1) := by decide +kernel
theorem dL_fit_27 : decode cL_fit 27 = .ok (.ireturn, 1) := by decide +kernel
theorem dL_wish_0 : decode cL_wish 0 = .ok (.aload_n 3, 1) := by decide +kernel
theorem dL_wish_1 : decode cL_wish 1 = .ok (.aload_n 0, 1) := by decide +kernel
theorem dL_wish_2 : decode cL_wish 2 = .ok (.iload_n 1, 1) := by decide +kernel
theorem dL_wish_3 : decode cL_wish 3 = .ok (.iload_n 2, 1) := by decide +kernel
theorem dL_wish_4 : decode cL_wish 4 = .ok (.invokevirtual 62, 3) := by decide +kernel
theorem dL_wish_7 : decode cL_wish 7 = .ok (.i2l, 1) := by decide +kernel
theorem dL_wish_8 : decode cL_wish 8 = .ok (.putfield 13, 3) := by decide +kernel
theorem dL_wish_11 : decode cL_wish 11 = .ok (.goto 7, 3) := by decide +kernel
theorem dL_wish_14 : decode cL_wish 14 = .ok (.astore 4, 2) := by decide +kernel
theorem dL_wish_16 : decode cL_wish 16 = .ok (.iconst 1, 1) := by decide +kernel
theorem dL_wish_17 : decode cL_wish 17 = .ok (.ireturn, 1) := by decide +kernel
theorem dL_wish_18 : decode cL_wish 18 = .ok (.iconst 0, 1) := by decide +kernel
theorem dL_wish_19 : decode cL_wish 19 = .ok (.ireturn, 1) := by decide +kernel
theorem dL_unwish_0 : decode cL_unwish 0 = .ok (.aload_n 2, 1) := by decide +kernel
theorem dL_unwish_1 : decode cL_unwish 1 = .ok (.aload_n 0, 1) := by decide +kernel
theorem dL_unwish_2 : decode cL_unwish 2 = .ok (.iload_n 1, 1) := by decide +kernel
theorem dL_unwish_3 : decode cL_unwish 3 = .ok (.invokevirtual 65, 3) := by decide +kernel
theorem dL_unwish_6 : decode cL_unwish 6 = .ok (.i2l, 1) := by decide +kernel
theorem dL_unwish_7 : decode cL_unwish 7 = .ok (.putfield 13, 3) := by decide +kernel
theorem dL_unwish_10 : decode cL_unwish 10 = .ok (.goto 6, 3) := by decide +kernel
theorem dL_unwish_13 : decode cL_unwish 13 = .ok (.astore_n 3, 1) := by decide +kernel
theorem dL_unwish_14 : decode cL_unwish 14 = .ok (.iconst 1, 1) := by decide +kernel
theorem dL_unwish_15 : decode cL_unwish 15 = .ok (.ireturn, 1) := by decide +kernel
theorem dL_unwish_16 : decode cL_unwish 16 = .ok (.iconst 0, 1) := by decide +kernel
theorem dL_unwish_17 : decode cL_unwish 17 = .ok (.ireturn, 1) := by decide +kernel
theorem dL_grant_0 : decode cL_grant 0 = .ok (.aload_n 2, 1) := by decide +kernel
theorem dL_grant_1 : decode cL_grant 1 = .ok (.aload_n 0, 1) := by decide +kernel
theorem dL_grant_2 : decode cL_grant 2 = .ok (.iload_n 1, 1) := by decide +kernel
theorem dL_grant_3 : decode cL_grant 3 = .ok (.invokevirtual 68, 3) := by decide +kernel
theorem dL_grant_6 : decode cL_grant 6 = .ok (.i2l, 1) := by decide +kernel
theorem dL_grant_7 : decode cL_grant 7 = .ok (.putfield 13, 3) := by decide +kernel
theorem dL_grant_10 : decode cL_grant 10 = .ok (.goto 6, 3) := by decide +kernel
theorem dL_grant_13 : decode cL_grant 13 = .ok (.astore_n 3, 1) := by decide +kernel
theorem dL_grant_14 : decode cL_grant 14 = .ok (.iconst 1, 1) := by decide +kernel
theorem dL_grant_15 : decode cL_grant 15 = .ok (.ireturn, 1) := by decide +kernel
theorem dL_grant_16 : decode cL_grant 16 = .ok (.iconst 0, 1) := by decide +kernel
theorem dL_grant_17 : decode cL_grant 17 = .ok (.ireturn, 1) := by decide +kernel
theorem dL_second_0 : decode cL_second 0 = .ok (.aload_n 2, 1) := by decide +kernel
theorem dL_second_1 : decode cL_second 1 = .ok (.aload_n 0, 1) := by decide +kernel
theorem dL_second_2 : decode cL_second 2 = .ok (.iload_n 1, 1) := by decide +kernel
theorem dL_second_3 : decode cL_second 3 = .ok (.invokevirtual 71, 3) := by decide +kernel
theorem dL_second_6 : decode cL_second 6 = .ok (.i2l, 1) := by decide +kernel
theorem dL_second_7 : decode cL_second 7 = .ok (.putfield 13, 3) := by decide +kernel
theorem dL_second_10 : decode cL_second 10 = .ok (.goto 6, 3) := by decide +kernel
theorem dL_second_13 : decode cL_second 13 = .ok (.astore_n 3, 1) := by decide +kernel
theorem dL_second_14 : decode cL_second 14 = .ok (.iconst 1, 1) := by decide +kernel
theorem dL_second_15 : decode cL_second 15 = .ok (.ireturn, 1) := by decide +kernel
theorem dL_second_16 : decode cL_second 16 = .ok (.iconst 0, 1) := by decide +kernel
theorem dL_second_17 : decode cL_second 17 = .ok (.ireturn, 1) := by decide +kernel
theorem dL_nano_0 : decode cL_nano 0 = .ok (.aload_n 2, 1) := by decide +kernel
theorem dL_nano_1 : decode cL_nano 1 = .ok (.aload_n 0, 1) := by decide +kernel
theorem dL_nano_2 : decode cL_nano 2 = .ok (.iload_n 1, 1) := by decide +kernel
theorem dL_nano_3 : decode cL_nano 3 = .ok (.invokevirtual 74, 3) := by decide +kernel
theorem dL_nano_6 : decode cL_nano 6 = .ok (.i2l, 1) := by decide +kernel
theorem dL_nano_7 : decode cL_nano 7 = .ok (.putfield 13, 3) := by decide +kernel
theorem dL_nano_10 : decode cL_nano 10 = .ok (.goto 6, 3) := by decide +kernel
theorem dL_nano_13 : decode cL_nano 13 = .ok (.astore_n 3, 1) := by decide +kernel
theorem dL_nano_14 : decode cL_nano 14 = .ok (.iconst 1, 1) := by decide +kernel
theorem dL_nano_15 : decode cL_nano 15 = .ok (.ireturn, 1) := by decide +kernel
theorem dL_nano_16 : decode cL_nano 16 = .ok (.iconst 0, 1) := by decide +kernel
theorem dL_nano_17 : decode cL_nano 17 = .ok (.ireturn, 1) := by decide +kernel
theorem dL_order_0 : decode cL_order 0 = .ok (.aload_n 3, 1) := by decide +kernel
theorem dL_order_1 : decode cL_order 1 = .ok (.aload_n 0, 1) := by decide +kernel
theorem dL_order_2 : decode cL_order 2 = .ok (.iload_n 1, 1) := by decide +kernel
theorem dL_order_3 : decode cL_order 3 = .ok (.iload_n 2, 1) := by decide +kernel
theorem dL_order_4 : decode cL_order 4 = .ok (.invokevirtual 85, 3) := by decide +kernel
theorem dL_order_7 : decode cL_order 7 = .ok (.i2l, 1) := by decide +kernel
theorem dL_order_8 : decode cL_order 8 = .ok (.putfield 13, 3) := by decide +kernel
theorem dL_order_11 : decode cL_order 11 = .ok (.goto 7, 3) := by decide +kernel
theorem dL_order_14 : decode cL_order 14 = .ok (.astore 4, 2) := by decide +kernel
theorem dL_order_16 : decode cL_order 16 = .ok (.iconst 1, 1) := by decide +kernel
theorem dL_order_17 : decode cL_order 17 = .ok (.ireturn, 1) := by decide +kernel
theorem dL_order_18 : decode cL_order 18 = .ok (.iconst 0, 1) := by decide +kernel
theorem dL_order_19 : decode cL_order 19 = .ok (.ireturn, 1) := by decide +kernel
theorem dL_isBefore_0 : decode cL_isBefore 0 = .ok (.aload_n 3, 1) := by decide +kernel
theorem dL_isBefore_1 : decode cL_isBefore 1 = .ok (.aload_n 0, 1) := by decide +kernel
theorem dL_isBefore_2 : decode cL_isBefore 2 = .ok (.iload_n 1, 1) := by decide +kernel
theorem dL_isBefore_3 : decode cL_isBefore 3 = .ok (.iload_n 2, 1) := by decide +kernel
theorem dL_isBefore_4 : decode cL_isBefore 4 = .ok (.invokevirtual 88, 3) := by decide +kernel
theorem dL_isBefore_7 : decode cL_isBefore 7 = .ok (.ifCond .eq 7, 3) := by decide +kernel
theorem dL_isBefore_10 : decode cL_isBefore 10 = .ok (.lconst 1, 1) := by decide +kernel
theorem dL_isBefore_11 : decode cL_isBefore 11 = .ok (.goto 4, 3) := by decide +kernel
theorem dL_isBefore_14 : decode cL_isBefore 14 = .ok (.lconst 0, 1) := by decide +kernel
theorem dL_isBefore_15 : decode cL_isBefore 15 = .ok (.putfield 13, 3) := by decide +kernel
theorem dL_isBefore_18 : decode cL_isBefore 18 = .ok (.goto 7, 3) := by decide +kernel
theorem dL_isBefore_21 : decode cL_isBefore 21 = .ok (.astore 4, 2) := by decide +kernel
theorem dL_isBefore_23 : decode cL_isBefore 23 = .ok (.iconst 1, 1) := by decide +kernel
theorem dL_isBefore_24 : decode cL_isBefore 24 = .ok (.ireturn, 1) := by decide +kernel
theorem dL_isBefore_25 : decode cL_isBefore 25 = .ok (.iconst 0, 1) := by decide +kernel
theorem dL_isBefore_26 : decode cL_isBefore 26 = .ok (.ireturn, 1) := by decide +kernel
theorem dL_isAfter_0 : decode cL_isAfter 0 = .ok (.aload_n 3, 1) := by decide +kernel
theorem dL_isAfter_1 : decode cL_isAfter 1 = .ok (.aload_n 0, 1) := by decide +kernel
theorem dL_isAfter_2 : decode cL_isAfter 2 = .ok (.iload_n 1, 1) := by decide +kernel
theorem dL_isAfter_3 : decode cL_isAfter 3 = .ok (.iload_n 2, 1) := by decide +kernel
theorem dL_isAfter_4 : decode cL_isAfter 4 = .ok (.invokevirtual 92, 3) := by decide +kernel
theorem dL_isAfter_7 : decode cL_isAfter 7 = .ok (.ifCond .eq 7, 3) := by decide +kernel
theorem dL_isAfter_10 : decode cL_isAfter 10 = .ok (.lconst 1, 1) := by decide +kernel
theorem dL_isAfter_11 : decode cL_isAfter 11 = .ok (.goto 4, 3) := by decide +kernel
theorem dL_isAfter_14 : decode cL_isAfter 14 = .ok (.lconst 0, 1) := by decide +kernel
theorem dL_isAfter_15 : decode cL_isAfter 15 = .ok (.putfield 13, 3) := by decide +kernel
theorem dL_isAfter_18 : decode cL_isAfter 18 = .ok (.goto 7, 3) := by decide +kernel
theorem dL_isAfter_21 : decode cL_isAfter 21 = .ok (.astore 4, 2) := by decide +kernel
theorem dL_isAfter_23 : decode cL_isAfter 23 = .ok (.iconst 1, 1) := by decide +kernel
theorem dL_isAfter_24 : decode cL_isAfter 24 = .ok (.ireturn, 1) := by decide +kernel
theorem dL_isAfter_25 : decode cL_isAfter 25 = .ok (.iconst 0, 1) := by decide +kernel
theorem dL_isAfter_26 : decode cL_isAfter 26 = .ok (.ireturn, 1) := by decide +kernel
theorem dL_same_0 : decode cL_same 0 = .ok (.aload 4, 2) := by decide +kernel
theorem dL_same_2 : decode cL_same 2 = .ok (.aload_n 0, 1) := by decide +kernel
theorem dL_same_3 : decode cL_same 3 = .ok (.iload_n 1, 1) := by decide +kernel
theorem dL_same_4 : decode cL_same 4 = .ok (.iload_n 2, 1) := by decide +kernel
theorem dL_same_5 : decode cL_same 5 = .ok (.iload_n 3, 1) := by decide +kernel
theorem dL_same_6 : decode cL_same 6 = .ok (.invokevirtual 95, 3) := by decide +kernel
theorem dL_same_9 : decode cL_same 9 = .ok (.ifCond .eq 7, 3) := by decide +kernel
theorem dL_same_12 : decode cL_same 12 = .ok (.lconst 1, 1) := by decide +kernel
theorem dL_same_13 : decode cL_same 13 = .ok (.goto 4, 3) := by decide +kernel
theorem dL_same_16 : decode cL_same 16 = .ok (.lconst 0, 1) := by decide +kernel
theorem dL_same_17 : decode cL_same 17 = .ok (.putfield 13, 3) := by decide +kernel
theorem dL_same_20 : decode cL_same 20 = .ok (.goto 11, 3) := by decide +kernel
theorem dL_same_23 : decode cL_same 23 = .ok (.astore 5, 2) := by decide +kernel
theorem dL_same_25 : decode cL_same 25 = .ok (.iconst 1, 1) := by decide +kernel
theorem dL_same_26 : decode cL_same 26 = .ok (.ireturn, 1) := by decide +kernel
theorem dL_same_27 : decode cL_same 27 = .ok (.astore 5, 2) := by decide +kernel
theorem dL_same_29 : decode cL_same 29 = .ok (.iconst 2, 1) := by decide +kernel
theorem dL_same_30 : decode cL_same 30 = .ok (.ireturn, 1) := by decide +kernel
theorem dL_same_31 : decode cL_same 31 = .ok (.iconst 0, 1) := by decide +kernel
theorem dL_same_32 : decode cL_same 32 = .ok (.ireturn, 1) := by decide +kernel
theorem dL_apart_0 : decode cL_apart 0 = .ok (.aload 4, 2) := by decide +kernel
theorem dL_apart_2 : decode cL_apart 2 = .ok (.aload_n 0, 1) := by decide +kernel
theorem dL_apart_3 : decode cL_apart 3 = .ok (.iload_n 1, 1) := by decide +kernel
theorem dL_apart_4 : decode cL_apart 4 = .ok (.iload_n 2, 1) := by decide +kernel
theorem dL_apart_5 : decode cL_apart 5 = .ok (.iload_n 3, 1) := by decide +kernel
theorem dL_apart_6 : decode cL_apart 6 = .ok (.invokevirtual 99, 3) := by decide +kernel
theorem dL_apart_9 : decode cL_apart 9 = .ok (.i2l, 1) := by decide +kernel
theorem dL_apart_10 : decode cL_apart 10 = .ok (.putfield 13, 3) := by decide +kernel
theorem dL_apart_13 : decode cL_apart 13 = .ok (.goto 11, 3) := by decide +kernel
theorem dL_apart_16 : decode cL_apart 16 = .ok (.astore 5, 2) := by decide +kernel
theorem dL_apart_18 : decode cL_apart 18 = .ok (.iconst 1, 1) := by decide +kernel
theorem dL_apart_19 : decode cL_apart 19 = .ok (.ireturn, 1) := by decide +kernel
theorem dL_apart_20 : decode cL_apart 20 = .ok (.astore 5, 2) := by decide +kernel
theorem dL_apart_22 : decode cL_apart 22 = .ok (.iconst 2, 1) := by decide +kernel
theorem dL_apart_23 : decode cL_apart 23 = .ok (.ireturn, 1) := by decide +kernel
theorem dL_apart_24 : decode cL_apart 24 = .ok (.iconst 0, 1) := by decide +kernel
theorem dL_apart_25 : decode cL_apart 25 = .ok (.ireturn, 1) := by decide +kernel
theorem dL_calendar_0 : decode cL_calendar 0 = .ok (.aload_n 2, 1) := by decide +kernel
theorem dL_calendar_1 : decode cL_calendar 1 = .ok (.aload_n 0, 1) := by decide +kernel
theorem dL_calendar_2 : decode cL_calendar 2 = .ok (.iload_n 1, 1) := by decide +kernel
theorem dL_calendar_3 : decode cL_calendar 3 = .ok (.invokevirtual 102, 3) := by decide +kernel
theorem dL_calendar_6 : decode cL_calendar 6 = .ok (.i2l, 1) := by decide +kernel
theorem dL_calendar_7 : decode cL_calendar 7 = .ok (.putfield 13, 3) := by decide +kernel
theorem dL_calendar_10 : decode cL_calendar 10 = .ok (.goto 6, 3) := by decide +kernel
theorem dL_calendar_13 : decode cL_calendar 13 = .ok (.astore_n 3, 1) := by decide +kernel
theorem dL_calendar_14 : decode cL_calendar 14 = .ok (.iconst 1, 1) := by decide +kernel
theorem dL_calendar_15 : decode cL_calendar 15 = .ok (.ireturn, 1) := by decide +kernel
theorem dL_calendar_16 : decode cL_calendar 16 = .ok (.iconst 0, 1) := by decide +kernel
theorem dL_calendar_17 : decode cL_calendar 17 = .ok (.ireturn, 1) := by decide +kernel
theorem dL_ofSpan_0 : decode cL_ofSpan 0 = .ok (.aload_n 3, 1) := by decide +kernel
theorem dL_ofSpan_1 : decode cL_ofSpan 1 = .ok (.aload_n 0, 1) := by decide +kernel
theorem dL_ofSpan_2 : decode cL_ofSpan 2 = .ok (.iload_n 1, 1) := by decide +kernel
theorem dL_ofSpan_3 : decode cL_ofSpan 3 = .ok (.iload_n 2, 1) := by decide +kernel
theorem dL_ofSpan_4 : decode cL_ofSpan 4 = .ok (.invokevirtual 105, 3) := by decide +kernel
theorem dL_ofSpan_7 : decode cL_ofSpan 7 = .ok (.i2l, 1) := by decide +kernel
theorem dL_ofSpan_8 : decode cL_ofSpan 8 = .ok (.putfield 13, 3) := by decide +kernel
theorem dL_ofSpan_11 : decode cL_ofSpan 11 = .ok (.goto 11, 3) := by decide +kernel
theorem dL_ofSpan_14 : decode cL_ofSpan 14 = .ok (.astore 4, 2) := by decide +kernel
theorem dL_ofSpan_16 : decode cL_ofSpan 16 = .ok (.iconst 1, 1) := by decide +kernel
theorem dL_ofSpan_17 : decode cL_ofSpan 17 = .ok (.ireturn, 1) := by decide +kernel
theorem dL_ofSpan_18 : decode cL_ofSpan 18 = .ok (.astore 4, 2) := by decide +kernel
theorem dL_ofSpan_20 : decode cL_ofSpan 20 = .ok (.iconst 2, 1) := by decide +kernel
theorem dL_ofSpan_21 : decode cL_ofSpan 21 = .ok (.ireturn, 1) := by decide +kernel
theorem dL_ofSpan_22 : decode cL_ofSpan 22 = .ok (.iconst 0, 1) := by decide +kernel
theorem dL_ofSpan_23 : decode cL_ofSpan 23 = .ok (.ireturn, 1) := by decide +kernel
theorem dL_meets_0 : decode cL_meets 0 = .ok (.aload_n 3, 1) := by decide +kernel
theorem dL_meets_1 : decode cL_meets 1 = .ok (.aload_n 0, 1) := by decide +kernel
theorem dL_meets_2 : decode cL_meets 2 = .ok (.iload_n 1, 1) := by decide +kernel
theorem dL_meets_3 : decode cL_meets 3 = .ok (.iload_n 2, 1) := by decide +kernel
theorem dL_meets_4 : decode cL_meets 4 = .ok (.invokevirtual 108, 3) := by decide +kernel
theorem dL_meets_7 : decode cL_meets 7 = .ok (.ifCond .eq 7, 3) := by decide +kernel
theorem dL_meets_10 : decode cL_meets 10 = .ok (.lconst 1, 1) := by decide +kernel
theorem dL_meets_11 : decode cL_meets 11 = .ok (.goto 4, 3) := by decide +kernel
theorem dL_meets_14 : decode cL_meets 14 = .ok (.lconst 0, 1) := by decide +kernel
theorem dL_meets_15 : decode cL_meets 15 = .ok (.putfield 13, 3) := by decide +kernel
theorem dL_meets_18 : decode cL_meets 18 = .ok (.goto 7, 3) := by decide +kernel
theorem dL_meets_21 : decode cL_meets 21 = .ok (.astore 4, 2) := by decide +kernel
theorem dL_meets_23 : decode cL_meets 23 = .ok (.iconst 1, 1) := by decide +kernel
theorem dL_meets_24 : decode cL_meets 24 = .ok (.ireturn, 1) := by decide +kernel
theorem dL_meets_25 : decode cL_meets 25 = .ok (.iconst 0, 1) := by decide +kernel
theorem dL_meets_26 : decode cL_meets 26 = .ok (.ireturn, 1) := by decide +kernel
theorem dL_at_0 : decode cL_at 0 = .ok (.aload_n 2, 1) := by decide +kernel
theorem dL_at_1 : decode cL_at 1 = .ok (.aload_n 0, 1) := by decide +kernel
theorem dL_at_2 : decode cL_at 2 = .ok (.iload_n 1, 1) := by decide +kernel
theorem dL_at_3 : decode cL_at 3 = .ok (.invokevirtual 111, 3) := by decide +kernel
theorem dL_at_6 : decode cL_at 6 = .ok (.i2l, 1) := by decide +kernel
theorem dL_at_7 : decode cL_at 7 = .ok (.putfield 13, 3) := by decide +kernel
theorem dL_at_10 : decode cL_at 10 = .ok (.goto 6, 3) := by decide +kernel
theorem dL_at_13 : decode cL_at 13 = .ok (.astore_n 3, 1) := by decide +kernel
theorem dL_at_14 : decode cL_at 14 = .ok (.iconst 1, 1) := by decide +kernel
theorem dL_at_15 : decode cL_at 15 = .ok (.ireturn, 1) := by decide +kernel
theorem dL_at_16 : decode cL_at 16 = .ok (.iconst 0, 1) := by decide +kernel
theorem dL_at_17 : decode cL_at 17 = .ok (.ireturn, 1) := by decide +kernel
theorem dL_isFree_0 : decode cL_isFree 0 = .ok (.aload_n 3, 1) := by decide +kernel
theorem dL_isFree_1 : decode cL_isFree 1 = .ok (.aload_n 0, 1) := by decide +kernel
theorem dL_isFree_2 : decode cL_isFree 2 = .ok (.iload_n 1, 1) := by decide +kernel
theorem dL_isFree_3 : decode cL_isFree 3 = .ok (.iload_n 2, 1) := by decide +kernel
theorem dL_isFree_4 : decode cL_isFree 4 = .ok (.invokevirtual 114, 3) := by decide +kernel
theorem dL_isFree_7 : decode cL_isFree 7 = .ok (.ifCond .eq 7, 3) := by decide +kernel
theorem dL_isFree_10 : decode cL_isFree 10 = .ok (.lconst 1, 1) := by decide +kernel
theorem dL_isFree_11 : decode cL_isFree 11 = .ok (.goto 4, 3) := by decide +kernel
theorem dL_isFree_14 : decode cL_isFree 14 = .ok (.lconst 0, 1) := by decide +kernel
theorem dL_isFree_15 : decode cL_isFree 15 = .ok (.putfield 13, 3) := by decide +kernel
theorem dL_isFree_18 : decode cL_isFree 18 = .ok (.goto 7, 3) := by decide +kernel
theorem dL_isFree_21 : decode cL_isFree 21 = .ok (.astore 4, 2) := by decide +kernel
theorem dL_isFree_23 : decode cL_isFree 23 = .ok (.iconst 1, 1) := by decide +kernel
theorem dL_isFree_24 : decode cL_isFree 24 = .ok (.ireturn, 1) := by decide +kernel
theorem dL_isFree_25 : decode cL_isFree 25 = .ok (.iconst 0, 1) := by decide +kernel
theorem dL_isFree_26 : decode cL_isFree 26 = .ok (.ireturn, 1) := by decide +kernel
theorem dL_ofFree_0 : decode cL_ofFree 0 = .ok (.aload_n 3, 1) := by decide +kernel
theorem dL_ofFree_1 : decode cL_ofFree 1 = .ok (.aload_n 0, 1) := by decide +kernel
theorem dL_ofFree_2 : decode cL_ofFree 2 = .ok (.iload_n 1, 1) := by decide +kernel
theorem dL_ofFree_3 : decode cL_ofFree 3 = .ok (.iload_n 2, 1) := by decide +kernel
theorem dL_ofFree_4 : decode cL_ofFree 4 = .ok (.invokevirtual 117, 3) := by decide +kernel
theorem dL_ofFree_7 : decode cL_ofFree 7 = .ok (.i2l, 1) := by decide +kernel
theorem dL_ofFree_8 : decode cL_ofFree 8 = .ok (.putfield 13, 3) := by decide +kernel
theorem dL_ofFree_11 : decode cL_ofFree 11 = .ok (.goto 11, 3) := by decide +kernel
theorem dL_ofFree_14 : decode cL_ofFree 14 = .ok (.astore 4, 2) := by decide +kernel
theorem dL_ofFree_16 : decode cL_ofFree 16 = .ok (.iconst 1, 1) := by decide +kernel
theorem dL_ofFree_17 : decode cL_ofFree 17 = .ok (.ireturn, 1) := by decide +kernel
theorem dL_ofFree_18 : decode cL_ofFree 18 = .ok (.astore 4, 2) := by decide +kernel
theorem dL_ofFree_20 : decode cL_ofFree 20 = .ok (.iconst 2, 1) := by decide +kernel
theorem dL_ofFree_21 : decode cL_ofFree 21 = .ok (.ireturn, 1) := by decide +kernel
theorem dL_ofFree_22 : decode cL_ofFree 22 = .ok (.iconst 0, 1) := by decide +kernel
theorem dL_ofFree_23 : decode cL_ofFree 23 = .ok (.ireturn, 1) := by decide +kernel
theorem dL_freeAt_0 : decode cL_freeAt 0 = .ok (.aload_n 2, 1) := by decide +kernel
theorem dL_freeAt_1 : decode cL_freeAt 1 = .ok (.aload_n 0, 1) := by decide +kernel
theorem dL_freeAt_2 : decode cL_freeAt 2 = .ok (.iload_n 1, 1) := by decide +kernel
theorem dL_freeAt_3 : decode cL_freeAt 3 = .ok (.invokevirtual 120, 3) := by decide +kernel
theorem dL_freeAt_6 : decode cL_freeAt 6 = .ok (.i2l, 1) := by decide +kernel
theorem dL_freeAt_7 : decode cL_freeAt 7 = .ok (.putfield 13, 3) := by decide +kernel
theorem dL_freeAt_10 : decode cL_freeAt 10 = .ok (.goto 6, 3) := by decide +kernel
theorem dL_freeAt_13 : decode cL_freeAt 13 = .ok (.astore_n 3, 1) := by decide +kernel
theorem dL_freeAt_14 : decode cL_freeAt 14 = .ok (.iconst 1, 1) := by decide +kernel
theorem dL_freeAt_15 : decode cL_freeAt 15 = .ok (.ireturn, 1) := by decide +kernel
theorem dL_freeAt_16 : decode cL_freeAt 16 = .ok (.iconst 0, 1) := by decide +kernel
theorem dL_freeAt_17 : decode cL_freeAt 17 = .ok (.ireturn, 1) := by decide +kernel
theorem dL_length_0 : decode cL_length 0 = .ok (.aload_n 2, 1) := by decide +kernel
theorem dL_length_1 : decode cL_length 1 = .ok (.aload_n 0, 1) := by decide +kernel
theorem dL_length_2 : decode cL_length 2 = .ok (.iload_n 1, 1) := by decide +kernel
theorem dL_length_3 : decode cL_length 3 = .ok (.invokevirtual 123, 3) := by decide +kernel
theorem dL_length_6 : decode cL_length 6 = .ok (.i2l, 1) := by decide +kernel
theorem dL_length_7 : decode cL_length 7 = .ok (.putfield 13, 3) := by decide +kernel
theorem dL_length_10 : decode cL_length 10 = .ok (.goto 6, 3) := by decide +kernel
theorem dL_length_13 : decode cL_length 13 = .ok (.astore_n 3, 1) := by decide +kernel
theorem dL_length_14 : decode cL_length 14 = .ok (.iconst 1, 1) := by decide +kernel
theorem dL_length_15 : decode cL_length 15 = .ok (.ireturn, 1) := by decide +kernel
theorem dL_length_16 : decode cL_length 16 = .ok (.iconst 0, 1) := by decide +kernel
theorem dL_length_17 : decode cL_length 17 = .ok (.ireturn, 1) := by decide +kernel
theorem dL_ofWish_0 : decode cL_ofWish 0 = .ok (.aload_n 3, 1) := by decide +kernel
theorem dL_ofWish_1 : decode cL_ofWish 1 = .ok (.aload_n 0, 1) := by decide +kernel
theorem dL_ofWish_2 : decode cL_ofWish 2 = .ok (.iload_n 1, 1) := by decide +kernel
theorem dL_ofWish_3 : decode cL_ofWish 3 = .ok (.iload_n 2, 1) := by decide +kernel
theorem dL_ofWish_4 : decode cL_ofWish 4 = .ok (.invokevirtual 126, 3) := by decide +kernel
theorem dL_ofWish_7 : decode cL_ofWish 7 = .ok (.i2l, 1) := by decide +kernel
theorem dL_ofWish_8 : decode cL_ofWish 8 = .ok (.putfield 13, 3) := by decide +kernel
theorem dL_ofWish_11 : decode cL_ofWish 11 = .ok (.goto 11, 3) := by decide +kernel
theorem dL_ofWish_14 : decode cL_ofWish 14 = .ok (.astore 4, 2) := by decide +kernel
theorem dL_ofWish_16 : decode cL_ofWish 16 = .ok (.iconst 1, 1) := by decide +kernel
theorem dL_ofWish_17 : decode cL_ofWish 17 = .ok (.ireturn, 1) := by decide +kernel
theorem dL_ofWish_18 : decode cL_ofWish 18 = .ok (.astore 4, 2) := by decide +kernel
theorem dL_ofWish_20 : decode cL_ofWish 20 = .ok (.iconst 2, 1) := by decide +kernel
theorem dL_ofWish_21 : decode cL_ofWish 21 = .ok (.ireturn, 1) := by decide +kernel
theorem dL_ofWish_22 : decode cL_ofWish 22 = .ok (.iconst 0, 1) := by decide +kernel
theorem dL_ofWish_23 : decode cL_ofWish 23 = .ok (.ireturn, 1) := by decide +kernel
theorem dL_isApart_0 : decode cL_isApart 0 = .ok (.aload_n 2, 1) := by decide +kernel
theorem dL_isApart_1 : decode cL_isApart 1 = .ok (.aload_n 0, 1) := by decide +kernel
theorem dL_isApart_2 : decode cL_isApart 2 = .ok (.iload_n 1, 1) := by decide +kernel
theorem dL_isApart_3 : decode cL_isApart 3 = .ok (.invokevirtual 129, 3) := by decide +kernel
theorem dL_isApart_6 : decode cL_isApart 6 = .ok (.ifCond .eq 7, 3) := by decide +kernel
theorem dL_isApart_9 : decode cL_isApart 9 = .ok (.lconst 1, 1) := by decide +kernel
theorem dL_isApart_10 : decode cL_isApart 10 = .ok (.goto 4, 3) := by decide +kernel
theorem dL_isApart_13 : decode cL_isApart 13 = .ok (.lconst 0, 1) := by decide +kernel
theorem dL_isApart_14 : decode cL_isApart 14 = .ok (.putfield 13, 3) := by decide +kernel
theorem dL_isApart_17 : decode cL_isApart 17 = .ok (.goto 6, 3) := by decide +kernel
theorem dL_isApart_20 : decode cL_isApart 20 = .ok (.astore_n 3, 1) := by decide +kernel
theorem dL_isApart_21 : decode cL_isApart 21 = .ok (.iconst 1, 1) := by decide +kernel
theorem dL_isApart_22 : decode cL_isApart 22 = .ok (.ireturn, 1) := by decide +kernel
theorem dL_isApart_23 : decode cL_isApart 23 = .ok (.iconst 0, 1) := by decide +kernel
theorem dL_isApart_24 : decode cL_isApart 24 = .ok (.ireturn, 1) := by decide +kernel
theorem dL_most_0 : decode cL_most 0 = .ok (.aload_n 2, 1) := by decide +kernel
theorem dL_most_1 : decode cL_most 1 = .ok (.aload_n 0, 1) := by decide +kernel
theorem dL_most_2 : decode cL_most 2 = .ok (.iload_n 1, 1) := by decide +kernel
theorem dL_most_3 : decode cL_most 3 = .ok (.invokevirtual 133, 3) := by decide +kernel
theorem dL_most_6 : decode cL_most 6 = .ok (.i2l, 1) := by decide +kernel
theorem dL_most_7 : decode cL_most 7 = .ok (.putfield 13, 3) := by decide +kernel
theorem dL_most_10 : decode cL_most 10 = .ok (.goto 6, 3) := by decide +kernel
theorem dL_most_13 : decode cL_most 13 = .ok (.astore_n 3, 1) := by decide +kernel
theorem dL_most_14 : decode cL_most 14 = .ok (.iconst 1, 1) := by decide +kernel
theorem dL_most_15 : decode cL_most 15 = .ok (.ireturn, 1) := by decide +kernel
theorem dL_most_16 : decode cL_most 16 = .ok (.iconst 0, 1) := by decide +kernel
theorem dL_most_17 : decode cL_most 17 = .ok (.ireturn, 1) := by decide +kernel
theorem dL_room_0 : decode cL_room 0 = .ok (.aload_n 2, 1) := by decide +kernel
theorem dL_room_1 : decode cL_room 1 = .ok (.aload_n 0, 1) := by decide +kernel
theorem dL_room_2 : decode cL_room 2 = .ok (.iload_n 1, 1) := by decide +kernel
theorem dL_room_3 : decode cL_room 3 = .ok (.invokevirtual 136, 3) := by decide +kernel
theorem dL_room_6 : decode cL_room 6 = .ok (.i2l, 1) := by decide +kernel
theorem dL_room_7 : decode cL_room 7 = .ok (.putfield 13, 3) := by decide +kernel
theorem dL_room_10 : decode cL_room 10 = .ok (.goto 6, 3) := by decide +kernel
theorem dL_room_13 : decode cL_room 13 = .ok (.astore_n 3, 1) := by decide +kernel
theorem dL_room_14 : decode cL_room 14 = .ok (.iconst 1, 1) := by decide +kernel
theorem dL_room_15 : decode cL_room 15 = .ok (.ireturn, 1) := by decide +kernel
theorem dL_room_16 : decode cL_room 16 = .ok (.iconst 0, 1) := by decide +kernel
theorem dL_room_17 : decode cL_room 17 = .ok (.ireturn, 1) := by decide +kernel
theorem dL_house_0 : decode cL_house 0 = .ok (.aload_n 2, 1) := by decide +kernel
theorem dL_house_1 : decode cL_house 1 = .ok (.aload_n 0, 1) := by decide +kernel
theorem dL_house_2 : decode cL_house 2 = .ok (.iload_n 1, 1) := by decide +kernel
theorem dL_house_3 : decode cL_house 3 = .ok (.invokevirtual 139, 3) := by decide +kernel
theorem dL_house_6 : decode cL_house 6 = .ok (.i2l, 1) := by decide +kernel
theorem dL_house_7 : decode cL_house 7 = .ok (.putfield 13, 3) := by decide +kernel
theorem dL_house_10 : decode cL_house 10 = .ok (.goto 6, 3) := by decide +kernel
theorem dL_house_13 : decode cL_house 13 = .ok (.astore_n 3, 1) := by decide +kernel
theorem dL_house_14 : decode cL_house 14 = .ok (.iconst 1, 1) := by decide +kernel
theorem dL_house_15 : decode cL_house 15 = .ok (.ireturn, 1) := by decide +kernel
theorem dL_house_16 : decode cL_house 16 = .ok (.iconst 0, 1) := by decide +kernel
theorem dL_house_17 : decode cL_house 17 = .ok (.ireturn, 1) := by decide +kernel
theorem dL_text_0 : decode cL_text 0 = .ok (.aload_n 2, 1) := by decide +kernel
theorem dL_text_1 : decode cL_text 1 = .ok (.aload_n 0, 1) := by decide +kernel
theorem dL_text_2 : decode cL_text 2 = .ok (.iload_n 1, 1) := by decide +kernel
theorem dL_text_3 : decode cL_text 3 = .ok (.invokevirtual 77, 3) := by decide +kernel
theorem dL_text_6 : decode cL_text 6 = .ok (.putfield 81, 3) := by decide +kernel
theorem dL_text_9 : decode cL_text 9 = .ok (.goto 6, 3) := by decide +kernel
theorem dL_text_12 : decode cL_text 12 = .ok (.astore_n 3, 1) := by decide +kernel
theorem dL_text_13 : decode cL_text 13 = .ok (.iconst 1, 1) := by decide +kernel
theorem dL_text_14 : decode cL_text 14 = .ok (.ireturn, 1) := by decide +kernel
theorem dL_text_15 : decode cL_text 15 = .ok (.iconst 0, 1) := by decide +kernel
theorem dL_text_16 : decode cL_text 16 = .ok (.ireturn, 1) := by decide +kernel
theorem op_3 (pc : Nat) : kOp pc 3 := ⟨_, rfl, sh_pure _⟩
theorem op_4 (pc : Nat) : kOp pc 4 := ⟨_, rfl, sh_pure _⟩
theorem op_5 (pc : Nat) : kOp pc 5 := ⟨_, rfl, sh_pure _⟩
theorem op_6 (pc : Nat) : kOp pc 6 := ⟨_, rfl, sh_pure _⟩
theorem op_7 (pc : Nat) : kOp pc 7 := ⟨_, rfl, sh_pure _⟩
theorem op_8 (pc : Nat) : kOp pc 8 := ⟨_, rfl, sh_pure _⟩
theorem op_16 (pc : Nat) : kOp pc 16 := ⟨_, rfl, sh_bind sh_s1 fun _ => sh_pure _⟩
theorem op_21 (pc : Nat) : kOp pc 21 := ⟨_, rfl, sh_bind sh_u1 fun _ => sh_pure _⟩
theorem op_42 (pc : Nat) : kOp pc 42 := ⟨_, rfl, sh_pure _⟩
theorem op_43 (pc : Nat) : kOp pc 43 := ⟨_, rfl, sh_pure _⟩
theorem op_44 (pc : Nat) : kOp pc 44 := ⟨_, rfl, sh_pure _⟩
theorem op_45 (pc : Nat) : kOp pc 45 := ⟨_, rfl, sh_pure _⟩
theorem op_46 (pc : Nat) : kOp pc 46 := ⟨_, rfl, sh_pure _⟩
theorem op_54 (pc : Nat) : kOp pc 54 := ⟨_, rfl, sh_bind sh_u1 fun _ => sh_pure _⟩
theorem op_58 (pc : Nat) : kOp pc 58 := ⟨_, rfl, sh_bind sh_u1 fun _ => sh_pure _⟩
theorem op_76 (pc : Nat) : kOp pc 76 := ⟨_, rfl, sh_pure _⟩
theorem op_77 (pc : Nat) : kOp pc 77 := ⟨_, rfl, sh_pure _⟩
theorem op_78 (pc : Nat) : kOp pc 78 := ⟨_, rfl, sh_pure _⟩
theorem op_87 (pc : Nat) : kOp pc 87 := ⟨_, rfl, sh_pure _⟩
theorem op_88 (pc : Nat) : kOp pc 88 := ⟨_, rfl, sh_pure _⟩
theorem op_89 (pc : Nat) : kOp pc 89 := ⟨_, rfl, sh_pure _⟩
theorem op_96 (pc : Nat) : kOp pc 96 := ⟨_, rfl, sh_pure _⟩
theorem op_100 (pc : Nat) : kOp pc 100 := ⟨_, rfl, sh_pure _⟩
theorem op_126 (pc : Nat) : kOp pc 126 := ⟨_, rfl, sh_pure _⟩
theorem op_132 (pc : Nat) : kOp pc 132 := ⟨_, rfl, sh_bind sh_u1 fun _ => sh_bind sh_s1 fun _ => sh_pure _⟩
theorem op_133 (pc : Nat) : kOp pc 133 := ⟨_, rfl, sh_pure _⟩
theorem op_148 (pc : Nat) : kOp pc 148 := ⟨_, rfl, sh_pure _⟩
theorem op_153 (pc : Nat) : kOp pc 153 := ⟨_, rfl, sh_bind sh_s2 fun _ => sh_pure _⟩
theorem op_154 (pc : Nat) : kOp pc 154 := ⟨_, rfl, sh_bind sh_s2 fun _ => sh_pure _⟩
theorem op_159 (pc : Nat) : kOp pc 159 := ⟨_, rfl, sh_bind sh_s2 fun _ => sh_pure _⟩
theorem op_163 (pc : Nat) : kOp pc 163 := ⟨_, rfl, sh_bind sh_s2 fun _ => sh_pure _⟩
theorem op_167 (pc : Nat) : kOp pc 167 := ⟨_, rfl, sh_bind sh_s2 fun _ => sh_pure _⟩
theorem op_172 (pc : Nat) : kOp pc 172 := ⟨_, rfl, sh_pure _⟩
theorem op_180 (pc : Nat) : kOp pc 180 := ⟨_, rfl, sh_bind sh_u2 fun _ => sh_pure _⟩
theorem op_182 (pc : Nat) : kOp pc 182 := ⟨_, rfl, sh_bind sh_u2 fun _ => sh_pure _⟩
theorem op_183 (pc : Nat) : kOp pc 183 := ⟨_, rfl, sh_bind sh_u2 fun _ => sh_pure _⟩
theorem op_184 (pc : Nat) : kOp pc 184 := ⟨_, rfl, sh_bind sh_u2 fun _ => sh_pure _⟩
theorem op_187 (pc : Nat) : kOp pc 187 := ⟨_, rfl, sh_bind sh_u2 fun _ => sh_pure _⟩
theorem op_190 (pc : Nat) : kOp pc 190 := ⟨_, rfl, sh_pure _⟩
theorem kM_0 : (cL_law.data.toList.drop 0).take 72 = [187, 0, 8, 89, 183, 0, 142, 76, 187, 0, 143, 89, 183, 0, 145, 77, 187, 0, 14, 89, 183, 0, 146, 78, 3, 54, 4, 21, 4, 42, 190, 8, 100, 163, 7, 54, 42, 21, 4, 46, 16, 63, 126, 170, 0, 0, 7, 38, 0, 0, 0, 0, 0, 0, 0, 47, 0, 0, 0, 205, 0, 0, 1, 1, 0, 0, 1, 81, 0, 0, 1, 121] := by decide +kernel
theorem kM_192 : (cL_law.data.toList.drop 192).take 72 = [0, 0, 5, 251, 0, 0, 6, 23, 0, 0, 6, 51, 0, 0, 6, 64, 0, 0, 6, 104, 0, 0, 6, 132, 0, 0, 6, 145, 0, 0, 6, 173, 0, 0, 6, 186, 0, 0, 6, 214, 0, 0, 6, 227, 0, 0, 6, 255, 0, 0, 7, 12, 0, 0, 7, 25, 43, 42, 21, 4, 4, 96, 46, 42, 21, 4, 5, 96, 46, 42, 21, 4] := by decide +kernel
theorem kM_256 : (cL_law.data.toList.drop 256).take 72 = [21, 4, 5, 96, 46, 42, 21, 4, 6, 96, 46, 45, 184, 0, 147, 54, 5, 44, 42, 21, 4, 4, 96, 46, 42, 21, 4, 5, 96, 46, 42, 21, 4, 6, 96, 46, 182, 0, 152, 54, 6, 167, 6, 40, 43, 42, 21, 4, 4, 96, 46, 42, 21, 4, 5, 96, 46, 42, 21, 4, 6, 96, 46, 42, 21, 4, 7, 96, 46, 153, 0, 7] := by decide +kernel
theorem kM_320 : (cL_law.data.toList.drop 320).take 72 = [21, 4, 7, 96, 46, 153, 0, 7, 4, 167, 0, 4, 3, 45, 184, 0, 153, 54, 5, 44, 42, 21, 4, 4, 96, 46, 42, 21, 4, 5, 96, 46, 42, 21, 4, 6, 96, 46, 42, 21, 4, 7, 96, 46, 153, 0, 7, 4, 167, 0, 4, 3, 182, 0, 156, 54, 6, 167, 5, 216, 43, 42, 21, 4, 4, 96, 46, 42, 21, 4, 5, 96] := by decide +kernel
theorem kM_384 : (cL_law.data.toList.drop 384).take 72 = [4, 96, 46, 42, 21, 4, 5, 96, 46, 45, 184, 0, 157, 54, 5, 44, 42, 21, 4, 4, 96, 46, 42, 21, 4, 5, 96, 46, 182, 0, 160, 54, 6, 167, 5, 176, 43, 42, 21, 4, 4, 96, 46, 42, 21, 4, 5, 96, 46, 45, 184, 0, 161, 54, 5, 44, 42, 21, 4, 4, 96, 46, 42, 21, 4, 5, 96, 46, 182, 0, 163, 54] := by decide +kernel
theorem kM_448 : (cL_law.data.toList.drop 448).take 72 = [4, 5, 96, 46, 182, 0, 163, 54, 6, 167, 5, 136, 43, 42, 21, 4, 4, 96, 46, 153, 0, 7, 4, 167, 0, 4, 3, 42, 21, 4, 5, 96, 46, 45, 184, 0, 164, 54, 5, 44, 42, 21, 4, 4, 96, 46, 153, 0, 7, 4, 167, 0, 4, 3, 42, 21, 4, 5, 96, 46, 182, 0, 167, 54, 6, 44, 182, 0, 168, 21, 5, 159] := by decide +kernel
theorem kM_512 : (cL_law.data.toList.drop 512).take 72 = [6, 44, 182, 0, 168, 21, 5, 159, 0, 5, 3, 172, 21, 5, 154, 0, 16, 45, 180, 0, 13, 21, 6, 133, 148, 153, 0, 5, 3, 172, 167, 5, 51, 43, 42, 21, 4, 4, 96, 46, 42, 21, 4, 5, 96, 46, 45, 184, 0, 172, 54, 5, 44, 42, 21, 4, 4, 96, 46, 42, 21, 4, 5, 96, 46, 182, 0, 174, 54, 6, 167, 5] := by decide +kernel
theorem kM_576 : (cL_law.data.toList.drop 576).take 72 = [46, 182, 0, 174, 54, 6, 167, 5, 11, 43, 42, 21, 4, 4, 96, 46, 42, 21, 4, 5, 96, 46, 45, 184, 0, 175, 54, 5, 44, 42, 21, 4, 4, 96, 46, 42, 21, 4, 5, 96, 46, 182, 0, 177, 54, 6, 167, 4, 227, 43, 42, 21, 4, 4, 96, 46, 42, 21, 4, 5, 96, 46, 42, 21, 4, 6, 96, 46, 153, 0, 7, 4] := by decide +kernel
theorem kM_640 : (cL_law.data.toList.drop 640).take 72 = [4, 6, 96, 46, 153, 0, 7, 4, 167, 0, 4, 3, 45, 184, 0, 178, 54, 5, 44, 42, 21, 4, 4, 96, 46, 42, 21, 4, 5, 96, 46, 42, 21, 4, 6, 96, 46, 153, 0, 7, 4, 167, 0, 4, 3, 182, 0, 181, 54, 6, 167, 4, 159, 43, 42, 21, 4, 4, 96, 46, 45, 184, 0, 182, 54, 5, 44, 42, 21, 4, 4, 96] := by decide +kernel
theorem kM_704 : (cL_law.data.toList.drop 704).take 72 = [54, 5, 44, 42, 21, 4, 4, 96, 46, 182, 0, 185, 54, 6, 167, 4, 131, 43, 182, 0, 186, 87, 44, 182, 0, 189, 87, 167, 4, 118, 43, 42, 21, 4, 4, 96, 46, 42, 21, 4, 5, 96, 46, 42, 21, 4, 6, 96, 46, 45, 184, 0, 190, 54, 5, 44, 42, 21, 4, 4, 96, 46, 42, 21, 4, 5, 96, 46, 42, 21, 4, 6] := by decide +kernel
theorem kM_768 : (cL_law.data.toList.drop 768).take 72 = [4, 5, 96, 46, 42, 21, 4, 6, 96, 46, 182, 0, 192, 54, 6, 167, 4, 66, 43, 42, 21, 4, 4, 96, 46, 42, 21, 4, 5, 96, 46, 42, 21, 4, 6, 96, 46, 45, 184, 0, 193, 54, 5, 44, 42, 21, 4, 4, 96, 46, 42, 21, 4, 5, 96, 46, 42, 21, 4, 6, 96, 46, 182, 0, 195, 54, 6, 167, 4, 14, 43, 42] := by decide +kernel
theorem kM_832 : (cL_law.data.toList.drop 832).take 72 = [195, 54, 6, 167, 4, 14, 43, 42, 21, 4, 4, 96, 46, 42, 21, 4, 5, 96, 46, 42, 21, 4, 6, 96, 46, 42, 21, 4, 7, 96, 46, 45, 184, 0, 196, 54, 5, 44, 42, 21, 4, 4, 96, 46, 42, 21, 4, 5, 96, 46, 42, 21, 4, 6, 96, 46, 42, 21, 4, 7, 96, 46, 182, 0, 199, 54, 6, 167, 3, 206, 43, 42] := by decide +kernel
theorem kM_896 : (cL_law.data.toList.drop 896).take 72 = [199, 54, 6, 167, 3, 206, 43, 42, 21, 4, 4, 96, 46, 42, 21, 4, 5, 96, 46, 45, 184, 0, 200, 54, 5, 44, 42, 21, 4, 4, 96, 46, 42, 21, 4, 5, 96, 46, 182, 0, 202, 54, 6, 167, 3, 166, 43, 42, 21, 4, 4, 96, 46, 45, 184, 0, 203, 54, 5, 44, 42, 21, 4, 4, 96, 46, 182, 0, 205, 54, 6, 167] := by decide +kernel
theorem kM_960 : (cL_law.data.toList.drop 960).take 72 = [96, 46, 182, 0, 205, 54, 6, 167, 3, 138, 43, 42, 21, 4, 4, 96, 46, 45, 184, 0, 206, 54, 5, 44, 42, 21, 4, 4, 96, 46, 182, 0, 208, 54, 6, 167, 3, 110, 43, 42, 21, 4, 4, 96, 46, 45, 184, 0, 209, 54, 5, 44, 42, 21, 4, 4, 96, 46, 182, 0, 211, 54, 6, 167, 3, 82, 43, 42, 21, 4, 4, 96] := by decide +kernel
theorem kM_1024 : (cL_law.data.toList.drop 1024).take 72 = [3, 82, 43, 42, 21, 4, 4, 96, 46, 45, 184, 0, 212, 54, 5, 44, 42, 21, 4, 4, 96, 46, 182, 0, 214, 54, 6, 167, 3, 54, 43, 42, 21, 4, 4, 96, 46, 45, 184, 0, 215, 54, 5, 44, 42, 21, 4, 4, 96, 46, 182, 0, 217, 58, 6, 167, 3, 26, 43, 42, 21, 4, 4, 96, 46, 42, 21, 4, 5, 96, 46, 45] := by decide +kernel
theorem kM_1088 : (cL_law.data.toList.drop 1088).take 72 = [46, 42, 21, 4, 5, 96, 46, 45, 184, 0, 218, 54, 5, 44, 42, 21, 4, 4, 96, 46, 42, 21, 4, 5, 96, 46, 182, 0, 220, 54, 6, 167, 2, 242, 43, 42, 21, 4, 4, 96, 46, 42, 21, 4, 5, 96, 46, 45, 184, 0, 221, 54, 5, 44, 42, 21, 4, 4, 96, 46, 42, 21, 4, 5, 96, 46, 182, 0, 223, 54, 6, 167] := by decide +kernel
theorem kM_1152 : (cL_law.data.toList.drop 1152).take 72 = [96, 46, 182, 0, 223, 54, 6, 167, 2, 202, 43, 42, 21, 4, 4, 96, 46, 42, 21, 4, 5, 96, 46, 45, 184, 0, 224, 54, 5, 44, 42, 21, 4, 4, 96, 46, 42, 21, 4, 5, 96, 46, 182, 0, 226, 54, 6, 167, 2, 162, 43, 42, 21, 4, 4, 96, 46, 42, 21, 4, 5, 96, 46, 42, 21, 4, 6, 96, 46, 45, 184, 0] := by decide +kernel
theorem kM_1216 : (cL_law.data.toList.drop 1216).take 72 = [21, 4, 6, 96, 46, 45, 184, 0, 227, 54, 5, 44, 42, 21, 4, 4, 96, 46, 42, 21, 4, 5, 96, 46, 42, 21, 4, 6, 96, 46, 182, 0, 229, 54, 6, 167, 2, 110, 43, 42, 21, 4, 4, 96, 46, 42, 21, 4, 5, 96, 46, 42, 21, 4, 6, 96, 46, 45, 184, 0, 230, 54, 5, 44, 42, 21, 4, 4, 96, 46, 42, 21] := by decide +kernel
theorem kM_1280 : (cL_law.data.toList.drop 1280).take 72 = [42, 21, 4, 4, 96, 46, 42, 21, 4, 5, 96, 46, 42, 21, 4, 6, 96, 46, 182, 0, 232, 54, 6, 167, 2, 58, 43, 42, 21, 4, 4, 96, 46, 45, 184, 0, 233, 54, 5, 44, 42, 21, 4, 4, 96, 46, 182, 0, 235, 54, 6, 167, 2, 30, 43, 182, 0, 236, 87, 44, 182, 0, 239, 87, 167, 2, 17, 43, 42, 21, 4, 4] := by decide +kernel
theorem kM_1344 : (cL_law.data.toList.drop 1344).take 72 = [167, 2, 17, 43, 42, 21, 4, 4, 96, 46, 42, 21, 4, 5, 96, 46, 45, 184, 0, 240, 54, 5, 44, 42, 21, 4, 4, 96, 46, 42, 21, 4, 5, 96, 46, 182, 0, 242, 54, 6, 167, 1, 233, 43, 42, 21, 4, 4, 96, 46, 42, 21, 4, 5, 96, 46, 45, 184, 0, 243, 54, 5, 44, 42, 21, 4, 4, 96, 46, 42, 21, 4] := by decide +kernel
theorem kM_1408 : (cL_law.data.toList.drop 1408).take 72 = [21, 4, 4, 96, 46, 42, 21, 4, 5, 96, 46, 182, 0, 245, 54, 6, 167, 1, 193, 43, 182, 0, 246, 87, 44, 182, 0, 249, 87, 167, 1, 180, 43, 42, 21, 4, 4, 96, 46, 45, 184, 0, 250, 54, 5, 44, 42, 21, 4, 4, 96, 46, 182, 0, 252, 54, 6, 167, 1, 152, 43, 182, 0, 253, 87, 44, 182, 1, 0, 87, 167, 1] := by decide +kernel
theorem kM_1472 : (cL_law.data.toList.drop 1472).take 72 = [87, 44, 182, 1, 0, 87, 167, 1, 139, 43, 42, 21, 4, 4, 96, 46, 42, 21, 4, 5, 96, 46, 45, 184, 1, 1, 54, 5, 44, 42, 21, 4, 4, 96, 46, 42, 21, 4, 5, 96, 46, 182, 1, 3, 54, 6, 167, 1, 99, 43, 182, 1, 4, 87, 44, 182, 1, 7, 87, 167, 1, 86, 43, 42, 21, 4, 4, 96, 46, 42, 21, 4] := by decide +kernel
theorem kM_1536 : (cL_law.data.toList.drop 1536).take 72 = [21, 4, 4, 96, 46, 42, 21, 4, 5, 96, 46, 45, 184, 1, 8, 54, 5, 44, 42, 21, 4, 4, 96, 46, 42, 21, 4, 5, 96, 46, 182, 1, 10, 54, 6, 167, 1, 46, 43, 42, 21, 4, 4, 96, 46, 45, 184, 1, 11, 54, 5, 44, 42, 21, 4, 4, 96, 46, 182, 1, 13, 54, 6, 167, 1, 18, 43, 42, 21, 4, 4, 96] := by decide +kernel
theorem kM_1600 : (cL_law.data.toList.drop 1600).take 72 = [1, 18, 43, 42, 21, 4, 4, 96, 46, 45, 184, 1, 14, 54, 5, 44, 42, 21, 4, 4, 96, 46, 182, 1, 16, 54, 6, 167, 0, 246, 43, 182, 1, 17, 87, 44, 182, 1, 20, 87, 167, 0, 233, 43, 42, 21, 4, 4, 96, 46, 42, 21, 4, 5, 96, 46, 45, 184, 1, 21, 54, 5, 44, 42, 21, 4, 4, 96, 46, 42, 21, 4] := by decide +kernel
theorem kM_1664 : (cL_law.data.toList.drop 1664).take 72 = [21, 4, 4, 96, 46, 42, 21, 4, 5, 96, 46, 182, 1, 23, 54, 6, 167, 0, 193, 43, 42, 21, 4, 4, 96, 46, 45, 184, 1, 24, 54, 5, 44, 42, 21, 4, 4, 96, 46, 182, 1, 26, 54, 6, 167, 0, 165, 43, 182, 1, 27, 87, 44, 182, 1, 30, 87, 167, 0, 152, 43, 42, 21, 4, 4, 96, 46, 45, 184, 1, 31, 54] := by decide +kernel
theorem kM_1728 : (cL_law.data.toList.drop 1728).take 72 = [4, 96, 46, 45, 184, 1, 31, 54, 5, 44, 42, 21, 4, 4, 96, 46, 182, 1, 33, 54, 6, 167, 0, 124, 43, 182, 1, 34, 87, 44, 182, 1, 37, 87, 167, 0, 111, 43, 42, 21, 4, 4, 96, 46, 45, 184, 1, 38, 54, 5, 44, 42, 21, 4, 4, 96, 46, 182, 1, 40, 54, 6, 167, 0, 83, 43, 182, 1, 41, 87, 44, 182] := by decide +kernel
theorem kM_1792 : (cL_law.data.toList.drop 1792).take 72 = [83, 43, 182, 1, 41, 87, 44, 182, 1, 44, 87, 167, 0, 70, 43, 42, 21, 4, 4, 96, 46, 45, 184, 1, 45, 54, 5, 44, 42, 21, 4, 4, 96, 46, 182, 1, 47, 54, 6, 167, 0, 42, 43, 182, 1, 48, 87, 44, 182, 1, 51, 87, 167, 0, 29, 43, 182, 1, 52, 87, 44, 182, 1, 56, 87, 167, 0, 16, 43, 182, 1, 57] := by decide +kernel
theorem kM_1856 : (cL_law.data.toList.drop 1856).take 72 = [87, 167, 0, 16, 43, 182, 1, 57, 88, 44, 182, 1, 61, 88, 167, 0, 3, 132, 4, 5, 167, 248, 199, 4, 172] := by decide +kernel
theorem dL_law_0 : decode cL_law 0 = .ok (.new 8, 3) := kd_row (b0 := 187) (bs := [0, 8]) (op_187 0) (kd_win kM_0 (j := 0) rfl rfl (Nat.le_of_ble_eq_true rfl)) (by decide +kernel)
theorem dL_law_3 : decode cL_law 3 = .ok (.dup, 1) := kd_row (b0 := 89) (bs := []) (op_89 3) (kd_win kM_0 (j := 3) rfl rfl (Nat.le_of_ble_eq_true rfl)) (by decide +kernel)
theorem dL_law_4 : decode cL_law 4 = .ok (.invokespecial 142, 3) := kd_row (b0 := 183) (bs := [0, 142]) (op_183 4) (kd_win kM_0 (j := 4) rfl rfl (Nat.le_of_ble_eq_true rfl)) (by decide +kernel)
theorem dL_law_7 : decode cL_law 7 = .ok (.astore_n 1, 1) := kd_row (b0 := 76) (bs := []) (op_76 7) (kd_win kM_0 (j := 7) rfl rfl (Nat.le_of_ble_eq_true rfl)) (by decide +kernel)
theorem dL_law_8 : decode cL_law 8 = .ok (.new 143, 3) := kd_row (b0 := 187) (bs := [0, 143]) (op_187 8) (kd_win kM_0 (j := 8) rfl rfl (Nat.le_of_ble_eq_true rfl)) (by decide +kernel)
theorem dL_law_11 : decode cL_law 11 = .ok (.dup, 1) := kd_row (b0 := 89) (bs := []) (op_89 11) (kd_win kM_0 (j := 11) rfl rfl (Nat.le_of_ble_eq_true rfl)) (by decide +kernel)
theorem dL_law_12 : decode cL_law 12 = .ok (.invokespecial 145, 3) := kd_row (b0 := 183) (bs := [0, 145]) (op_183 12) (kd_win kM_0 (j := 12) rfl rfl (Nat.le_of_ble_eq_true rfl)) (by decide +kernel)
theorem dL_law_15 : decode cL_law 15 = .ok (.astore_n 2, 1) := kd_row (b0 := 77) (bs := []) (op_77 15) (kd_win kM_0 (j := 15) rfl rfl (Nat.le_of_ble_eq_true rfl)) (by decide +kernel)
theorem dL_law_16 : decode cL_law 16 = .ok (.new 14, 3) := kd_row (b0 := 187) (bs := [0, 14]) (op_187 16) (kd_win kM_0 (j := 16) rfl rfl (Nat.le_of_ble_eq_true rfl)) (by decide +kernel)
theorem dL_law_19 : decode cL_law 19 = .ok (.dup, 1) := kd_row (b0 := 89) (bs := []) (op_89 19) (kd_win kM_0 (j := 19) rfl rfl (Nat.le_of_ble_eq_true rfl)) (by decide +kernel)
theorem dL_law_20 : decode cL_law 20 = .ok (.invokespecial 146, 3) := kd_row (b0 := 183) (bs := [0, 146]) (op_183 20) (kd_win kM_0 (j := 20) rfl rfl (Nat.le_of_ble_eq_true rfl)) (by decide +kernel)
theorem dL_law_23 : decode cL_law 23 = .ok (.astore_n 3, 1) := kd_row (b0 := 78) (bs := []) (op_78 23) (kd_win kM_0 (j := 23) rfl rfl (Nat.le_of_ble_eq_true rfl)) (by decide +kernel)
theorem dL_law_24 : decode cL_law 24 = .ok (.iconst 0, 1) := kd_row (b0 := 3) (bs := []) (op_3 24) (kd_win kM_0 (j := 24) rfl rfl (Nat.le_of_ble_eq_true rfl)) (by decide +kernel)
theorem dL_law_25 : decode cL_law 25 = .ok (.istore 4, 2) := kd_row (b0 := 54) (bs := [4]) (op_54 25) (kd_win kM_0 (j := 25) rfl rfl (Nat.le_of_ble_eq_true rfl)) (by decide +kernel)
theorem dL_law_27 : decode cL_law 27 = .ok (.iload 4, 2) := kd_row (b0 := 21) (bs := [4]) (op_21 27) (kd_win kM_0 (j := 27) rfl rfl (Nat.le_of_ble_eq_true rfl)) (by decide +kernel)
theorem dL_law_29 : decode cL_law 29 = .ok (.aload_n 0, 1) := kd_row (b0 := 42) (bs := []) (op_42 29) (kd_win kM_0 (j := 29) rfl rfl (Nat.le_of_ble_eq_true rfl)) (by decide +kernel)
theorem dL_law_30 : decode cL_law 30 = .ok (.arraylength, 1) := kd_row (b0 := 190) (bs := []) (op_190 30) (kd_win kM_0 (j := 30) rfl rfl (Nat.le_of_ble_eq_true rfl)) (by decide +kernel)
theorem dL_law_31 : decode cL_law 31 = .ok (.iconst 5, 1) := kd_row (b0 := 8) (bs := []) (op_8 31) (kd_win kM_0 (j := 31) rfl rfl (Nat.le_of_ble_eq_true rfl)) (by decide +kernel)
theorem dL_law_32 : decode cL_law 32 = .ok (.isub, 1) := kd_row (b0 := 100) (bs := []) (op_100 32) (kd_win kM_0 (j := 32) rfl rfl (Nat.le_of_ble_eq_true rfl)) (by decide +kernel)
theorem dL_law_33 : decode cL_law 33 = .ok (.if_icmp .gt 1846, 3) := kd_row (b0 := 163) (bs := [7, 54]) (op_163 33) (kd_win kM_0 (j := 33) rfl rfl (Nat.le_of_ble_eq_true rfl)) (by decide +kernel)
theorem dL_law_36 : decode cL_law 36 = .ok (.aload_n 0, 1) := kd_row (b0 := 42) (bs := []) (op_42 36) (kd_win kM_0 (j := 36) rfl rfl (Nat.le_of_ble_eq_true rfl)) (by decide +kernel)
theorem dL_law_37 : decode cL_law 37 = .ok (.iload 4, 2) := kd_row (b0 := 21) (bs := [4]) (op_21 37) (kd_win kM_0 (j := 37) rfl rfl (Nat.le_of_ble_eq_true rfl)) (by decide +kernel)
theorem dL_law_39 : decode cL_law 39 = .ok (.iaload, 1) := kd_row (b0 := 46) (bs := []) (op_46 39) (kd_win kM_0 (j := 39) rfl rfl (Nat.le_of_ble_eq_true rfl)) (by decide +kernel)
theorem dL_law_40 : decode cL_law 40 = .ok (.bipush 63, 2) := kd_row (b0 := 16) (bs := [63]) (op_16 40) (kd_win kM_0 (j := 40) rfl rfl (Nat.le_of_ble_eq_true rfl)) (by decide +kernel)
theorem dL_law_42 : decode cL_law 42 = .ok (.iand, 1) := kd_row (b0 := 126) (bs := []) (op_126 42) (kd_win kM_0 (j := 42) rfl rfl (Nat.le_of_ble_eq_true rfl)) (by decide +kernel)
theorem dL_law_43 : decode cL_law 43 = .ok (.tableswitch 1830 0 47 #[205, 257, 337, 377, 417, 502, 542, 582, 650, 678, 691, 743, 795, 859, 899, 927, 955, 983, 1011, 1039, 1079, 1119, 1159, 1211, 1263, 1291, 1304, 1344, 1384, 1397, 1425, 1438, 1478, 1491, 1531, 1559, 1587, 1600, 1640, 1668, 1681, 1709, 1722, 1750, 1763, 1791, 1804, 1817], 205) := by decide +kernel
theorem dL_law_248 : decode cL_law 248 = .ok (.aload_n 1, 1) := kd_row (b0 := 43) (bs := []) (op_43 248) (kd_win kM_192 (j := 56) rfl rfl (Nat.le_of_ble_eq_true rfl)) (by decide +kernel)
theorem dL_law_249 : decode cL_law 249 = .ok (.aload_n 0, 1) := kd_row (b0 := 42) (bs := []) (op_42 249) (kd_win kM_192 (j := 57) rfl rfl (Nat.le_of_ble_eq_true rfl)) (by decide +kernel)
theorem dL_law_250 : decode cL_law 250 = .ok (.iload 4, 2) := kd_row (b0 := 21) (bs := [4]) (op_21 250) (kd_win kM_192 (j := 58) rfl rfl (Nat.le_of_ble_eq_true rfl)) (by decide +kernel)
theorem dL_law_252 : decode cL_law 252 = .ok (.iconst 1, 1) := kd_row (b0 := 4) (bs := []) (op_4 252) (kd_win kM_192 (j := 60) rfl rfl (Nat.le_of_ble_eq_true rfl)) (by decide +kernel)
theorem dL_law_253 : decode cL_law 253 = .ok (.iadd, 1) := kd_row (b0 := 96) (bs := []) (op_96 253) (kd_win kM_192 (j := 61) rfl rfl (Nat.le_of_ble_eq_true rfl)) (by decide +kernel)
theorem dL_law_254 : decode cL_law 254 = .ok (.iaload, 1) := kd_row (b0 := 46) (bs := []) (op_46 254) (kd_win kM_192 (j := 62) rfl rfl (Nat.le_of_ble_eq_true rfl)) (by decide +kernel)
theorem dL_law_255 : decode cL_law 255 = .ok (.aload_n 0, 1) := kd_row (b0 := 42) (bs := []) (op_42 255) (kd_win kM_192 (j := 63) rfl rfl (Nat.le_of_ble_eq_true rfl)) (by decide +kernel)
theorem dL_law_256 : decode cL_law 256 = .ok (.iload 4, 2) := kd_row (b0 := 21) (bs := [4]) (op_21 256) (kd_win kM_256 (j := 0) rfl rfl (Nat.le_of_ble_eq_true rfl)) (by decide +kernel)
theorem dL_law_258 : decode cL_law 258 = .ok (.iconst 2, 1) := kd_row (b0 := 5) (bs := []) (op_5 258) (kd_win kM_256 (j := 2) rfl rfl (Nat.le_of_ble_eq_true rfl)) (by decide +kernel)
theorem dL_law_259 : decode cL_law 259 = .ok (.iadd, 1) := kd_row (b0 := 96) (bs := []) (op_96 259) (kd_win kM_256 (j := 3) rfl rfl (Nat.le_of_ble_eq_true rfl)) (by decide +kernel)
theorem dL_law_260 : decode cL_law 260 = .ok (.iaload, 1) := kd_row (b0 := 46) (bs := []) (op_46 260) (kd_win kM_256 (j := 4) rfl rfl (Nat.le_of_ble_eq_true rfl)) (by decide +kernel)
theorem dL_law_261 : decode cL_law 261 = .ok (.aload_n 0, 1) := kd_row (b0 := 42) (bs := []) (op_42 261) (kd_win kM_256 (j := 5) rfl rfl (Nat.le_of_ble_eq_true rfl)) (by decide +kernel)
theorem dL_law_262 : decode cL_law 262 = .ok (.iload 4, 2) := kd_row (b0 := 21) (bs := [4]) (op_21 262) (kd_win kM_256 (j := 6) rfl rfl (Nat.le_of_ble_eq_true rfl)) (by decide +kernel)
theorem dL_law_264 : decode cL_law 264 = .ok (.iconst 3, 1) := kd_row (b0 := 6) (bs := []) (op_6 264) (kd_win kM_256 (j := 8) rfl rfl (Nat.le_of_ble_eq_true rfl)) (by decide +kernel)
theorem dL_law_265 : decode cL_law 265 = .ok (.iadd, 1) := kd_row (b0 := 96) (bs := []) (op_96 265) (kd_win kM_256 (j := 9) rfl rfl (Nat.le_of_ble_eq_true rfl)) (by decide +kernel)
theorem dL_law_266 : decode cL_law 266 = .ok (.iaload, 1) := kd_row (b0 := 46) (bs := []) (op_46 266) (kd_win kM_256 (j := 10) rfl rfl (Nat.le_of_ble_eq_true rfl)) (by decide +kernel)
theorem dL_law_267 : decode cL_law 267 = .ok (.aload_n 3, 1) := kd_row (b0 := 45) (bs := []) (op_45 267) (kd_win kM_256 (j := 11) rfl rfl (Nat.le_of_ble_eq_true rfl)) (by decide +kernel)
theorem dL_law_268 : decode cL_law 268 = .ok (.invokestatic 147, 3) := kd_row (b0 := 184) (bs := [0, 147]) (op_184 268) (kd_win kM_256 (j := 12) rfl rfl (Nat.le_of_ble_eq_true rfl)) (by decide +kernel)
theorem dL_law_271 : decode cL_law 271 = .ok (.istore 5, 2) := kd_row (b0 := 54) (bs := [5]) (op_54 271) (kd_win kM_256 (j := 15) rfl rfl (Nat.le_of_ble_eq_true rfl)) (by decide +kernel)
theorem dL_law_273 : decode cL_law 273 = .ok (.aload_n 2, 1) := kd_row (b0 := 44) (bs := []) (op_44 273) (kd_win kM_256 (j := 17) rfl rfl (Nat.le_of_ble_eq_true rfl)) (by decide +kernel)
theorem dL_law_274 : decode cL_law 274 = .ok (.aload_n 0, 1) := kd_row (b0 := 42) (bs := []) (op_42 274) (kd_win kM_256 (j := 18) rfl rfl (Nat.le_of_ble_eq_true rfl)) (by decide +kernel)
theorem dL_law_275 : decode cL_law 275 = .ok (.iload 4, 2) := kd_row (b0 := 21) (bs := [4]) (op_21 275) (kd_win kM_256 (j := 19) rfl rfl (Nat.le_of_ble_eq_true rfl)) (by decide +kernel)
theorem dL_law_277 : decode cL_law 277 = .ok (.iconst 1, 1) := kd_row (b0 := 4) (bs := []) (op_4 277) (kd_win kM_256 (j := 21) rfl rfl (Nat.le_of_ble_eq_true rfl)) (by decide +kernel)
theorem dL_law_278 : decode cL_law 278 = .ok (.iadd, 1) := kd_row (b0 := 96) (bs := []) (op_96 278) (kd_win kM_256 (j := 22) rfl rfl (Nat.le_of_ble_eq_true rfl)) (by decide +kernel)
theorem dL_law_279 : decode cL_law 279 = .ok (.iaload, 1) := kd_row (b0 := 46) (bs := []) (op_46 279) (kd_win kM_256 (j := 23) rfl rfl (Nat.le_of_ble_eq_true rfl)) (by decide +kernel)
theorem dL_law_280 : decode cL_law 280 = .ok (.aload_n 0, 1) := kd_row (b0 := 42) (bs := []) (op_42 280) (kd_win kM_256 (j := 24) rfl rfl (Nat.le_of_ble_eq_true rfl)) (by decide +kernel)
theorem dL_law_281 : decode cL_law 281 = .ok (.iload 4, 2) := kd_row (b0 := 21) (bs := [4]) (op_21 281) (kd_win kM_256 (j := 25) rfl rfl (Nat.le_of_ble_eq_true rfl)) (by decide +kernel)
theorem dL_law_283 : decode cL_law 283 = .ok (.iconst 2, 1) := kd_row (b0 := 5) (bs := []) (op_5 283) (kd_win kM_256 (j := 27) rfl rfl (Nat.le_of_ble_eq_true rfl)) (by decide +kernel)
theorem dL_law_284 : decode cL_law 284 = .ok (.iadd, 1) := kd_row (b0 := 96) (bs := []) (op_96 284) (kd_win kM_256 (j := 28) rfl rfl (Nat.le_of_ble_eq_true rfl)) (by decide +kernel)
theorem dL_law_285 : decode cL_law 285 = .ok (.iaload, 1) := kd_row (b0 := 46) (bs := []) (op_46 285) (kd_win kM_256 (j := 29) rfl rfl (Nat.le_of_ble_eq_true rfl)) (by decide +kernel)
theorem dL_law_286 : decode cL_law 286 = .ok (.aload_n 0, 1) := kd_row (b0 := 42) (bs := []) (op_42 286) (kd_win kM_256 (j := 30) rfl rfl (Nat.le_of_ble_eq_true rfl)) (by decide +kernel)
theorem dL_law_287 : decode cL_law 287 = .ok (.iload 4, 2) := kd_row (b0 := 21) (bs := [4]) (op_21 287) (kd_win kM_256 (j := 31) rfl rfl (Nat.le_of_ble_eq_true rfl)) (by decide +kernel)
theorem dL_law_289 : decode cL_law 289 = .ok (.iconst 3, 1) := kd_row (b0 := 6) (bs := []) (op_6 289) (kd_win kM_256 (j := 33) rfl rfl (Nat.le_of_ble_eq_true rfl)) (by decide +kernel)
theorem dL_law_290 : decode cL_law 290 = .ok (.iadd, 1) := kd_row (b0 := 96) (bs := []) (op_96 290) (kd_win kM_256 (j := 34) rfl rfl (Nat.le_of_ble_eq_true rfl)) (by decide +kernel)
theorem dL_law_291 : decode cL_law 291 = .ok (.iaload, 1) := kd_row (b0 := 46) (bs := []) (op_46 291) (kd_win kM_256 (j := 35) rfl rfl (Nat.le_of_ble_eq_true rfl)) (by decide +kernel)
theorem dL_law_292 : decode cL_law 292 = .ok (.invokevirtual 152, 3) := kd_row (b0 := 182) (bs := [0, 152]) (op_182 292) (kd_win kM_256 (j := 36) rfl rfl (Nat.le_of_ble_eq_true rfl)) (by decide +kernel)
theorem dL_law_295 : decode cL_law 295 = .ok (.istore 6, 2) := kd_row (b0 := 54) (bs := [6]) (op_54 295) (kd_win kM_256 (j := 39) rfl rfl (Nat.le_of_ble_eq_true rfl)) (by decide +kernel)
theorem dL_law_297 : decode cL_law 297 = .ok (.goto 1576, 3) := kd_row (b0 := 167) (bs := [6, 40]) (op_167 297) (kd_win kM_256 (j := 41) rfl rfl (Nat.le_of_ble_eq_true rfl)) (by decide +kernel)
theorem dL_law_300 : decode cL_law 300 = .ok (.aload_n 1, 1) := kd_row (b0 := 43) (bs := []) (op_43 300) (kd_win kM_256 (j := 44) rfl rfl (Nat.le_of_ble_eq_true rfl)) (by decide +kernel)
theorem dL_law_301 : decode cL_law 301 = .ok (.aload_n 0, 1) := kd_row (b0 := 42) (bs := []) (op_42 301) (kd_win kM_256 (j := 45) rfl rfl (Nat.le_of_ble_eq_true rfl)) (by decide +kernel)
theorem dL_law_302 : decode cL_law 302 = .ok (.iload 4, 2) := kd_row (b0 := 21) (bs := [4]) (op_21 302) (kd_win kM_256 (j := 46) rfl rfl (Nat.le_of_ble_eq_true rfl)) (by decide +kernel)
theorem dL_law_304 : decode cL_law 304 = .ok (.iconst 1, 1) := kd_row (b0 := 4) (bs := []) (op_4 304) (kd_win kM_256 (j := 48) rfl rfl (Nat.le_of_ble_eq_true rfl)) (by decide +kernel)
theorem dL_law_305 : decode cL_law 305 = .ok (.iadd, 1) := kd_row (b0 := 96) (bs := []) (op_96 305) (kd_win kM_256 (j := 49) rfl rfl (Nat.le_of_ble_eq_true rfl)) (by decide +kernel)
theorem dL_law_306 : decode cL_law 306 = .ok (.iaload, 1) := kd_row (b0 := 46) (bs := []) (op_46 306) (kd_win kM_256 (j := 50) rfl rfl (Nat.le_of_ble_eq_true rfl)) (by decide +kernel)
theorem dL_law_307 : decode cL_law 307 = .ok (.aload_n 0, 1) := kd_row (b0 := 42) (bs := []) (op_42 307) (kd_win kM_256 (j := 51) rfl rfl (Nat.le_of_ble_eq_true rfl)) (by decide +kernel)
theorem dL_law_308 : decode cL_law 308 = .ok (.iload 4, 2) := kd_row (b0 := 21) (bs := [4]) (op_21 308) (kd_win kM_256 (j := 52) rfl rfl (Nat.le_of_ble_eq_true rfl)) (by decide +kernel)
theorem dL_law_310 : decode cL_law 310 = .ok (.iconst 2, 1) := kd_row (b0 := 5) (bs := []) (op_5 310) (kd_win kM_256 (j := 54) rfl rfl (Nat.le_of_ble_eq_true rfl)) (by decide +kernel)
theorem dL_law_311 : decode cL_law 311 = .ok (.iadd, 1) := kd_row (b0 := 96) (bs := []) (op_96 311) (kd_win kM_256 (j := 55) rfl rfl (Nat.le_of_ble_eq_true rfl)) (by decide +kernel)
theorem dL_law_312 : decode cL_law 312 = .ok (.iaload, 1) := kd_row (b0 := 46) (bs := []) (op_46 312) (kd_win kM_256 (j := 56) rfl rfl (Nat.le_of_ble_eq_true rfl)) (by decide +kernel)
theorem dL_law_313 : decode cL_law 313 = .ok (.aload_n 0, 1) := kd_row (b0 := 42) (bs := []) (op_42 313) (kd_win kM_256 (j := 57) rfl rfl (Nat.le_of_ble_eq_true rfl)) (by decide +kernel)
theorem dL_law_314 : decode cL_law 314 = .ok (.iload 4, 2) := kd_row (b0 := 21) (bs := [4]) (op_21 314) (kd_win kM_256 (j := 58) rfl rfl (Nat.le_of_ble_eq_true rfl)) (by decide +kernel)
theorem dL_law_316 : decode cL_law 316 = .ok (.iconst 3, 1) := kd_row (b0 := 6) (bs := []) (op_6 316) (kd_win kM_256 (j := 60) rfl rfl (Nat.le_of_ble_eq_true rfl)) (by decide +kernel)
theorem dL_law_317 : decode cL_law 317 = .ok (.iadd, 1) := kd_row (b0 := 96) (bs := []) (op_96 317) (kd_win kM_256 (j := 61) rfl rfl (Nat.le_of_ble_eq_true rfl)) (by decide +kernel)
theorem dL_law_318 : decode cL_law 318 = .ok (.iaload, 1) := kd_row (b0 := 46) (bs := []) (op_46 318) (kd_win kM_256 (j := 62) rfl rfl (Nat.le_of_ble_eq_true rfl)) (by decide +kernel)
theorem dL_law_319 : decode cL_law 319 = .ok (.aload_n 0, 1) := kd_row (b0 := 42) (bs := []) (op_42 319) (kd_win kM_256 (j := 63) rfl rfl (Nat.le_of_ble_eq_true rfl)) (by decide +kernel)
theorem dL_law_320 : decode cL_law 320 = .ok (.iload 4, 2) := kd_row (b0 := 21) (bs := [4]) (op_21 320) (kd_win kM_320 (j := 0) rfl rfl (Nat.le_of_ble_eq_true rfl)) (by decide +kernel)
theorem dL_law_322 : decode cL_law 322 = .ok (.iconst 4, 1) := kd_row (b0 := 7) (bs := []) (op_7 322) (kd_win kM_320 (j := 2) rfl rfl (Nat.le_of_ble_eq_true rfl)) (by decide +kernel)
theorem dL_law_323 : decode cL_law 323 = .ok (.iadd, 1) := kd_row (b0 := 96) (bs := []) (op_96 323) (kd_win kM_320 (j := 3) rfl rfl (Nat.le_of_ble_eq_true rfl)) (by decide +kernel)
theorem dL_law_324 : decode cL_law 324 = .ok (.iaload, 1) := kd_row (b0 := 46) (bs := []) (op_46 324) (kd_win kM_320 (j := 4) rfl rfl (Nat.le_of_ble_eq_true rfl)) (by decide +kernel)
theorem dL_law_325 : decode cL_law 325 = .ok (.ifCond .eq 7, 3) := kd_row (b0 := 153) (bs := [0, 7]) (op_153 325) (kd_win kM_320 (j := 5) rfl rfl (Nat.le_of_ble_eq_true rfl)) (by decide +kernel)
theorem dL_law_328 : decode cL_law 328 = .ok (.iconst 1, 1) := kd_row (b0 := 4) (bs := []) (op_4 328) (kd_win kM_320 (j := 8) rfl rfl (Nat.le_of_ble_eq_true rfl)) (by decide +kernel)
theorem dL_law_329 : decode cL_law 329 = .ok (.goto 4, 3) := kd_row (b0 := 167) (bs := [0, 4]) (op_167 329) (kd_win kM_320 (j := 9) rfl rfl (Nat.le_of_ble_eq_true rfl)) (by decide +kernel)
theorem dL_law_332 : decode cL_law 332 = .ok (.iconst 0, 1) := kd_row (b0 := 3) (bs := []) (op_3 332) (kd_win kM_320 (j := 12) rfl rfl (Nat.le_of_ble_eq_true rfl)) (by decide +kernel)
theorem dL_law_333 : decode cL_law 333 = .ok (.aload_n 3, 1) := kd_row (b0 := 45) (bs := []) (op_45 333) (kd_win kM_320 (j := 13) rfl rfl (Nat.le_of_ble_eq_true rfl)) (by decide +kernel)
theorem dL_law_334 : decode cL_law 334 = .ok (.invokestatic 153, 3) := kd_row (b0 := 184) (bs := [0, 153]) (op_184 334) (kd_win kM_320 (j := 14) rfl rfl (Nat.le_of_ble_eq_true rfl)) (by decide +kernel)
theorem dL_law_337 : decode cL_law 337 = .ok (.istore 5, 2) := kd_row (b0 := 54) (bs := [5]) (op_54 337) (kd_win kM_320 (j := 17) rfl rfl (Nat.le_of_ble_eq_true rfl)) (by decide +kernel)
theorem dL_law_339 : decode cL_law 339 = .ok (.aload_n 2, 1) := kd_row (b0 := 44) (bs := []) (op_44 339) (kd_win kM_320 (j := 19) rfl rfl (Nat.le_of_ble_eq_true rfl)) (by decide +kernel)
theorem dL_law_340 : decode cL_law 340 = .ok (.aload_n 0, 1) := kd_row (b0 := 42) (bs := []) (op_42 340) (kd_win kM_320 (j := 20) rfl rfl (Nat.le_of_ble_eq_true rfl)) (by decide +kernel)
theorem dL_law_341 : decode cL_law 341 = .ok (.iload 4, 2) := kd_row (b0 := 21) (bs := [4]) (op_21 341) (kd_win kM_320 (j := 21) rfl rfl (Nat.le_of_ble_eq_true rfl)) (by decide +kernel)
theorem dL_law_343 : decode cL_law 343 = .ok (.iconst 1, 1) := kd_row (b0 := 4) (bs := []) (op_4 343) (kd_win kM_320 (j := 23) rfl rfl (Nat.le_of_ble_eq_true rfl)) (by decide +kernel)
theorem dL_law_344 : decode cL_law 344 = .ok (.iadd, 1) := kd_row (b0 := 96) (bs := []) (op_96 344) (kd_win kM_320 (j := 24) rfl rfl (Nat.le_of_ble_eq_true rfl)) (by decide +kernel)
theorem dL_law_345 : decode cL_law 345 = .ok (.iaload, 1) := kd_row (b0 := 46) (bs := []) (op_46 345) (kd_win kM_320 (j := 25) rfl rfl (Nat.le_of_ble_eq_true rfl)) (by decide +kernel)
theorem dL_law_346 : decode cL_law 346 = .ok (.aload_n 0, 1) := kd_row (b0 := 42) (bs := []) (op_42 346) (kd_win kM_320 (j := 26) rfl rfl (Nat.le_of_ble_eq_true rfl)) (by decide +kernel)
theorem dL_law_347 : decode cL_law 347 = .ok (.iload 4, 2) := kd_row (b0 := 21) (bs := [4]) (op_21 347) (kd_win kM_320 (j := 27) rfl rfl (Nat.le_of_ble_eq_true rfl)) (by decide +kernel)
theorem dL_law_349 : decode cL_law 349 = .ok (.iconst 2, 1) := kd_row (b0 := 5) (bs := []) (op_5 349) (kd_win kM_320 (j := 29) rfl rfl (Nat.le_of_ble_eq_true rfl)) (by decide +kernel)
theorem dL_law_350 : decode cL_law 350 = .ok (.iadd, 1) := kd_row (b0 := 96) (bs := []) (op_96 350) (kd_win kM_320 (j := 30) rfl rfl (Nat.le_of_ble_eq_true rfl)) (by decide +kernel)
theorem dL_law_351 : decode cL_law 351 = .ok (.iaload, 1) := kd_row (b0 := 46) (bs := []) (op_46 351) (kd_win kM_320 (j := 31) rfl rfl (Nat.le_of_ble_eq_true rfl)) (by decide +kernel)
theorem dL_law_352 : decode cL_law 352 = .ok (.aload_n 0, 1) := kd_row (b0 := 42) (bs := []) (op_42 352) (kd_win kM_320 (j := 32) rfl rfl (Nat.le_of_ble_eq_true rfl)) (by decide +kernel)
theorem dL_law_353 : decode cL_law 353 = .ok (.iload 4, 2) := kd_row (b0 := 21) (bs := [4]) (op_21 353) (kd_win kM_320 (j := 33) rfl rfl (Nat.le_of_ble_eq_true rfl)) (by decide +kernel)
theorem dL_law_355 : decode cL_law 355 = .ok (.iconst 3, 1) := kd_row (b0 := 6) (bs := []) (op_6 355) (kd_win kM_320 (j := 35) rfl rfl (Nat.le_of_ble_eq_true rfl)) (by decide +kernel)
theorem dL_law_356 : decode cL_law 356 = .ok (.iadd, 1) := kd_row (b0 := 96) (bs := []) (op_96 356) (kd_win kM_320 (j := 36) rfl rfl (Nat.le_of_ble_eq_true rfl)) (by decide +kernel)
theorem dL_law_357 : decode cL_law 357 = .ok (.iaload, 1) := kd_row (b0 := 46) (bs := []) (op_46 357) (kd_win kM_320 (j := 37) rfl rfl (Nat.le_of_ble_eq_true rfl)) (by decide +kernel)
theorem dL_law_358 : decode cL_law 358 = .ok (.aload_n 0, 1) := kd_row (b0 := 42) (bs := []) (op_42 358) (kd_win kM_320 (j := 38) rfl rfl (Nat.le_of_ble_eq_true rfl)) (by decide +kernel)
theorem dL_law_359 : decode cL_law 359 = .ok (.iload 4, 2) := kd_row (b0 := 21) (bs := [4]) (op_21 359) (kd_win kM_320 (j := 39) rfl rfl (Nat.le_of_ble_eq_true rfl)) (by decide +kernel)
theorem dL_law_361 : decode cL_law 361 = .ok (.iconst 4, 1) := kd_row (b0 := 7) (bs := []) (op_7 361) (kd_win kM_320 (j := 41) rfl rfl (Nat.le_of_ble_eq_true rfl)) (by decide +kernel)
theorem dL_law_362 : decode cL_law 362 = .ok (.iadd, 1) := kd_row (b0 := 96) (bs := []) (op_96 362) (kd_win kM_320 (j := 42) rfl rfl (Nat.le_of_ble_eq_true rfl)) (by decide +kernel)
theorem dL_law_363 : decode cL_law 363 = .ok (.iaload, 1) := kd_row (b0 := 46) (bs := []) (op_46 363) (kd_win kM_320 (j := 43) rfl rfl (Nat.le_of_ble_eq_true rfl)) (by decide +kernel)
theorem dL_law_364 : decode cL_law 364 = .ok (.ifCond .eq 7, 3) := kd_row (b0 := 153) (bs := [0, 7]) (op_153 364) (kd_win kM_320 (j := 44) rfl rfl (Nat.le_of_ble_eq_true rfl)) (by decide +kernel)
theorem dL_law_367 : decode cL_law 367 = .ok (.iconst 1, 1) := kd_row (b0 := 4) (bs := []) (op_4 367) (kd_win kM_320 (j := 47) rfl rfl (Nat.le_of_ble_eq_true rfl)) (by decide +kernel)
theorem dL_law_368 : decode cL_law 368 = .ok (.goto 4, 3) := kd_row (b0 := 167) (bs := [0, 4]) (op_167 368) (kd_win kM_320 (j := 48) rfl rfl (Nat.le_of_ble_eq_true rfl)) (by decide +kernel)
theorem dL_law_371 : decode cL_law 371 = .ok (.iconst 0, 1) := kd_row (b0 := 3) (bs := []) (op_3 371) (kd_win kM_320 (j := 51) rfl rfl (Nat.le_of_ble_eq_true rfl)) (by decide +kernel)
theorem dL_law_372 : decode cL_law 372 = .ok (.invokevirtual 156, 3) := kd_row (b0 := 182) (bs := [0, 156]) (op_182 372) (kd_win kM_320 (j := 52) rfl rfl (Nat.le_of_ble_eq_true rfl)) (by decide +kernel)
theorem dL_law_375 : decode cL_law 375 = .ok (.istore 6, 2) := kd_row (b0 := 54) (bs := [6]) (op_54 375) (kd_win kM_320 (j := 55) rfl rfl (Nat.le_of_ble_eq_true rfl)) (by decide +kernel)
theorem dL_law_377 : decode cL_law 377 = .ok (.goto 1496, 3) := kd_row (b0 := 167) (bs := [5, 216]) (op_167 377) (kd_win kM_320 (j := 57) rfl rfl (Nat.le_of_ble_eq_true rfl)) (by decide +kernel)
theorem dL_law_380 : decode cL_law 380 = .ok (.aload_n 1, 1) := kd_row (b0 := 43) (bs := []) (op_43 380) (kd_win kM_320 (j := 60) rfl rfl (Nat.le_of_ble_eq_true rfl)) (by decide +kernel)
theorem dL_law_381 : decode cL_law 381 = .ok (.aload_n 0, 1) := kd_row (b0 := 42) (bs := []) (op_42 381) (kd_win kM_320 (j := 61) rfl rfl (Nat.le_of_ble_eq_true rfl)) (by decide +kernel)
theorem dL_law_382 : decode cL_law 382 = .ok (.iload 4, 2) := kd_row (b0 := 21) (bs := [4]) (op_21 382) (kd_win kM_320 (j := 62) rfl rfl (Nat.le_of_ble_eq_true rfl)) (by decide +kernel)
theorem dL_law_384 : decode cL_law 384 = .ok (.iconst 1, 1) := kd_row (b0 := 4) (bs := []) (op_4 384) (kd_win kM_384 (j := 0) rfl rfl (Nat.le_of_ble_eq_true rfl)) (by decide +kernel)
theorem dL_law_385 : decode cL_law 385 = .ok (.iadd, 1) := kd_row (b0 := 96) (bs := []) (op_96 385) (kd_win kM_384 (j := 1) rfl rfl (Nat.le_of_ble_eq_true rfl)) (by decide +kernel)
theorem dL_law_386 : decode cL_law 386 = .ok (.iaload, 1) := kd_row (b0 := 46) (bs := []) (op_46 386) (kd_win kM_384 (j := 2) rfl rfl (Nat.le_of_ble_eq_true rfl)) (by decide +kernel)
theorem dL_law_387 : decode cL_law 387 = .ok (.aload_n 0, 1) := kd_row (b0 := 42) (bs := []) (op_42 387) (kd_win kM_384 (j := 3) rfl rfl (Nat.le_of_ble_eq_true rfl)) (by decide +kernel)
theorem dL_law_388 : decode cL_law 388 = .ok (.iload 4, 2) := kd_row (b0 := 21) (bs := [4]) (op_21 388) (kd_win kM_384 (j := 4) rfl rfl (Nat.le_of_ble_eq_true rfl)) (by decide +kernel)
theorem dL_law_390 : decode cL_law 390 = .ok (.iconst 2, 1) := kd_row (b0 := 5) (bs := []) (op_5 390) (kd_win kM_384 (j := 6) rfl rfl (Nat.le_of_ble_eq_true rfl)) (by decide +kernel)
theorem dL_law_391 : decode cL_law 391 = .ok (.iadd, 1) := kd_row (b0 := 96) (bs := []) (op_96 391) (kd_win kM_384 (j := 7) rfl rfl (Nat.le_of_ble_eq_true rfl)) (by decide +kernel)
theorem dL_law_392 : decode cL_law 392 = .ok (.iaload, 1) := kd_row (b0 := 46) (bs := []) (op_46 392) (kd_win kM_384 (j := 8) rfl rfl (Nat.le_of_ble_eq_true rfl)) (by decide +kernel)
theorem dL_law_393 : decode cL_law 393 = .ok (.aload_n 3, 1) := kd_row (b0 := 45) (bs := []) (op_45 393) (kd_win kM_384 (j := 9) rfl rfl (Nat.le_of_ble_eq_true rfl)) (by decide +kernel)
theorem dL_law_394 : decode cL_law 394 = .ok (.invokestatic 157, 3) := kd_row (b0 := 184) (bs := [0, 157]) (op_184 394) (kd_win kM_384 (j := 10) rfl rfl (Nat.le_of_ble_eq_true rfl)) (by decide +kernel)
theorem dL_law_397 : decode cL_law 397 = .ok (.istore 5, 2) := kd_row (b0 := 54) (bs := [5]) (op_54 397) (kd_win kM_384 (j := 13) rfl rfl (Nat.le_of_ble_eq_true rfl)) (by decide +kernel)
theorem dL_law_399 : decode cL_law 399 = .ok (.aload_n 2, 1) := kd_row (b0 := 44) (bs := []) (op_44 399) (kd_win kM_384 (j := 15) rfl rfl (Nat.le_of_ble_eq_true rfl)) (by decide +kernel)
theorem dL_law_400 : decode cL_law 400 = .ok (.aload_n 0, 1) := kd_row (b0 := 42) (bs := []) (op_42 400) (kd_win kM_384 (j := 16) rfl rfl (Nat.le_of_ble_eq_true rfl)) (by decide +kernel)
theorem dL_law_401 : decode cL_law 401 = .ok (.iload 4, 2) := kd_row (b0 := 21) (bs := [4]) (op_21 401) (kd_win kM_384 (j := 17) rfl rfl (Nat.le_of_ble_eq_true rfl)) (by decide +kernel)
theorem dL_law_403 : decode cL_law 403 = .ok (.iconst 1, 1) := kd_row (b0 := 4) (bs := []) (op_4 403) (kd_win kM_384 (j := 19) rfl rfl (Nat.le_of_ble_eq_true rfl)) (by decide +kernel)
theorem dL_law_404 : decode cL_law 404 = .ok (.iadd, 1) := kd_row (b0 := 96) (bs := []) (op_96 404) (kd_win kM_384 (j := 20) rfl rfl (Nat.le_of_ble_eq_true rfl)) (by decide +kernel)
theorem dL_law_405 : decode cL_law 405 = .ok (.iaload, 1) := kd_row (b0 := 46) (bs := []) (op_46 405) (kd_win kM_384 (j := 21) rfl rfl (Nat.le_of_ble_eq_true rfl)) (by decide +kernel)
theorem dL_law_406 : decode cL_law 406 = .ok (.aload_n 0, 1) := kd_row (b0 := 42) (bs := []) (op_42 406) (kd_win kM_384 (j := 22) rfl rfl (Nat.le_of_ble_eq_true rfl)) (by decide +kernel)
theorem dL_law_407 : decode cL_law 407 = .ok (.iload 4, 2) := kd_row (b0 := 21) (bs := [4]) (op_21 407) (kd_win kM_384 (j := 23) rfl rfl (Nat.le_of_ble_eq_true rfl)) (by decide +kernel)
theorem dL_law_409 : decode cL_law 409 = .ok (.iconst 2, 1) := kd_row (b0 := 5) (bs := []) (op_5 409) (kd_win kM_384 (j := 25) rfl rfl (Nat.le_of_ble_eq_true rfl)) (by decide +kernel)
theorem dL_law_410 : decode cL_law 410 = .ok (.iadd, 1) := kd_row (b0 := 96) (bs := []) (op_96 410) (kd_win kM_384 (j := 26) rfl rfl (Nat.le_of_ble_eq_true rfl)) (by decide +kernel)
theorem dL_law_411 : decode cL_law 411 = .ok (.iaload, 1) := kd_row (b0 := 46) (bs := []) (op_46 411) (kd_win kM_384 (j := 27) rfl rfl (Nat.le_of_ble_eq_true rfl)) (by decide +kernel)
theorem dL_law_412 : decode cL_law 412 = .ok (.invokevirtual 160, 3) := kd_row (b0 := 182) (bs := [0, 160]) (op_182 412) (kd_win kM_384 (j := 28) rfl rfl (Nat.le_of_ble_eq_true rfl)) (by decide +kernel)
theorem dL_law_415 : decode cL_law 415 = .ok (.istore 6, 2) := kd_row (b0 := 54) (bs := [6]) (op_54 415) (kd_win kM_384 (j := 31) rfl rfl (Nat.le_of_ble_eq_true rfl)) (by decide +kernel)
theorem dL_law_417 : decode cL_law 417 = .ok (.goto 1456, 3) := kd_row (b0 := 167) (bs := [5, 176]) (op_167 417) (kd_win kM_384 (j := 33) rfl rfl (Nat.le_of_ble_eq_true rfl)) (by decide +kernel)
theorem dL_law_420 : decode cL_law 420 = .ok (.aload_n 1, 1) := kd_row (b0 := 43) (bs := []) (op_43 420) (kd_win kM_384 (j := 36) rfl rfl (Nat.le_of_ble_eq_true rfl)) (by decide +kernel)
theorem dL_law_421 : decode cL_law 421 = .ok (.aload_n 0, 1) := kd_row (b0 := 42) (bs := []) (op_42 421) (kd_win kM_384 (j := 37) rfl rfl (Nat.le_of_ble_eq_true rfl)) (by decide +kernel)
theorem dL_law_422 : decode cL_law 422 = .ok (.iload 4, 2) := kd_row (b0 := 21) (bs := [4]) (op_21 422) (kd_win kM_384 (j := 38) rfl rfl (Nat.le_of_ble_eq_true rfl)) (by decide +kernel)
theorem dL_law_424 : decode cL_law 424 = .ok (.iconst 1, 1) := kd_row (b0 := 4) (bs := []) (op_4 424) (kd_win kM_384 (j := 40) rfl rfl (Nat.le_of_ble_eq_true rfl)) (by decide +kernel)
theorem dL_law_425 : decode cL_law 425 = .ok (.iadd, 1) := kd_row (b0 := 96) (bs := []) (op_96 425) (kd_win kM_384 (j := 41) rfl rfl (Nat.le_of_ble_eq_true rfl)) (by decide +kernel)
theorem dL_law_426 : decode cL_law 426 = .ok (.iaload, 1) := kd_row (b0 := 46) (bs := []) (op_46 426) (kd_win kM_384 (j := 42) rfl rfl (Nat.le_of_ble_eq_true rfl)) (by decide +kernel)
theorem dL_law_427 : decode cL_law 427 = .ok (.aload_n 0, 1) := kd_row (b0 := 42) (bs := []) (op_42 427) (kd_win kM_384 (j := 43) rfl rfl (Nat.le_of_ble_eq_true rfl)) (by decide +kernel)
theorem dL_law_428 : decode cL_law 428 = .ok (.iload 4, 2) := kd_row (b0 := 21) (bs := [4]) (op_21 428) (kd_win kM_384 (j := 44) rfl rfl (Nat.le_of_ble_eq_true rfl)) (by decide +kernel)
theorem dL_law_430 : decode cL_law 430 = .ok (.iconst 2, 1) := kd_row (b0 := 5) (bs := []) (op_5 430) (kd_win kM_384 (j := 46) rfl rfl (Nat.le_of_ble_eq_true rfl)) (by decide +kernel)
theorem dL_law_431 : decode cL_law 431 = .ok (.iadd, 1) := kd_row (b0 := 96) (bs := []) (op_96 431) (kd_win kM_384 (j := 47) rfl rfl (Nat.le_of_ble_eq_true rfl)) (by decide +kernel)
theorem dL_law_432 : decode cL_law 432 = .ok (.iaload, 1) := kd_row (b0 := 46) (bs := []) (op_46 432) (kd_win kM_384 (j := 48) rfl rfl (Nat.le_of_ble_eq_true rfl)) (by decide +kernel)
theorem dL_law_433 : decode cL_law 433 = .ok (.aload_n 3, 1) := kd_row (b0 := 45) (bs := []) (op_45 433) (kd_win kM_384 (j := 49) rfl rfl (Nat.le_of_ble_eq_true rfl)) (by decide +kernel)
theorem dL_law_434 : decode cL_law 434 = .ok (.invokestatic 161, 3) := kd_row (b0 := 184) (bs := [0, 161]) (op_184 434) (kd_win kM_384 (j := 50) rfl rfl (Nat.le_of_ble_eq_true rfl)) (by decide +kernel)
theorem dL_law_437 : decode cL_law 437 = .ok (.istore 5, 2) := kd_row (b0 := 54) (bs := [5]) (op_54 437) (kd_win kM_384 (j := 53) rfl rfl (Nat.le_of_ble_eq_true rfl)) (by decide +kernel)
theorem dL_law_439 : decode cL_law 439 = .ok (.aload_n 2, 1) := kd_row (b0 := 44) (bs := []) (op_44 439) (kd_win kM_384 (j := 55) rfl rfl (Nat.le_of_ble_eq_true rfl)) (by decide +kernel)
theorem dL_law_440 : decode cL_law 440 = .ok (.aload_n 0, 1) := kd_row (b0 := 42) (bs := []) (op_42 440) (kd_win kM_384 (j := 56) rfl rfl (Nat.le_of_ble_eq_true rfl)) (by decide +kernel)
theorem dL_law_441 : decode cL_law 441 = .ok (.iload 4, 2) := kd_row (b0 := 21) (bs := [4]) (op_21 441) (kd_win kM_384 (j := 57) rfl rfl (Nat.le_of_ble_eq_true rfl)) (by decide +kernel)
theorem dL_law_443 : decode cL_law 443 = .ok (.iconst 1, 1) := kd_row (b0 := 4) (bs := []) (op_4 443) (kd_win kM_384 (j := 59) rfl rfl (Nat.le_of_ble_eq_true rfl)) (by decide +kernel)
theorem dL_law_444 : decode cL_law 444 = .ok (.iadd, 1) := kd_row (b0 := 96) (bs := []) (op_96 444) (kd_win kM_384 (j := 60) rfl rfl (Nat.le_of_ble_eq_true rfl)) (by decide +kernel)
theorem dL_law_445 : decode cL_law 445 = .ok (.iaload, 1) := kd_row (b0 := 46) (bs := []) (op_46 445) (kd_win kM_384 (j := 61) rfl rfl (Nat.le_of_ble_eq_true rfl)) (by decide +kernel)
theorem dL_law_446 : decode cL_law 446 = .ok (.aload_n 0, 1) := kd_row (b0 := 42) (bs := []) (op_42 446) (kd_win kM_384 (j := 62) rfl rfl (Nat.le_of_ble_eq_true rfl)) (by decide +kernel)
theorem dL_law_447 : decode cL_law 447 = .ok (.iload 4, 2) := kd_row (b0 := 21) (bs := [4]) (op_21 447) (kd_win kM_384 (j := 63) rfl rfl (Nat.le_of_ble_eq_true rfl)) (by decide +kernel)
theorem dL_law_449 : decode cL_law 449 = .ok (.iconst 2, 1) := kd_row (b0 := 5) (bs := []) (op_5 449) (kd_win kM_448 (j := 1) rfl rfl (Nat.le_of_ble_eq_true rfl)) (by decide +kernel)
theorem dL_law_450 : decode cL_law 450 = .ok (.iadd, 1) := kd_row (b0 := 96) (bs := []) (op_96 450) (kd_win kM_448 (j := 2) rfl rfl (Nat.le_of_ble_eq_true rfl)) (by decide +kernel)
theorem dL_law_451 : decode cL_law 451 = .ok (.iaload, 1) := kd_row (b0 := 46) (bs := []) (op_46 451) (kd_win kM_448 (j := 3) rfl rfl (Nat.le_of_ble_eq_true rfl)) (by decide +kernel)
theorem dL_law_452 : decode cL_law 452 = .ok (.invokevirtual 163, 3) := kd_row (b0 := 182) (bs := [0, 163]) (op_182 452) (kd_win kM_448 (j := 4) rfl rfl (Nat.le_of_ble_eq_true rfl)) (by decide +kernel)
theorem dL_law_455 : decode cL_law 455 = .ok (.istore 6, 2) := kd_row (b0 := 54) (bs := [6]) (op_54 455) (kd_win kM_448 (j := 7) rfl rfl (Nat.le_of_ble_eq_true rfl)) (by decide +kernel)
theorem dL_law_457 : decode cL_law 457 = .ok (.goto 1416, 3) := kd_row (b0 := 167) (bs := [5, 136]) (op_167 457) (kd_win kM_448 (j := 9) rfl rfl (Nat.le_of_ble_eq_true rfl)) (by decide +kernel)
theorem dL_law_460 : decode cL_law 460 = .ok (.aload_n 1, 1) := kd_row (b0 := 43) (bs := []) (op_43 460) (kd_win kM_448 (j := 12) rfl rfl (Nat.le_of_ble_eq_true rfl)) (by decide +kernel)
theorem dL_law_461 : decode cL_law 461 = .ok (.aload_n 0, 1) := kd_row (b0 := 42) (bs := []) (op_42 461) (kd_win kM_448 (j := 13) rfl rfl (Nat.le_of_ble_eq_true rfl)) (by decide +kernel)
theorem dL_law_462 : decode cL_law 462 = .ok (.iload 4, 2) := kd_row (b0 := 21) (bs := [4]) (op_21 462) (kd_win kM_448 (j := 14) rfl rfl (Nat.le_of_ble_eq_true rfl)) (by decide +kernel)
theorem dL_law_464 : decode cL_law 464 = .ok (.iconst 1, 1) := kd_row (b0 := 4) (bs := []) (op_4 464) (kd_win kM_448 (j := 16) rfl rfl (Nat.le_of_ble_eq_true rfl)) (by decide +kernel)
theorem dL_law_465 : decode cL_law 465 = .ok (.iadd, 1) := kd_row (b0 := 96) (bs := []) (op_96 465) (kd_win kM_448 (j := 17) rfl rfl (Nat.le_of_ble_eq_true rfl)) (by decide +kernel)
theorem dL_law_466 : decode cL_law 466 = .ok (.iaload, 1) := kd_row (b0 := 46) (bs := []) (op_46 466) (kd_win kM_448 (j := 18) rfl rfl (Nat.le_of_ble_eq_true rfl)) (by decide +kernel)
theorem dL_law_467 : decode cL_law 467 = .ok (.ifCond .eq 7, 3) := kd_row (b0 := 153) (bs := [0, 7]) (op_153 467) (kd_win kM_448 (j := 19) rfl rfl (Nat.le_of_ble_eq_true rfl)) (by decide +kernel)
theorem dL_law_470 : decode cL_law 470 = .ok (.iconst 1, 1) := kd_row (b0 := 4) (bs := []) (op_4 470) (kd_win kM_448 (j := 22) rfl rfl (Nat.le_of_ble_eq_true rfl)) (by decide +kernel)
theorem dL_law_471 : decode cL_law 471 = .ok (.goto 4, 3) := kd_row (b0 := 167) (bs := [0, 4]) (op_167 471) (kd_win kM_448 (j := 23) rfl rfl (Nat.le_of_ble_eq_true rfl)) (by decide +kernel)
theorem dL_law_474 : decode cL_law 474 = .ok (.iconst 0, 1) := kd_row (b0 := 3) (bs := []) (op_3 474) (kd_win kM_448 (j := 26) rfl rfl (Nat.le_of_ble_eq_true rfl)) (by decide +kernel)
theorem dL_law_475 : decode cL_law 475 = .ok (.aload_n 0, 1) := kd_row (b0 := 42) (bs := []) (op_42 475) (kd_win kM_448 (j := 27) rfl rfl (Nat.le_of_ble_eq_true rfl)) (by decide +kernel)
theorem dL_law_476 : decode cL_law 476 = .ok (.iload 4, 2) := kd_row (b0 := 21) (bs := [4]) (op_21 476) (kd_win kM_448 (j := 28) rfl rfl (Nat.le_of_ble_eq_true rfl)) (by decide +kernel)
theorem dL_law_478 : decode cL_law 478 = .ok (.iconst 2, 1) := kd_row (b0 := 5) (bs := []) (op_5 478) (kd_win kM_448 (j := 30) rfl rfl (Nat.le_of_ble_eq_true rfl)) (by decide +kernel)
theorem dL_law_479 : decode cL_law 479 = .ok (.iadd, 1) := kd_row (b0 := 96) (bs := []) (op_96 479) (kd_win kM_448 (j := 31) rfl rfl (Nat.le_of_ble_eq_true rfl)) (by decide +kernel)
theorem dL_law_480 : decode cL_law 480 = .ok (.iaload, 1) := kd_row (b0 := 46) (bs := []) (op_46 480) (kd_win kM_448 (j := 32) rfl rfl (Nat.le_of_ble_eq_true rfl)) (by decide +kernel)
theorem dL_law_481 : decode cL_law 481 = .ok (.aload_n 3, 1) := kd_row (b0 := 45) (bs := []) (op_45 481) (kd_win kM_448 (j := 33) rfl rfl (Nat.le_of_ble_eq_true rfl)) (by decide +kernel)
theorem dL_law_482 : decode cL_law 482 = .ok (.invokestatic 164, 3) := kd_row (b0 := 184) (bs := [0, 164]) (op_184 482) (kd_win kM_448 (j := 34) rfl rfl (Nat.le_of_ble_eq_true rfl)) (by decide +kernel)
theorem dL_law_485 : decode cL_law 485 = .ok (.istore 5, 2) := kd_row (b0 := 54) (bs := [5]) (op_54 485) (kd_win kM_448 (j := 37) rfl rfl (Nat.le_of_ble_eq_true rfl)) (by decide +kernel)
theorem dL_law_487 : decode cL_law 487 = .ok (.aload_n 2, 1) := kd_row (b0 := 44) (bs := []) (op_44 487) (kd_win kM_448 (j := 39) rfl rfl (Nat.le_of_ble_eq_true rfl)) (by decide +kernel)
theorem dL_law_488 : decode cL_law 488 = .ok (.aload_n 0, 1) := kd_row (b0 := 42) (bs := []) (op_42 488) (kd_win kM_448 (j := 40) rfl rfl (Nat.le_of_ble_eq_true rfl)) (by decide +kernel)
theorem dL_law_489 : decode cL_law 489 = .ok (.iload 4, 2) := kd_row (b0 := 21) (bs := [4]) (op_21 489) (kd_win kM_448 (j := 41) rfl rfl (Nat.le_of_ble_eq_true rfl)) (by decide +kernel)
theorem dL_law_491 : decode cL_law 491 = .ok (.iconst 1, 1) := kd_row (b0 := 4) (bs := []) (op_4 491) (kd_win kM_448 (j := 43) rfl rfl (Nat.le_of_ble_eq_true rfl)) (by decide +kernel)
theorem dL_law_492 : decode cL_law 492 = .ok (.iadd, 1) := kd_row (b0 := 96) (bs := []) (op_96 492) (kd_win kM_448 (j := 44) rfl rfl (Nat.le_of_ble_eq_true rfl)) (by decide +kernel)
theorem dL_law_493 : decode cL_law 493 = .ok (.iaload, 1) := kd_row (b0 := 46) (bs := []) (op_46 493) (kd_win kM_448 (j := 45) rfl rfl (Nat.le_of_ble_eq_true rfl)) (by decide +kernel)
theorem dL_law_494 : decode cL_law 494 = .ok (.ifCond .eq 7, 3) := kd_row (b0 := 153) (bs := [0, 7]) (op_153 494) (kd_win kM_448 (j := 46) rfl rfl (Nat.le_of_ble_eq_true rfl)) (by decide +kernel)
theorem dL_law_497 : decode cL_law 497 = .ok (.iconst 1, 1) := kd_row (b0 := 4) (bs := []) (op_4 497) (kd_win kM_448 (j := 49) rfl rfl (Nat.le_of_ble_eq_true rfl)) (by decide +kernel)
theorem dL_law_498 : decode cL_law 498 = .ok (.goto 4, 3) := kd_row (b0 := 167) (bs := [0, 4]) (op_167 498) (kd_win kM_448 (j := 50) rfl rfl (Nat.le_of_ble_eq_true rfl)) (by decide +kernel)
theorem dL_law_501 : decode cL_law 501 = .ok (.iconst 0, 1) := kd_row (b0 := 3) (bs := []) (op_3 501) (kd_win kM_448 (j := 53) rfl rfl (Nat.le_of_ble_eq_true rfl)) (by decide +kernel)
theorem dL_law_502 : decode cL_law 502 = .ok (.aload_n 0, 1) := kd_row (b0 := 42) (bs := []) (op_42 502) (kd_win kM_448 (j := 54) rfl rfl (Nat.le_of_ble_eq_true rfl)) (by decide +kernel)
theorem dL_law_503 : decode cL_law 503 = .ok (.iload 4, 2) := kd_row (b0 := 21) (bs := [4]) (op_21 503) (kd_win kM_448 (j := 55) rfl rfl (Nat.le_of_ble_eq_true rfl)) (by decide +kernel)
theorem dL_law_505 : decode cL_law 505 = .ok (.iconst 2, 1) := kd_row (b0 := 5) (bs := []) (op_5 505) (kd_win kM_448 (j := 57) rfl rfl (Nat.le_of_ble_eq_true rfl)) (by decide +kernel)
theorem dL_law_506 : decode cL_law 506 = .ok (.iadd, 1) := kd_row (b0 := 96) (bs := []) (op_96 506) (kd_win kM_448 (j := 58) rfl rfl (Nat.le_of_ble_eq_true rfl)) (by decide +kernel)
theorem dL_law_507 : decode cL_law 507 = .ok (.iaload, 1) := kd_row (b0 := 46) (bs := []) (op_46 507) (kd_win kM_448 (j := 59) rfl rfl (Nat.le_of_ble_eq_true rfl)) (by decide +kernel)
theorem dL_law_508 : decode cL_law 508 = .ok (.invokevirtual 167, 3) := kd_row (b0 := 182) (bs := [0, 167]) (op_182 508) (kd_win kM_448 (j := 60) rfl rfl (Nat.le_of_ble_eq_true rfl)) (by decide +kernel)
theorem dL_law_511 : decode cL_law 511 = .ok (.istore 6, 2) := kd_row (b0 := 54) (bs := [6]) (op_54 511) (kd_win kM_448 (j := 63) rfl rfl (Nat.le_of_ble_eq_true rfl)) (by decide +kernel)
theorem dL_law_513 : decode cL_law 513 = .ok (.aload_n 2, 1) := kd_row (b0 := 44) (bs := []) (op_44 513) (kd_win kM_512 (j := 1) rfl rfl (Nat.le_of_ble_eq_true rfl)) (by decide +kernel)
theorem dL_law_514 : decode cL_law 514 = .ok (.invokevirtual 168, 3) := kd_row (b0 := 182) (bs := [0, 168]) (op_182 514) (kd_win kM_512 (j := 2) rfl rfl (Nat.le_of_ble_eq_true rfl)) (by decide +kernel)
theorem dL_law_517 : decode cL_law 517 = .ok (.iload 5, 2) := kd_row (b0 := 21) (bs := [5]) (op_21 517) (kd_win kM_512 (j := 5) rfl rfl (Nat.le_of_ble_eq_true rfl)) (by decide +kernel)
theorem dL_law_519 : decode cL_law 519 = .ok (.if_icmp .eq 5, 3) := kd_row (b0 := 159) (bs := [0, 5]) (op_159 519) (kd_win kM_512 (j := 7) rfl rfl (Nat.le_of_ble_eq_true rfl)) (by decide +kernel)
theorem dL_law_522 : decode cL_law 522 = .ok (.iconst 0, 1) := kd_row (b0 := 3) (bs := []) (op_3 522) (kd_win kM_512 (j := 10) rfl rfl (Nat.le_of_ble_eq_true rfl)) (by decide +kernel)
theorem dL_law_523 : decode cL_law 523 = .ok (.ireturn, 1) := kd_row (b0 := 172) (bs := []) (op_172 523) (kd_win kM_512 (j := 11) rfl rfl (Nat.le_of_ble_eq_true rfl)) (by decide +kernel)
theorem dL_law_524 : decode cL_law 524 = .ok (.iload 5, 2) := kd_row (b0 := 21) (bs := [5]) (op_21 524) (kd_win kM_512 (j := 12) rfl rfl (Nat.le_of_ble_eq_true rfl)) (by decide +kernel)
theorem dL_law_526 : decode cL_law 526 = .ok (.ifCond .ne 16, 3) := kd_row (b0 := 154) (bs := [0, 16]) (op_154 526) (kd_win kM_512 (j := 14) rfl rfl (Nat.le_of_ble_eq_true rfl)) (by decide +kernel)
theorem dL_law_529 : decode cL_law 529 = .ok (.aload_n 3, 1) := kd_row (b0 := 45) (bs := []) (op_45 529) (kd_win kM_512 (j := 17) rfl rfl (Nat.le_of_ble_eq_true rfl)) (by decide +kernel)
theorem dL_law_530 : decode cL_law 530 = .ok (.getfield 13, 3) := kd_row (b0 := 180) (bs := [0, 13]) (op_180 530) (kd_win kM_512 (j := 18) rfl rfl (Nat.le_of_ble_eq_true rfl)) (by decide +kernel)
theorem dL_law_533 : decode cL_law 533 = .ok (.iload 6, 2) := kd_row (b0 := 21) (bs := [6]) (op_21 533) (kd_win kM_512 (j := 21) rfl rfl (Nat.le_of_ble_eq_true rfl)) (by decide +kernel)
theorem dL_law_535 : decode cL_law 535 = .ok (.i2l, 1) := kd_row (b0 := 133) (bs := []) (op_133 535) (kd_win kM_512 (j := 23) rfl rfl (Nat.le_of_ble_eq_true rfl)) (by decide +kernel)
theorem dL_law_536 : decode cL_law 536 = .ok (.lcmp, 1) := kd_row (b0 := 148) (bs := []) (op_148 536) (kd_win kM_512 (j := 24) rfl rfl (Nat.le_of_ble_eq_true rfl)) (by decide +kernel)
theorem dL_law_537 : decode cL_law 537 = .ok (.ifCond .eq 5, 3) := kd_row (b0 := 153) (bs := [0, 5]) (op_153 537) (kd_win kM_512 (j := 25) rfl rfl (Nat.le_of_ble_eq_true rfl)) (by decide +kernel)
theorem dL_law_540 : decode cL_law 540 = .ok (.iconst 0, 1) := kd_row (b0 := 3) (bs := []) (op_3 540) (kd_win kM_512 (j := 28) rfl rfl (Nat.le_of_ble_eq_true rfl)) (by decide +kernel)
theorem dL_law_541 : decode cL_law 541 = .ok (.ireturn, 1) := kd_row (b0 := 172) (bs := []) (op_172 541) (kd_win kM_512 (j := 29) rfl rfl (Nat.le_of_ble_eq_true rfl)) (by decide +kernel)
theorem dL_law_542 : decode cL_law 542 = .ok (.goto 1331, 3) := kd_row (b0 := 167) (bs := [5, 51]) (op_167 542) (kd_win kM_512 (j := 30) rfl rfl (Nat.le_of_ble_eq_true rfl)) (by decide +kernel)
theorem dL_law_545 : decode cL_law 545 = .ok (.aload_n 1, 1) := kd_row (b0 := 43) (bs := []) (op_43 545) (kd_win kM_512 (j := 33) rfl rfl (Nat.le_of_ble_eq_true rfl)) (by decide +kernel)
theorem dL_law_546 : decode cL_law 546 = .ok (.aload_n 0, 1) := kd_row (b0 := 42) (bs := []) (op_42 546) (kd_win kM_512 (j := 34) rfl rfl (Nat.le_of_ble_eq_true rfl)) (by decide +kernel)
theorem dL_law_547 : decode cL_law 547 = .ok (.iload 4, 2) := kd_row (b0 := 21) (bs := [4]) (op_21 547) (kd_win kM_512 (j := 35) rfl rfl (Nat.le_of_ble_eq_true rfl)) (by decide +kernel)
theorem dL_law_549 : decode cL_law 549 = .ok (.iconst 1, 1) := kd_row (b0 := 4) (bs := []) (op_4 549) (kd_win kM_512 (j := 37) rfl rfl (Nat.le_of_ble_eq_true rfl)) (by decide +kernel)
theorem dL_law_550 : decode cL_law 550 = .ok (.iadd, 1) := kd_row (b0 := 96) (bs := []) (op_96 550) (kd_win kM_512 (j := 38) rfl rfl (Nat.le_of_ble_eq_true rfl)) (by decide +kernel)
theorem dL_law_551 : decode cL_law 551 = .ok (.iaload, 1) := kd_row (b0 := 46) (bs := []) (op_46 551) (kd_win kM_512 (j := 39) rfl rfl (Nat.le_of_ble_eq_true rfl)) (by decide +kernel)
theorem dL_law_552 : decode cL_law 552 = .ok (.aload_n 0, 1) := kd_row (b0 := 42) (bs := []) (op_42 552) (kd_win kM_512 (j := 40) rfl rfl (Nat.le_of_ble_eq_true rfl)) (by decide +kernel)
theorem dL_law_553 : decode cL_law 553 = .ok (.iload 4, 2) := kd_row (b0 := 21) (bs := [4]) (op_21 553) (kd_win kM_512 (j := 41) rfl rfl (Nat.le_of_ble_eq_true rfl)) (by decide +kernel)
theorem dL_law_555 : decode cL_law 555 = .ok (.iconst 2, 1) := kd_row (b0 := 5) (bs := []) (op_5 555) (kd_win kM_512 (j := 43) rfl rfl (Nat.le_of_ble_eq_true rfl)) (by decide +kernel)
theorem dL_law_556 : decode cL_law 556 = .ok (.iadd, 1) := kd_row (b0 := 96) (bs := []) (op_96 556) (kd_win kM_512 (j := 44) rfl rfl (Nat.le_of_ble_eq_true rfl)) (by decide +kernel)
theorem dL_law_557 : decode cL_law 557 = .ok (.iaload, 1) := kd_row (b0 := 46) (bs := []) (op_46 557) (kd_win kM_512 (j := 45) rfl rfl (Nat.le_of_ble_eq_true rfl)) (by decide +kernel)
theorem dL_law_558 : decode cL_law 558 = .ok (.aload_n 3, 1) := kd_row (b0 := 45) (bs := []) (op_45 558) (kd_win kM_512 (j := 46) rfl rfl (Nat.le_of_ble_eq_true rfl)) (by decide +kernel)
theorem dL_law_559 : decode cL_law 559 = .ok (.invokestatic 172, 3) := kd_row (b0 := 184) (bs := [0, 172]) (op_184 559) (kd_win kM_512 (j := 47) rfl rfl (Nat.le_of_ble_eq_true rfl)) (by decide +kernel)
theorem dL_law_562 : decode cL_law 562 = .ok (.istore 5, 2) := kd_row (b0 := 54) (bs := [5]) (op_54 562) (kd_win kM_512 (j := 50) rfl rfl (Nat.le_of_ble_eq_true rfl)) (by decide +kernel)
theorem dL_law_564 : decode cL_law 564 = .ok (.aload_n 2, 1) := kd_row (b0 := 44) (bs := []) (op_44 564) (kd_win kM_512 (j := 52) rfl rfl (Nat.le_of_ble_eq_true rfl)) (by decide +kernel)
theorem dL_law_565 : decode cL_law 565 = .ok (.aload_n 0, 1) := kd_row (b0 := 42) (bs := []) (op_42 565) (kd_win kM_512 (j := 53) rfl rfl (Nat.le_of_ble_eq_true rfl)) (by decide +kernel)
theorem dL_law_566 : decode cL_law 566 = .ok (.iload 4, 2) := kd_row (b0 := 21) (bs := [4]) (op_21 566) (kd_win kM_512 (j := 54) rfl rfl (Nat.le_of_ble_eq_true rfl)) (by decide +kernel)
theorem dL_law_568 : decode cL_law 568 = .ok (.iconst 1, 1) := kd_row (b0 := 4) (bs := []) (op_4 568) (kd_win kM_512 (j := 56) rfl rfl (Nat.le_of_ble_eq_true rfl)) (by decide +kernel)
theorem dL_law_569 : decode cL_law 569 = .ok (.iadd, 1) := kd_row (b0 := 96) (bs := []) (op_96 569) (kd_win kM_512 (j := 57) rfl rfl (Nat.le_of_ble_eq_true rfl)) (by decide +kernel)
theorem dL_law_570 : decode cL_law 570 = .ok (.iaload, 1) := kd_row (b0 := 46) (bs := []) (op_46 570) (kd_win kM_512 (j := 58) rfl rfl (Nat.le_of_ble_eq_true rfl)) (by decide +kernel)
theorem dL_law_571 : decode cL_law 571 = .ok (.aload_n 0, 1) := kd_row (b0 := 42) (bs := []) (op_42 571) (kd_win kM_512 (j := 59) rfl rfl (Nat.le_of_ble_eq_true rfl)) (by decide +kernel)
theorem dL_law_572 : decode cL_law 572 = .ok (.iload 4, 2) := kd_row (b0 := 21) (bs := [4]) (op_21 572) (kd_win kM_512 (j := 60) rfl rfl (Nat.le_of_ble_eq_true rfl)) (by decide +kernel)
theorem dL_law_574 : decode cL_law 574 = .ok (.iconst 2, 1) := kd_row (b0 := 5) (bs := []) (op_5 574) (kd_win kM_512 (j := 62) rfl rfl (Nat.le_of_ble_eq_true rfl)) (by decide +kernel)
theorem dL_law_575 : decode cL_law 575 = .ok (.iadd, 1) := kd_row (b0 := 96) (bs := []) (op_96 575) (kd_win kM_512 (j := 63) rfl rfl (Nat.le_of_ble_eq_true rfl)) (by decide +kernel)
theorem dL_law_576 : decode cL_law 576 = .ok (.iaload, 1) := kd_row (b0 := 46) (bs := []) (op_46 576) (kd_win kM_576 (j := 0) rfl rfl (Nat.le_of_ble_eq_true rfl)) (by decide +kernel)
theorem dL_law_577 : decode cL_law 577 = .ok (.invokevirtual 174, 3) := kd_row (b0 := 182) (bs := [0, 174]) (op_182 577) (kd_win kM_576 (j := 1) rfl rfl (Nat.le_of_ble_eq_true rfl)) (by decide +kernel)
theorem dL_law_580 : decode cL_law 580 = .ok (.istore 6, 2) := kd_row (b0 := 54) (bs := [6]) (op_54 580) (kd_win kM_576 (j := 4) rfl rfl (Nat.le_of_ble_eq_true rfl)) (by decide +kernel)
theorem dL_law_582 : decode cL_law 582 = .ok (.goto 1291, 3) := kd_row (b0 := 167) (bs := [5, 11]) (op_167 582) (kd_win kM_576 (j := 6) rfl rfl (Nat.le_of_ble_eq_true rfl)) (by decide +kernel)
theorem dL_law_585 : decode cL_law 585 = .ok (.aload_n 1, 1) := kd_row (b0 := 43) (bs := []) (op_43 585) (kd_win kM_576 (j := 9) rfl rfl (Nat.le_of_ble_eq_true rfl)) (by decide +kernel)
theorem dL_law_586 : decode cL_law 586 = .ok (.aload_n 0, 1) := kd_row (b0 := 42) (bs := []) (op_42 586) (kd_win kM_576 (j := 10) rfl rfl (Nat.le_of_ble_eq_true rfl)) (by decide +kernel)
theorem dL_law_587 : decode cL_law 587 = .ok (.iload 4, 2) := kd_row (b0 := 21) (bs := [4]) (op_21 587) (kd_win kM_576 (j := 11) rfl rfl (Nat.le_of_ble_eq_true rfl)) (by decide +kernel)
theorem dL_law_589 : decode cL_law 589 = .ok (.iconst 1, 1) := kd_row (b0 := 4) (bs := []) (op_4 589) (kd_win kM_576 (j := 13) rfl rfl (Nat.le_of_ble_eq_true rfl)) (by decide +kernel)
theorem dL_law_590 : decode cL_law 590 = .ok (.iadd, 1) := kd_row (b0 := 96) (bs := []) (op_96 590) (kd_win kM_576 (j := 14) rfl rfl (Nat.le_of_ble_eq_true rfl)) (by decide +kernel)
theorem dL_law_591 : decode cL_law 591 = .ok (.iaload, 1) := kd_row (b0 := 46) (bs := []) (op_46 591) (kd_win kM_576 (j := 15) rfl rfl (Nat.le_of_ble_eq_true rfl)) (by decide +kernel)
theorem dL_law_592 : decode cL_law 592 = .ok (.aload_n 0, 1) := kd_row (b0 := 42) (bs := []) (op_42 592) (kd_win kM_576 (j := 16) rfl rfl (Nat.le_of_ble_eq_true rfl)) (by decide +kernel)
theorem dL_law_593 : decode cL_law 593 = .ok (.iload 4, 2) := kd_row (b0 := 21) (bs := [4]) (op_21 593) (kd_win kM_576 (j := 17) rfl rfl (Nat.le_of_ble_eq_true rfl)) (by decide +kernel)
theorem dL_law_595 : decode cL_law 595 = .ok (.iconst 2, 1) := kd_row (b0 := 5) (bs := []) (op_5 595) (kd_win kM_576 (j := 19) rfl rfl (Nat.le_of_ble_eq_true rfl)) (by decide +kernel)
theorem dL_law_596 : decode cL_law 596 = .ok (.iadd, 1) := kd_row (b0 := 96) (bs := []) (op_96 596) (kd_win kM_576 (j := 20) rfl rfl (Nat.le_of_ble_eq_true rfl)) (by decide +kernel)
theorem dL_law_597 : decode cL_law 597 = .ok (.iaload, 1) := kd_row (b0 := 46) (bs := []) (op_46 597) (kd_win kM_576 (j := 21) rfl rfl (Nat.le_of_ble_eq_true rfl)) (by decide +kernel)
theorem dL_law_598 : decode cL_law 598 = .ok (.aload_n 3, 1) := kd_row (b0 := 45) (bs := []) (op_45 598) (kd_win kM_576 (j := 22) rfl rfl (Nat.le_of_ble_eq_true rfl)) (by decide +kernel)
theorem dL_law_599 : decode cL_law 599 = .ok (.invokestatic 175, 3) := kd_row (b0 := 184) (bs := [0, 175]) (op_184 599) (kd_win kM_576 (j := 23) rfl rfl (Nat.le_of_ble_eq_true rfl)) (by decide +kernel)
theorem dL_law_602 : decode cL_law 602 = .ok (.istore 5, 2) := kd_row (b0 := 54) (bs := [5]) (op_54 602) (kd_win kM_576 (j := 26) rfl rfl (Nat.le_of_ble_eq_true rfl)) (by decide +kernel)
theorem dL_law_604 : decode cL_law 604 = .ok (.aload_n 2, 1) := kd_row (b0 := 44) (bs := []) (op_44 604) (kd_win kM_576 (j := 28) rfl rfl (Nat.le_of_ble_eq_true rfl)) (by decide +kernel)
theorem dL_law_605 : decode cL_law 605 = .ok (.aload_n 0, 1) := kd_row (b0 := 42) (bs := []) (op_42 605) (kd_win kM_576 (j := 29) rfl rfl (Nat.le_of_ble_eq_true rfl)) (by decide +kernel)
theorem dL_law_606 : decode cL_law 606 = .ok (.iload 4, 2) := kd_row (b0 := 21) (bs := [4]) (op_21 606) (kd_win kM_576 (j := 30) rfl rfl (Nat.le_of_ble_eq_true rfl)) (by decide +kernel)
theorem dL_law_608 : decode cL_law 608 = .ok (.iconst 1, 1) := kd_row (b0 := 4) (bs := []) (op_4 608) (kd_win kM_576 (j := 32) rfl rfl (Nat.le_of_ble_eq_true rfl)) (by decide +kernel)
theorem dL_law_609 : decode cL_law 609 = .ok (.iadd, 1) := kd_row (b0 := 96) (bs := []) (op_96 609) (kd_win kM_576 (j := 33) rfl rfl (Nat.le_of_ble_eq_true rfl)) (by decide +kernel)
theorem dL_law_610 : decode cL_law 610 = .ok (.iaload, 1) := kd_row (b0 := 46) (bs := []) (op_46 610) (kd_win kM_576 (j := 34) rfl rfl (Nat.le_of_ble_eq_true rfl)) (by decide +kernel)
theorem dL_law_611 : decode cL_law 611 = .ok (.aload_n 0, 1) := kd_row (b0 := 42) (bs := []) (op_42 611) (kd_win kM_576 (j := 35) rfl rfl (Nat.le_of_ble_eq_true rfl)) (by decide +kernel)
theorem dL_law_612 : decode cL_law 612 = .ok (.iload 4, 2) := kd_row (b0 := 21) (bs := [4]) (op_21 612) (kd_win kM_576 (j := 36) rfl rfl (Nat.le_of_ble_eq_true rfl)) (by decide +kernel)
theorem dL_law_614 : decode cL_law 614 = .ok (.iconst 2, 1) := kd_row (b0 := 5) (bs := []) (op_5 614) (kd_win kM_576 (j := 38) rfl rfl (Nat.le_of_ble_eq_true rfl)) (by decide +kernel)
theorem dL_law_615 : decode cL_law 615 = .ok (.iadd, 1) := kd_row (b0 := 96) (bs := []) (op_96 615) (kd_win kM_576 (j := 39) rfl rfl (Nat.le_of_ble_eq_true rfl)) (by decide +kernel)
theorem dL_law_616 : decode cL_law 616 = .ok (.iaload, 1) := kd_row (b0 := 46) (bs := []) (op_46 616) (kd_win kM_576 (j := 40) rfl rfl (Nat.le_of_ble_eq_true rfl)) (by decide +kernel)
theorem dL_law_617 : decode cL_law 617 = .ok (.invokevirtual 177, 3) := kd_row (b0 := 182) (bs := [0, 177]) (op_182 617) (kd_win kM_576 (j := 41) rfl rfl (Nat.le_of_ble_eq_true rfl)) (by decide +kernel)
theorem dL_law_620 : decode cL_law 620 = .ok (.istore 6, 2) := kd_row (b0 := 54) (bs := [6]) (op_54 620) (kd_win kM_576 (j := 44) rfl rfl (Nat.le_of_ble_eq_true rfl)) (by decide +kernel)
theorem dL_law_622 : decode cL_law 622 = .ok (.goto 1251, 3) := kd_row (b0 := 167) (bs := [4, 227]) (op_167 622) (kd_win kM_576 (j := 46) rfl rfl (Nat.le_of_ble_eq_true rfl)) (by decide +kernel)
theorem dL_law_625 : decode cL_law 625 = .ok (.aload_n 1, 1) := kd_row (b0 := 43) (bs := []) (op_43 625) (kd_win kM_576 (j := 49) rfl rfl (Nat.le_of_ble_eq_true rfl)) (by decide +kernel)
theorem dL_law_626 : decode cL_law 626 = .ok (.aload_n 0, 1) := kd_row (b0 := 42) (bs := []) (op_42 626) (kd_win kM_576 (j := 50) rfl rfl (Nat.le_of_ble_eq_true rfl)) (by decide +kernel)
theorem dL_law_627 : decode cL_law 627 = .ok (.iload 4, 2) := kd_row (b0 := 21) (bs := [4]) (op_21 627) (kd_win kM_576 (j := 51) rfl rfl (Nat.le_of_ble_eq_true rfl)) (by decide +kernel)
theorem dL_law_629 : decode cL_law 629 = .ok (.iconst 1, 1) := kd_row (b0 := 4) (bs := []) (op_4 629) (kd_win kM_576 (j := 53) rfl rfl (Nat.le_of_ble_eq_true rfl)) (by decide +kernel)
theorem dL_law_630 : decode cL_law 630 = .ok (.iadd, 1) := kd_row (b0 := 96) (bs := []) (op_96 630) (kd_win kM_576 (j := 54) rfl rfl (Nat.le_of_ble_eq_true rfl)) (by decide +kernel)
theorem dL_law_631 : decode cL_law 631 = .ok (.iaload, 1) := kd_row (b0 := 46) (bs := []) (op_46 631) (kd_win kM_576 (j := 55) rfl rfl (Nat.le_of_ble_eq_true rfl)) (by decide +kernel)
theorem dL_law_632 : decode cL_law 632 = .ok (.aload_n 0, 1) := kd_row (b0 := 42) (bs := []) (op_42 632) (kd_win kM_576 (j := 56) rfl rfl (Nat.le_of_ble_eq_true rfl)) (by decide +kernel)
theorem dL_law_633 : decode cL_law 633 = .ok (.iload 4, 2) := kd_row (b0 := 21) (bs := [4]) (op_21 633) (kd_win kM_576 (j := 57) rfl rfl (Nat.le_of_ble_eq_true rfl)) (by decide +kernel)
theorem dL_law_635 : decode cL_law 635 = .ok (.iconst 2, 1) := kd_row (b0 := 5) (bs := []) (op_5 635) (kd_win kM_576 (j := 59) rfl rfl (Nat.le_of_ble_eq_true rfl)) (by decide +kernel)
theorem dL_law_636 : decode cL_law 636 = .ok (.iadd, 1) := kd_row (b0 := 96) (bs := []) (op_96 636) (kd_win kM_576 (j := 60) rfl rfl (Nat.le_of_ble_eq_true rfl)) (by decide +kernel)
theorem dL_law_637 : decode cL_law 637 = .ok (.iaload, 1) := kd_row (b0 := 46) (bs := []) (op_46 637) (kd_win kM_576 (j := 61) rfl rfl (Nat.le_of_ble_eq_true rfl)) (by decide +kernel)
theorem dL_law_638 : decode cL_law 638 = .ok (.aload_n 0, 1) := kd_row (b0 := 42) (bs := []) (op_42 638) (kd_win kM_576 (j := 62) rfl rfl (Nat.le_of_ble_eq_true rfl)) (by decide +kernel)
theorem dL_law_639 : decode cL_law 639 = .ok (.iload 4, 2) := kd_row (b0 := 21) (bs := [4]) (op_21 639) (kd_win kM_576 (j := 63) rfl rfl (Nat.le_of_ble_eq_true rfl)) (by decide +kernel)
theorem dL_law_641 : decode cL_law 641 = .ok (.iconst 3, 1) := kd_row (b0 := 6) (bs := []) (op_6 641) (kd_win kM_640 (j := 1) rfl rfl (Nat.le_of_ble_eq_true rfl)) (by decide +kernel)
theorem dL_law_642 : decode cL_law 642 = .ok (.iadd, 1) := kd_row (b0 := 96) (bs := []) (op_96 642) (kd_win kM_640 (j := 2) rfl rfl (Nat.le_of_ble_eq_true rfl)) (by decide +kernel)
theorem dL_law_643 : decode cL_law 643 = .ok (.iaload, 1) := kd_row (b0 := 46) (bs := []) (op_46 643) (kd_win kM_640 (j := 3) rfl rfl (Nat.le_of_ble_eq_true rfl)) (by decide +kernel)
theorem dL_law_644 : decode cL_law 644 = .ok (.ifCond .eq 7, 3) := kd_row (b0 := 153) (bs := [0, 7]) (op_153 644) (kd_win kM_640 (j := 4) rfl rfl (Nat.le_of_ble_eq_true rfl)) (by decide +kernel)
theorem dL_law_647 : decode cL_law 647 = .ok (.iconst 1, 1) := kd_row (b0 := 4) (bs := []) (op_4 647) (kd_win kM_640 (j := 7) rfl rfl (Nat.le_of_ble_eq_true rfl)) (by decide +kernel)
theorem dL_law_648 : decode cL_law 648 = .ok (.goto 4, 3) := kd_row (b0 := 167) (bs := [0, 4]) (op_167 648) (kd_win kM_640 (j := 8) rfl rfl (Nat.le_of_ble_eq_true rfl)) (by decide +kernel)
theorem dL_law_651 : decode cL_law 651 = .ok (.iconst 0, 1) := kd_row (b0 := 3) (bs := []) (op_3 651) (kd_win kM_640 (j := 11) rfl rfl (Nat.le_of_ble_eq_true rfl)) (by decide +kernel)
theorem dL_law_652 : decode cL_law 652 = .ok (.aload_n 3, 1) := kd_row (b0 := 45) (bs := []) (op_45 652) (kd_win kM_640 (j := 12) rfl rfl (Nat.le_of_ble_eq_true rfl)) (by decide +kernel)
theorem dL_law_653 : decode cL_law 653 = .ok (.invokestatic 178, 3) := kd_row (b0 := 184) (bs := [0, 178]) (op_184 653) (kd_win kM_640 (j := 13) rfl rfl (Nat.le_of_ble_eq_true rfl)) (by decide +kernel)
theorem dL_law_656 : decode cL_law 656 = .ok (.istore 5, 2) := kd_row (b0 := 54) (bs := [5]) (op_54 656) (kd_win kM_640 (j := 16) rfl rfl (Nat.le_of_ble_eq_true rfl)) (by decide +kernel)
theorem dL_law_658 : decode cL_law 658 = .ok (.aload_n 2, 1) := kd_row (b0 := 44) (bs := []) (op_44 658) (kd_win kM_640 (j := 18) rfl rfl (Nat.le_of_ble_eq_true rfl)) (by decide +kernel)
theorem dL_law_659 : decode cL_law 659 = .ok (.aload_n 0, 1) := kd_row (b0 := 42) (bs := []) (op_42 659) (kd_win kM_640 (j := 19) rfl rfl (Nat.le_of_ble_eq_true rfl)) (by decide +kernel)
theorem dL_law_660 : decode cL_law 660 = .ok (.iload 4, 2) := kd_row (b0 := 21) (bs := [4]) (op_21 660) (kd_win kM_640 (j := 20) rfl rfl (Nat.le_of_ble_eq_true rfl)) (by decide +kernel)
theorem dL_law_662 : decode cL_law 662 = .ok (.iconst 1, 1) := kd_row (b0 := 4) (bs := []) (op_4 662) (kd_win kM_640 (j := 22) rfl rfl (Nat.le_of_ble_eq_true rfl)) (by decide +kernel)
theorem dL_law_663 : decode cL_law 663 = .ok (.iadd, 1) := kd_row (b0 := 96) (bs := []) (op_96 663) (kd_win kM_640 (j := 23) rfl rfl (Nat.le_of_ble_eq_true rfl)) (by decide +kernel)
theorem dL_law_664 : decode cL_law 664 = .ok (.iaload, 1) := kd_row (b0 := 46) (bs := []) (op_46 664) (kd_win kM_640 (j := 24) rfl rfl (Nat.le_of_ble_eq_true rfl)) (by decide +kernel)
theorem dL_law_665 : decode cL_law 665 = .ok (.aload_n 0, 1) := kd_row (b0 := 42) (bs := []) (op_42 665) (kd_win kM_640 (j := 25) rfl rfl (Nat.le_of_ble_eq_true rfl)) (by decide +kernel)
theorem dL_law_666 : decode cL_law 666 = .ok (.iload 4, 2) := kd_row (b0 := 21) (bs := [4]) (op_21 666) (kd_win kM_640 (j := 26) rfl rfl (Nat.le_of_ble_eq_true rfl)) (by decide +kernel)
theorem dL_law_668 : decode cL_law 668 = .ok (.iconst 2, 1) := kd_row (b0 := 5) (bs := []) (op_5 668) (kd_win kM_640 (j := 28) rfl rfl (Nat.le_of_ble_eq_true rfl)) (by decide +kernel)
theorem dL_law_669 : decode cL_law 669 = .ok (.iadd, 1) := kd_row (b0 := 96) (bs := []) (op_96 669) (kd_win kM_640 (j := 29) rfl rfl (Nat.le_of_ble_eq_true rfl)) (by decide +kernel)
theorem dL_law_670 : decode cL_law 670 = .ok (.iaload, 1) := kd_row (b0 := 46) (bs := []) (op_46 670) (kd_win kM_640 (j := 30) rfl rfl (Nat.le_of_ble_eq_true rfl)) (by decide +kernel)
theorem dL_law_671 : decode cL_law 671 = .ok (.aload_n 0, 1) := kd_row (b0 := 42) (bs := []) (op_42 671) (kd_win kM_640 (j := 31) rfl rfl (Nat.le_of_ble_eq_true rfl)) (by decide +kernel)
theorem dL_law_672 : decode cL_law 672 = .ok (.iload 4, 2) := kd_row (b0 := 21) (bs := [4]) (op_21 672) (kd_win kM_640 (j := 32) rfl rfl (Nat.le_of_ble_eq_true rfl)) (by decide +kernel)
theorem dL_law_674 : decode cL_law 674 = .ok (.iconst 3, 1) := kd_row (b0 := 6) (bs := []) (op_6 674) (kd_win kM_640 (j := 34) rfl rfl (Nat.le_of_ble_eq_true rfl)) (by decide +kernel)
theorem dL_law_675 : decode cL_law 675 = .ok (.iadd, 1) := kd_row (b0 := 96) (bs := []) (op_96 675) (kd_win kM_640 (j := 35) rfl rfl (Nat.le_of_ble_eq_true rfl)) (by decide +kernel)
theorem dL_law_676 : decode cL_law 676 = .ok (.iaload, 1) := kd_row (b0 := 46) (bs := []) (op_46 676) (kd_win kM_640 (j := 36) rfl rfl (Nat.le_of_ble_eq_true rfl)) (by decide +kernel)
theorem dL_law_677 : decode cL_law 677 = .ok (.ifCond .eq 7, 3) := kd_row (b0 := 153) (bs := [0, 7]) (op_153 677) (kd_win kM_640 (j := 37) rfl rfl (Nat.le_of_ble_eq_true rfl)) (by decide +kernel)
theorem dL_law_680 : decode cL_law 680 = .ok (.iconst 1, 1) := kd_row (b0 := 4) (bs := []) (op_4 680) (kd_win kM_640 (j := 40) rfl rfl (Nat.le_of_ble_eq_true rfl)) (by decide +kernel)
theorem dL_law_681 : decode cL_law 681 = .ok (.goto 4, 3) := kd_row (b0 := 167) (bs := [0, 4]) (op_167 681) (kd_win kM_640 (j := 41) rfl rfl (Nat.le_of_ble_eq_true rfl)) (by decide +kernel)
theorem dL_law_684 : decode cL_law 684 = .ok (.iconst 0, 1) := kd_row (b0 := 3) (bs := []) (op_3 684) (kd_win kM_640 (j := 44) rfl rfl (Nat.le_of_ble_eq_true rfl)) (by decide +kernel)
theorem dL_law_685 : decode cL_law 685 = .ok (.invokevirtual 181, 3) := kd_row (b0 := 182) (bs := [0, 181]) (op_182 685) (kd_win kM_640 (j := 45) rfl rfl (Nat.le_of_ble_eq_true rfl)) (by decide +kernel)
theorem dL_law_688 : decode cL_law 688 = .ok (.istore 6, 2) := kd_row (b0 := 54) (bs := [6]) (op_54 688) (kd_win kM_640 (j := 48) rfl rfl (Nat.le_of_ble_eq_true rfl)) (by decide +kernel)
theorem dL_law_690 : decode cL_law 690 = .ok (.goto 1183, 3) := kd_row (b0 := 167) (bs := [4, 159]) (op_167 690) (kd_win kM_640 (j := 50) rfl rfl (Nat.le_of_ble_eq_true rfl)) (by decide +kernel)
theorem dL_law_693 : decode cL_law 693 = .ok (.aload_n 1, 1) := kd_row (b0 := 43) (bs := []) (op_43 693) (kd_win kM_640 (j := 53) rfl rfl (Nat.le_of_ble_eq_true rfl)) (by decide +kernel)
theorem dL_law_694 : decode cL_law 694 = .ok (.aload_n 0, 1) := kd_row (b0 := 42) (bs := []) (op_42 694) (kd_win kM_640 (j := 54) rfl rfl (Nat.le_of_ble_eq_true rfl)) (by decide +kernel)
theorem dL_law_695 : decode cL_law 695 = .ok (.iload 4, 2) := kd_row (b0 := 21) (bs := [4]) (op_21 695) (kd_win kM_640 (j := 55) rfl rfl (Nat.le_of_ble_eq_true rfl)) (by decide +kernel)
theorem dL_law_697 : decode cL_law 697 = .ok (.iconst 1, 1) := kd_row (b0 := 4) (bs := []) (op_4 697) (kd_win kM_640 (j := 57) rfl rfl (Nat.le_of_ble_eq_true rfl)) (by decide +kernel)
theorem dL_law_698 : decode cL_law 698 = .ok (.iadd, 1) := kd_row (b0 := 96) (bs := []) (op_96 698) (kd_win kM_640 (j := 58) rfl rfl (Nat.le_of_ble_eq_true rfl)) (by decide +kernel)
theorem dL_law_699 : decode cL_law 699 = .ok (.iaload, 1) := kd_row (b0 := 46) (bs := []) (op_46 699) (kd_win kM_640 (j := 59) rfl rfl (Nat.le_of_ble_eq_true rfl)) (by decide +kernel)
theorem dL_law_700 : decode cL_law 700 = .ok (.aload_n 3, 1) := kd_row (b0 := 45) (bs := []) (op_45 700) (kd_win kM_640 (j := 60) rfl rfl (Nat.le_of_ble_eq_true rfl)) (by decide +kernel)
theorem dL_law_701 : decode cL_law 701 = .ok (.invokestatic 182, 3) := kd_row (b0 := 184) (bs := [0, 182]) (op_184 701) (kd_win kM_640 (j := 61) rfl rfl (Nat.le_of_ble_eq_true rfl)) (by decide +kernel)
theorem dL_law_704 : decode cL_law 704 = .ok (.istore 5, 2) := kd_row (b0 := 54) (bs := [5]) (op_54 704) (kd_win kM_704 (j := 0) rfl rfl (Nat.le_of_ble_eq_true rfl)) (by decide +kernel)
theorem dL_law_706 : decode cL_law 706 = .ok (.aload_n 2, 1) := kd_row (b0 := 44) (bs := []) (op_44 706) (kd_win kM_704 (j := 2) rfl rfl (Nat.le_of_ble_eq_true rfl)) (by decide +kernel)
theorem dL_law_707 : decode cL_law 707 = .ok (.aload_n 0, 1) := kd_row (b0 := 42) (bs := []) (op_42 707) (kd_win kM_704 (j := 3) rfl rfl (Nat.le_of_ble_eq_true rfl)) (by decide +kernel)
theorem dL_law_708 : decode cL_law 708 = .ok (.iload 4, 2) := kd_row (b0 := 21) (bs := [4]) (op_21 708) (kd_win kM_704 (j := 4) rfl rfl (Nat.le_of_ble_eq_true rfl)) (by decide +kernel)
theorem dL_law_710 : decode cL_law 710 = .ok (.iconst 1, 1) := kd_row (b0 := 4) (bs := []) (op_4 710) (kd_win kM_704 (j := 6) rfl rfl (Nat.le_of_ble_eq_true rfl)) (by decide +kernel)
theorem dL_law_711 : decode cL_law 711 = .ok (.iadd, 1) := kd_row (b0 := 96) (bs := []) (op_96 711) (kd_win kM_704 (j := 7) rfl rfl (Nat.le_of_ble_eq_true rfl)) (by decide +kernel)
theorem dL_law_712 : decode cL_law 712 = .ok (.iaload, 1) := kd_row (b0 := 46) (bs := []) (op_46 712) (kd_win kM_704 (j := 8) rfl rfl (Nat.le_of_ble_eq_true rfl)) (by decide +kernel)
theorem dL_law_713 : decode cL_law 713 = .ok (.invokevirtual 185, 3) := kd_row (b0 := 182) (bs := [0, 185]) (op_182 713) (kd_win kM_704 (j := 9) rfl rfl (Nat.le_of_ble_eq_true rfl)) (by decide +kernel)
theorem dL_law_716 : decode cL_law 716 = .ok (.istore 6, 2) := kd_row (b0 := 54) (bs := [6]) (op_54 716) (kd_win kM_704 (j := 12) rfl rfl (Nat.le_of_ble_eq_true rfl)) (by decide +kernel)
theorem dL_law_718 : decode cL_law 718 = .ok (.goto 1155, 3) := kd_row (b0 := 167) (bs := [4, 131]) (op_167 718) (kd_win kM_704 (j := 14) rfl rfl (Nat.le_of_ble_eq_true rfl)) (by decide +kernel)
theorem dL_law_721 : decode cL_law 721 = .ok (.aload_n 1, 1) := kd_row (b0 := 43) (bs := []) (op_43 721) (kd_win kM_704 (j := 17) rfl rfl (Nat.le_of_ble_eq_true rfl)) (by decide +kernel)
theorem dL_law_722 : decode cL_law 722 = .ok (.invokevirtual 186, 3) := kd_row (b0 := 182) (bs := [0, 186]) (op_182 722) (kd_win kM_704 (j := 18) rfl rfl (Nat.le_of_ble_eq_true rfl)) (by decide +kernel)
theorem dL_law_725 : decode cL_law 725 = .ok (.pop, 1) := kd_row (b0 := 87) (bs := []) (op_87 725) (kd_win kM_704 (j := 21) rfl rfl (Nat.le_of_ble_eq_true rfl)) (by decide +kernel)
theorem dL_law_726 : decode cL_law 726 = .ok (.aload_n 2, 1) := kd_row (b0 := 44) (bs := []) (op_44 726) (kd_win kM_704 (j := 22) rfl rfl (Nat.le_of_ble_eq_true rfl)) (by decide +kernel)
theorem dL_law_727 : decode cL_law 727 = .ok (.invokevirtual 189, 3) := kd_row (b0 := 182) (bs := [0, 189]) (op_182 727) (kd_win kM_704 (j := 23) rfl rfl (Nat.le_of_ble_eq_true rfl)) (by decide +kernel)
theorem dL_law_730 : decode cL_law 730 = .ok (.pop, 1) := kd_row (b0 := 87) (bs := []) (op_87 730) (kd_win kM_704 (j := 26) rfl rfl (Nat.le_of_ble_eq_true rfl)) (by decide +kernel)
theorem dL_law_731 : decode cL_law 731 = .ok (.goto 1142, 3) := kd_row (b0 := 167) (bs := [4, 118]) (op_167 731) (kd_win kM_704 (j := 27) rfl rfl (Nat.le_of_ble_eq_true rfl)) (by decide +kernel)
theorem dL_law_734 : decode cL_law 734 = .ok (.aload_n 1, 1) := kd_row (b0 := 43) (bs := []) (op_43 734) (kd_win kM_704 (j := 30) rfl rfl (Nat.le_of_ble_eq_true rfl)) (by decide +kernel)
theorem dL_law_735 : decode cL_law 735 = .ok (.aload_n 0, 1) := kd_row (b0 := 42) (bs := []) (op_42 735) (kd_win kM_704 (j := 31) rfl rfl (Nat.le_of_ble_eq_true rfl)) (by decide +kernel)
theorem dL_law_736 : decode cL_law 736 = .ok (.iload 4, 2) := kd_row (b0 := 21) (bs := [4]) (op_21 736) (kd_win kM_704 (j := 32) rfl rfl (Nat.le_of_ble_eq_true rfl)) (by decide +kernel)
theorem dL_law_738 : decode cL_law 738 = .ok (.iconst 1, 1) := kd_row (b0 := 4) (bs := []) (op_4 738) (kd_win kM_704 (j := 34) rfl rfl (Nat.le_of_ble_eq_true rfl)) (by decide +kernel)
theorem dL_law_739 : decode cL_law 739 = .ok (.iadd, 1) := kd_row (b0 := 96) (bs := []) (op_96 739) (kd_win kM_704 (j := 35) rfl rfl (Nat.le_of_ble_eq_true rfl)) (by decide +kernel)
theorem dL_law_740 : decode cL_law 740 = .ok (.iaload, 1) := kd_row (b0 := 46) (bs := []) (op_46 740) (kd_win kM_704 (j := 36) rfl rfl (Nat.le_of_ble_eq_true rfl)) (by decide +kernel)
theorem dL_law_741 : decode cL_law 741 = .ok (.aload_n 0, 1) := kd_row (b0 := 42) (bs := []) (op_42 741) (kd_win kM_704 (j := 37) rfl rfl (Nat.le_of_ble_eq_true rfl)) (by decide +kernel)
theorem dL_law_742 : decode cL_law 742 = .ok (.iload 4, 2) := kd_row (b0 := 21) (bs := [4]) (op_21 742) (kd_win kM_704 (j := 38) rfl rfl (Nat.le_of_ble_eq_true rfl)) (by decide +kernel)
theorem dL_law_744 : decode cL_law 744 = .ok (.iconst 2, 1) := kd_row (b0 := 5) (bs := []) (op_5 744) (kd_win kM_704 (j := 40) rfl rfl (Nat.le_of_ble_eq_true rfl)) (by decide +kernel)
theorem dL_law_745 : decode cL_law 745 = .ok (.iadd, 1) := kd_row (b0 := 96) (bs := []) (op_96 745) (kd_win kM_704 (j := 41) rfl rfl (Nat.le_of_ble_eq_true rfl)) (by decide +kernel)
theorem dL_law_746 : decode cL_law 746 = .ok (.iaload, 1) := kd_row (b0 := 46) (bs := []) (op_46 746) (kd_win kM_704 (j := 42) rfl rfl (Nat.le_of_ble_eq_true rfl)) (by decide +kernel)
theorem dL_law_747 : decode cL_law 747 = .ok (.aload_n 0, 1) := kd_row (b0 := 42) (bs := []) (op_42 747) (kd_win kM_704 (j := 43) rfl rfl (Nat.le_of_ble_eq_true rfl)) (by decide +kernel)
theorem dL_law_748 : decode cL_law 748 = .ok (.iload 4, 2) := kd_row (b0 := 21) (bs := [4]) (op_21 748) (kd_win kM_704 (j := 44) rfl rfl (Nat.le_of_ble_eq_true rfl)) (by decide +kernel)
theorem dL_law_750 : decode cL_law 750 = .ok (.iconst 3, 1) := kd_row (b0 := 6) (bs := []) (op_6 750) (kd_win kM_704 (j := 46) rfl rfl (Nat.le_of_ble_eq_true rfl)) (by decide +kernel)
theorem dL_law_751 : decode cL_law 751 = .ok (.iadd, 1) := kd_row (b0 := 96) (bs := []) (op_96 751) (kd_win kM_704 (j := 47) rfl rfl (Nat.le_of_ble_eq_true rfl)) (by decide +kernel)
theorem dL_law_752 : decode cL_law 752 = .ok (.iaload, 1) := kd_row (b0 := 46) (bs := []) (op_46 752) (kd_win kM_704 (j := 48) rfl rfl (Nat.le_of_ble_eq_true rfl)) (by decide +kernel)
theorem dL_law_753 : decode cL_law 753 = .ok (.aload_n 3, 1) := kd_row (b0 := 45) (bs := []) (op_45 753) (kd_win kM_704 (j := 49) rfl rfl (Nat.le_of_ble_eq_true rfl)) (by decide +kernel)
theorem dL_law_754 : decode cL_law 754 = .ok (.invokestatic 190, 3) := kd_row (b0 := 184) (bs := [0, 190]) (op_184 754) (kd_win kM_704 (j := 50) rfl rfl (Nat.le_of_ble_eq_true rfl)) (by decide +kernel)
theorem dL_law_757 : decode cL_law 757 = .ok (.istore 5, 2) := kd_row (b0 := 54) (bs := [5]) (op_54 757) (kd_win kM_704 (j := 53) rfl rfl (Nat.le_of_ble_eq_true rfl)) (by decide +kernel)
theorem dL_law_759 : decode cL_law 759 = .ok (.aload_n 2, 1) := kd_row (b0 := 44) (bs := []) (op_44 759) (kd_win kM_704 (j := 55) rfl rfl (Nat.le_of_ble_eq_true rfl)) (by decide +kernel)
theorem dL_law_760 : decode cL_law 760 = .ok (.aload_n 0, 1) := kd_row (b0 := 42) (bs := []) (op_42 760) (kd_win kM_704 (j := 56) rfl rfl (Nat.le_of_ble_eq_true rfl)) (by decide +kernel)
theorem dL_law_761 : decode cL_law 761 = .ok (.iload 4, 2) := kd_row (b0 := 21) (bs := [4]) (op_21 761) (kd_win kM_704 (j := 57) rfl rfl (Nat.le_of_ble_eq_true rfl)) (by decide +kernel)
theorem dL_law_763 : decode cL_law 763 = .ok (.iconst 1, 1) := kd_row (b0 := 4) (bs := []) (op_4 763) (kd_win kM_704 (j := 59) rfl rfl (Nat.le_of_ble_eq_true rfl)) (by decide +kernel)
theorem dL_law_764 : decode cL_law 764 = .ok (.iadd, 1) := kd_row (b0 := 96) (bs := []) (op_96 764) (kd_win kM_704 (j := 60) rfl rfl (Nat.le_of_ble_eq_true rfl)) (by decide +kernel)
theorem dL_law_765 : decode cL_law 765 = .ok (.iaload, 1) := kd_row (b0 := 46) (bs := []) (op_46 765) (kd_win kM_704 (j := 61) rfl rfl (Nat.le_of_ble_eq_true rfl)) (by decide +kernel)
theorem dL_law_766 : decode cL_law 766 = .ok (.aload_n 0, 1) := kd_row (b0 := 42) (bs := []) (op_42 766) (kd_win kM_704 (j := 62) rfl rfl (Nat.le_of_ble_eq_true rfl)) (by decide +kernel)
theorem dL_law_767 : decode cL_law 767 = .ok (.iload 4, 2) := kd_row (b0 := 21) (bs := [4]) (op_21 767) (kd_win kM_704 (j := 63) rfl rfl (Nat.le_of_ble_eq_true rfl)) (by decide +kernel)
theorem dL_law_769 : decode cL_law 769 = .ok (.iconst 2, 1) := kd_row (b0 := 5) (bs := []) (op_5 769) (kd_win kM_768 (j := 1) rfl rfl (Nat.le_of_ble_eq_true rfl)) (by decide +kernel)
theorem dL_law_770 : decode cL_law 770 = .ok (.iadd, 1) := kd_row (b0 := 96) (bs := []) (op_96 770) (kd_win kM_768 (j := 2) rfl rfl (Nat.le_of_ble_eq_true rfl)) (by decide +kernel)
theorem dL_law_771 : decode cL_law 771 = .ok (.iaload, 1) := kd_row (b0 := 46) (bs := []) (op_46 771) (kd_win kM_768 (j := 3) rfl rfl (Nat.le_of_ble_eq_true rfl)) (by decide +kernel)
theorem dL_law_772 : decode cL_law 772 = .ok (.aload_n 0, 1) := kd_row (b0 := 42) (bs := []) (op_42 772) (kd_win kM_768 (j := 4) rfl rfl (Nat.le_of_ble_eq_true rfl)) (by decide +kernel)
theorem dL_law_773 : decode cL_law 773 = .ok (.iload 4, 2) := kd_row (b0 := 21) (bs := [4]) (op_21 773) (kd_win kM_768 (j := 5) rfl rfl (Nat.le_of_ble_eq_true rfl)) (by decide +kernel)
theorem dL_law_775 : decode cL_law 775 = .ok (.iconst 3, 1) := kd_row (b0 := 6) (bs := []) (op_6 775) (kd_win kM_768 (j := 7) rfl rfl (Nat.le_of_ble_eq_true rfl)) (by decide +kernel)
theorem dL_law_776 : decode cL_law 776 = .ok (.iadd, 1) := kd_row (b0 := 96) (bs := []) (op_96 776) (kd_win kM_768 (j := 8) rfl rfl (Nat.le_of_ble_eq_true rfl)) (by decide +kernel)
theorem dL_law_777 : decode cL_law 777 = .ok (.iaload, 1) := kd_row (b0 := 46) (bs := []) (op_46 777) (kd_win kM_768 (j := 9) rfl rfl (Nat.le_of_ble_eq_true rfl)) (by decide +kernel)
theorem dL_law_778 : decode cL_law 778 = .ok (.invokevirtual 192, 3) := kd_row (b0 := 182) (bs := [0, 192]) (op_182 778) (kd_win kM_768 (j := 10) rfl rfl (Nat.le_of_ble_eq_true rfl)) (by decide +kernel)
theorem dL_law_781 : decode cL_law 781 = .ok (.istore 6, 2) := kd_row (b0 := 54) (bs := [6]) (op_54 781) (kd_win kM_768 (j := 13) rfl rfl (Nat.le_of_ble_eq_true rfl)) (by decide +kernel)
theorem dL_law_783 : decode cL_law 783 = .ok (.goto 1090, 3) := kd_row (b0 := 167) (bs := [4, 66]) (op_167 783) (kd_win kM_768 (j := 15) rfl rfl (Nat.le_of_ble_eq_true rfl)) (by decide +kernel)
theorem dL_law_786 : decode cL_law 786 = .ok (.aload_n 1, 1) := kd_row (b0 := 43) (bs := []) (op_43 786) (kd_win kM_768 (j := 18) rfl rfl (Nat.le_of_ble_eq_true rfl)) (by decide +kernel)
theorem dL_law_787 : decode cL_law 787 = .ok (.aload_n 0, 1) := kd_row (b0 := 42) (bs := []) (op_42 787) (kd_win kM_768 (j := 19) rfl rfl (Nat.le_of_ble_eq_true rfl)) (by decide +kernel)
theorem dL_law_788 : decode cL_law 788 = .ok (.iload 4, 2) := kd_row (b0 := 21) (bs := [4]) (op_21 788) (kd_win kM_768 (j := 20) rfl rfl (Nat.le_of_ble_eq_true rfl)) (by decide +kernel)
theorem dL_law_790 : decode cL_law 790 = .ok (.iconst 1, 1) := kd_row (b0 := 4) (bs := []) (op_4 790) (kd_win kM_768 (j := 22) rfl rfl (Nat.le_of_ble_eq_true rfl)) (by decide +kernel)
theorem dL_law_791 : decode cL_law 791 = .ok (.iadd, 1) := kd_row (b0 := 96) (bs := []) (op_96 791) (kd_win kM_768 (j := 23) rfl rfl (Nat.le_of_ble_eq_true rfl)) (by decide +kernel)
theorem dL_law_792 : decode cL_law 792 = .ok (.iaload, 1) := kd_row (b0 := 46) (bs := []) (op_46 792) (kd_win kM_768 (j := 24) rfl rfl (Nat.le_of_ble_eq_true rfl)) (by decide +kernel)
theorem dL_law_793 : decode cL_law 793 = .ok (.aload_n 0, 1) := kd_row (b0 := 42) (bs := []) (op_42 793) (kd_win kM_768 (j := 25) rfl rfl (Nat.le_of_ble_eq_true rfl)) (by decide +kernel)
theorem dL_law_794 : decode cL_law 794 = .ok (.iload 4, 2) := kd_row (b0 := 21) (bs := [4]) (op_21 794) (kd_win kM_768 (j := 26) rfl rfl (Nat.le_of_ble_eq_true rfl)) (by decide +kernel)
theorem dL_law_796 : decode cL_law 796 = .ok (.iconst 2, 1) := kd_row (b0 := 5) (bs := []) (op_5 796) (kd_win kM_768 (j := 28) rfl rfl (Nat.le_of_ble_eq_true rfl)) (by decide +kernel)
theorem dL_law_797 : decode cL_law 797 = .ok (.iadd, 1) := kd_row (b0 := 96) (bs := []) (op_96 797) (kd_win kM_768 (j := 29) rfl rfl (Nat.le_of_ble_eq_true rfl)) (by decide +kernel)
theorem dL_law_798 : decode cL_law 798 = .ok (.iaload, 1) := kd_row (b0 := 46) (bs := []) (op_46 798) (kd_win kM_768 (j := 30) rfl rfl (Nat.le_of_ble_eq_true rfl)) (by decide +kernel)
theorem dL_law_799 : decode cL_law 799 = .ok (.aload_n 0, 1) := kd_row (b0 := 42) (bs := []) (op_42 799) (kd_win kM_768 (j := 31) rfl rfl (Nat.le_of_ble_eq_true rfl)) (by decide +kernel)
theorem dL_law_800 : decode cL_law 800 = .ok (.iload 4, 2) := kd_row (b0 := 21) (bs := [4]) (op_21 800) (kd_win kM_768 (j := 32) rfl rfl (Nat.le_of_ble_eq_true rfl)) (by decide +kernel)
theorem dL_law_802 : decode cL_law 802 = .ok (.iconst 3, 1) := kd_row (b0 := 6) (bs := []) (op_6 802) (kd_win kM_768 (j := 34) rfl rfl (Nat.le_of_ble_eq_true rfl)) (by decide +kernel)
theorem dL_law_803 : decode cL_law 803 = .ok (.iadd, 1) := kd_row (b0 := 96) (bs := []) (op_96 803) (kd_win kM_768 (j := 35) rfl rfl (Nat.le_of_ble_eq_true rfl)) (by decide +kernel)
theorem dL_law_804 : decode cL_law 804 = .ok (.iaload, 1) := kd_row (b0 := 46) (bs := []) (op_46 804) (kd_win kM_768 (j := 36) rfl rfl (Nat.le_of_ble_eq_true rfl)) (by decide +kernel)
theorem dL_law_805 : decode cL_law 805 = .ok (.aload_n 3, 1) := kd_row (b0 := 45) (bs := []) (op_45 805) (kd_win kM_768 (j := 37) rfl rfl (Nat.le_of_ble_eq_true rfl)) (by decide +kernel)
theorem dL_law_806 : decode cL_law 806 = .ok (.invokestatic 193, 3) := kd_row (b0 := 184) (bs := [0, 193]) (op_184 806) (kd_win kM_768 (j := 38) rfl rfl (Nat.le_of_ble_eq_true rfl)) (by decide +kernel)
theorem dL_law_809 : decode cL_law 809 = .ok (.istore 5, 2) := kd_row (b0 := 54) (bs := [5]) (op_54 809) (kd_win kM_768 (j := 41) rfl rfl (Nat.le_of_ble_eq_true rfl)) (by decide +kernel)
theorem dL_law_811 : decode cL_law 811 = .ok (.aload_n 2, 1) := kd_row (b0 := 44) (bs := []) (op_44 811) (kd_win kM_768 (j := 43) rfl rfl (Nat.le_of_ble_eq_true rfl)) (by decide +kernel)
theorem dL_law_812 : decode cL_law 812 = .ok (.aload_n 0, 1) := kd_row (b0 := 42) (bs := []) (op_42 812) (kd_win kM_768 (j := 44) rfl rfl (Nat.le_of_ble_eq_true rfl)) (by decide +kernel)
theorem dL_law_813 : decode cL_law 813 = .ok (.iload 4, 2) := kd_row (b0 := 21) (bs := [4]) (op_21 813) (kd_win kM_768 (j := 45) rfl rfl (Nat.le_of_ble_eq_true rfl)) (by decide +kernel)
theorem dL_law_815 : decode cL_law 815 = .ok (.iconst 1, 1) := kd_row (b0 := 4) (bs := []) (op_4 815) (kd_win kM_768 (j := 47) rfl rfl (Nat.le_of_ble_eq_true rfl)) (by decide +kernel)
theorem dL_law_816 : decode cL_law 816 = .ok (.iadd, 1) := kd_row (b0 := 96) (bs := []) (op_96 816) (kd_win kM_768 (j := 48) rfl rfl (Nat.le_of_ble_eq_true rfl)) (by decide +kernel)
theorem dL_law_817 : decode cL_law 817 = .ok (.iaload, 1) := kd_row (b0 := 46) (bs := []) (op_46 817) (kd_win kM_768 (j := 49) rfl rfl (Nat.le_of_ble_eq_true rfl)) (by decide +kernel)
theorem dL_law_818 : decode cL_law 818 = .ok (.aload_n 0, 1) := kd_row (b0 := 42) (bs := []) (op_42 818) (kd_win kM_768 (j := 50) rfl rfl (Nat.le_of_ble_eq_true rfl)) (by decide +kernel)
theorem dL_law_819 : decode cL_law 819 = .ok (.iload 4, 2) := kd_row (b0 := 21) (bs := [4]) (op_21 819) (kd_win kM_768 (j := 51) rfl rfl (Nat.le_of_ble_eq_true rfl)) (by decide +kernel)
theorem dL_law_821 : decode cL_law 821 = .ok (.iconst 2, 1) := kd_row (b0 := 5) (bs := []) (op_5 821) (kd_win kM_768 (j := 53) rfl rfl (Nat.le_of_ble_eq_true rfl)) (by decide +kernel)
theorem dL_law_822 : decode cL_law 822 = .ok (.iadd, 1) := kd_row (b0 := 96) (bs := []) (op_96 822) (kd_win kM_768 (j := 54) rfl rfl (Nat.le_of_ble_eq_true rfl)) (by decide +kernel)
theorem dL_law_823 : decode cL_law 823 = .ok (.iaload, 1) := kd_row (b0 := 46) (bs := []) (op_46 823) (kd_win kM_768 (j := 55) rfl rfl (Nat.le_of_ble_eq_true rfl)) (by decide +kernel)
theorem dL_law_824 : decode cL_law 824 = .ok (.aload_n 0, 1) := kd_row (b0 := 42) (bs := []) (op_42 824) (kd_win kM_768 (j := 56) rfl rfl (Nat.le_of_ble_eq_true rfl)) (by decide +kernel)
theorem dL_law_825 : decode cL_law 825 = .ok (.iload 4, 2) := kd_row (b0 := 21) (bs := [4]) (op_21 825) (kd_win kM_768 (j := 57) rfl rfl (Nat.le_of_ble_eq_true rfl)) (by decide +kernel)
theorem dL_law_827 : decode cL_law 827 = .ok (.iconst 3, 1) := kd_row (b0 := 6) (bs := []) (op_6 827) (kd_win kM_768 (j := 59) rfl rfl (Nat.le_of_ble_eq_true rfl)) (by decide +kernel)
theorem dL_law_828 : decode cL_law 828 = .ok (.iadd, 1) := kd_row (b0 := 96) (bs := []) (op_96 828) (kd_win kM_768 (j := 60) rfl rfl (Nat.le_of_ble_eq_true rfl)) (by decide +kernel)
theorem dL_law_829 : decode cL_law 829 = .ok (.iaload, 1) := kd_row (b0 := 46) (bs := []) (op_46 829) (kd_win kM_768 (j := 61) rfl rfl (Nat.le_of_ble_eq_true rfl)) (by decide +kernel)
theorem dL_law_830 : decode cL_law 830 = .ok (.invokevirtual 195, 3) := kd_row (b0 := 182) (bs := [0, 195]) (op_182 830) (kd_win kM_768 (j := 62) rfl rfl (Nat.le_of_ble_eq_true rfl)) (by decide +kernel)
theorem dL_law_833 : decode cL_law 833 = .ok (.istore 6, 2) := kd_row (b0 := 54) (bs := [6]) (op_54 833) (kd_win kM_832 (j := 1) rfl rfl (Nat.le_of_ble_eq_true rfl)) (by decide +kernel)
theorem dL_law_835 : decode cL_law 835 = .ok (.goto 1038, 3) := kd_row (b0 := 167) (bs := [4, 14]) (op_167 835) (kd_win kM_832 (j := 3) rfl rfl (Nat.le_of_ble_eq_true rfl)) (by decide +kernel)
theorem dL_law_838 : decode cL_law 838 = .ok (.aload_n 1, 1) := kd_row (b0 := 43) (bs := []) (op_43 838) (kd_win kM_832 (j := 6) rfl rfl (Nat.le_of_ble_eq_true rfl)) (by decide +kernel)
theorem dL_law_839 : decode cL_law 839 = .ok (.aload_n 0, 1) := kd_row (b0 := 42) (bs := []) (op_42 839) (kd_win kM_832 (j := 7) rfl rfl (Nat.le_of_ble_eq_true rfl)) (by decide +kernel)
theorem dL_law_840 : decode cL_law 840 = .ok (.iload 4, 2) := kd_row (b0 := 21) (bs := [4]) (op_21 840) (kd_win kM_832 (j := 8) rfl rfl (Nat.le_of_ble_eq_true rfl)) (by decide +kernel)
theorem dL_law_842 : decode cL_law 842 = .ok (.iconst 1, 1) := kd_row (b0 := 4) (bs := []) (op_4 842) (kd_win kM_832 (j := 10) rfl rfl (Nat.le_of_ble_eq_true rfl)) (by decide +kernel)
theorem dL_law_843 : decode cL_law 843 = .ok (.iadd, 1) := kd_row (b0 := 96) (bs := []) (op_96 843) (kd_win kM_832 (j := 11) rfl rfl (Nat.le_of_ble_eq_true rfl)) (by decide +kernel)
theorem dL_law_844 : decode cL_law 844 = .ok (.iaload, 1) := kd_row (b0 := 46) (bs := []) (op_46 844) (kd_win kM_832 (j := 12) rfl rfl (Nat.le_of_ble_eq_true rfl)) (by decide +kernel)
theorem dL_law_845 : decode cL_law 845 = .ok (.aload_n 0, 1) := kd_row (b0 := 42) (bs := []) (op_42 845) (kd_win kM_832 (j := 13) rfl rfl (Nat.le_of_ble_eq_true rfl)) (by decide +kernel)
theorem dL_law_846 : decode cL_law 846 = .ok (.iload 4, 2) := kd_row (b0 := 21) (bs := [4]) (op_21 846) (kd_win kM_832 (j := 14) rfl rfl (Nat.le_of_ble_eq_true rfl)) (by decide +kernel)
theorem dL_law_848 : decode cL_law 848 = .ok (.iconst 2, 1) := kd_row (b0 := 5) (bs := []) (op_5 848) (kd_win kM_832 (j := 16) rfl rfl (Nat.le_of_ble_eq_true rfl)) (by decide +kernel)
theorem dL_law_849 : decode cL_law 849 = .ok (.iadd, 1) := kd_row (b0 := 96) (bs := []) (op_96 849) (kd_win kM_832 (j := 17) rfl rfl (Nat.le_of_ble_eq_true rfl)) (by decide +kernel)
theorem dL_law_850 : decode cL_law 850 = .ok (.iaload, 1) := kd_row (b0 := 46) (bs := []) (op_46 850) (kd_win kM_832 (j := 18) rfl rfl (Nat.le_of_ble_eq_true rfl)) (by decide +kernel)
theorem dL_law_851 : decode cL_law 851 = .ok (.aload_n 0, 1) := kd_row (b0 := 42) (bs := []) (op_42 851) (kd_win kM_832 (j := 19) rfl rfl (Nat.le_of_ble_eq_true rfl)) (by decide +kernel)
theorem dL_law_852 : decode cL_law 852 = .ok (.iload 4, 2) := kd_row (b0 := 21) (bs := [4]) (op_21 852) (kd_win kM_832 (j := 20) rfl rfl (Nat.le_of_ble_eq_true rfl)) (by decide +kernel)
theorem dL_law_854 : decode cL_law 854 = .ok (.iconst 3, 1) := kd_row (b0 := 6) (bs := []) (op_6 854) (kd_win kM_832 (j := 22) rfl rfl (Nat.le_of_ble_eq_true rfl)) (by decide +kernel)
theorem dL_law_855 : decode cL_law 855 = .ok (.iadd, 1) := kd_row (b0 := 96) (bs := []) (op_96 855) (kd_win kM_832 (j := 23) rfl rfl (Nat.le_of_ble_eq_true rfl)) (by decide +kernel)
theorem dL_law_856 : decode cL_law 856 = .ok (.iaload, 1) := kd_row (b0 := 46) (bs := []) (op_46 856) (kd_win kM_832 (j := 24) rfl rfl (Nat.le_of_ble_eq_true rfl)) (by decide +kernel)
theorem dL_law_857 : decode cL_law 857 = .ok (.aload_n 0, 1) := kd_row (b0 := 42) (bs := []) (op_42 857) (kd_win kM_832 (j := 25) rfl rfl (Nat.le_of_ble_eq_true rfl)) (by decide +kernel)
theorem dL_law_858 : decode cL_law 858 = .ok (.iload 4, 2) := kd_row (b0 := 21) (bs := [4]) (op_21 858) (kd_win kM_832 (j := 26) rfl rfl (Nat.le_of_ble_eq_true rfl)) (by decide +kernel)
theorem dL_law_860 : decode cL_law 860 = .ok (.iconst 4, 1) := kd_row (b0 := 7) (bs := []) (op_7 860) (kd_win kM_832 (j := 28) rfl rfl (Nat.le_of_ble_eq_true rfl)) (by decide +kernel)
theorem dL_law_861 : decode cL_law 861 = .ok (.iadd, 1) := kd_row (b0 := 96) (bs := []) (op_96 861) (kd_win kM_832 (j := 29) rfl rfl (Nat.le_of_ble_eq_true rfl)) (by decide +kernel)
theorem dL_law_862 : decode cL_law 862 = .ok (.iaload, 1) := kd_row (b0 := 46) (bs := []) (op_46 862) (kd_win kM_832 (j := 30) rfl rfl (Nat.le_of_ble_eq_true rfl)) (by decide +kernel)
theorem dL_law_863 : decode cL_law 863 = .ok (.aload_n 3, 1) := kd_row (b0 := 45) (bs := []) (op_45 863) (kd_win kM_832 (j := 31) rfl rfl (Nat.le_of_ble_eq_true rfl)) (by decide +kernel)
theorem dL_law_864 : decode cL_law 864 = .ok (.invokestatic 196, 3) := kd_row (b0 := 184) (bs := [0, 196]) (op_184 864) (kd_win kM_832 (j := 32) rfl rfl (Nat.le_of_ble_eq_true rfl)) (by decide +kernel)
theorem dL_law_867 : decode cL_law 867 = .ok (.istore 5, 2) := kd_row (b0 := 54) (bs := [5]) (op_54 867) (kd_win kM_832 (j := 35) rfl rfl (Nat.le_of_ble_eq_true rfl)) (by decide +kernel)
theorem dL_law_869 : decode cL_law 869 = .ok (.aload_n 2, 1) := kd_row (b0 := 44) (bs := []) (op_44 869) (kd_win kM_832 (j := 37) rfl rfl (Nat.le_of_ble_eq_true rfl)) (by decide +kernel)
theorem dL_law_870 : decode cL_law 870 = .ok (.aload_n 0, 1) := kd_row (b0 := 42) (bs := []) (op_42 870) (kd_win kM_832 (j := 38) rfl rfl (Nat.le_of_ble_eq_true rfl)) (by decide +kernel)
theorem dL_law_871 : decode cL_law 871 = .ok (.iload 4, 2) := kd_row (b0 := 21) (bs := [4]) (op_21 871) (kd_win kM_832 (j := 39) rfl rfl (Nat.le_of_ble_eq_true rfl)) (by decide +kernel)
theorem dL_law_873 : decode cL_law 873 = .ok (.iconst 1, 1) := kd_row (b0 := 4) (bs := []) (op_4 873) (kd_win kM_832 (j := 41) rfl rfl (Nat.le_of_ble_eq_true rfl)) (by decide +kernel)
theorem dL_law_874 : decode cL_law 874 = .ok (.iadd, 1) := kd_row (b0 := 96) (bs := []) (op_96 874) (kd_win kM_832 (j := 42) rfl rfl (Nat.le_of_ble_eq_true rfl)) (by decide +kernel)
theorem dL_law_875 : decode cL_law 875 = .ok (.iaload, 1) := kd_row (b0 := 46) (bs := []) (op_46 875) (kd_win kM_832 (j := 43) rfl rfl (Nat.le_of_ble_eq_true rfl)) (by decide +kernel)
theorem dL_law_876 : decode cL_law 876 = .ok (.aload_n 0, 1) := kd_row (b0 := 42) (bs := []) (op_42 876) (kd_win kM_832 (j := 44) rfl rfl (Nat.le_of_ble_eq_true rfl)) (by decide +kernel)
theorem dL_law_877 : decode cL_law 877 = .ok (.iload 4, 2) := kd_row (b0 := 21) (bs := [4]) (op_21 877) (kd_win kM_832 (j := 45) rfl rfl (Nat.le_of_ble_eq_true rfl)) (by decide +kernel)
theorem dL_law_879 : decode cL_law 879 = .ok (.iconst 2, 1) := kd_row (b0 := 5) (bs := []) (op_5 879) (kd_win kM_832 (j := 47) rfl rfl (Nat.le_of_ble_eq_true rfl)) (by decide +kernel)
theorem dL_law_880 : decode cL_law 880 = .ok (.iadd, 1) := kd_row (b0 := 96) (bs := []) (op_96 880) (kd_win kM_832 (j := 48) rfl rfl (Nat.le_of_ble_eq_true rfl)) (by decide +kernel)
theorem dL_law_881 : decode cL_law 881 = .ok (.iaload, 1) := kd_row (b0 := 46) (bs := []) (op_46 881) (kd_win kM_832 (j := 49) rfl rfl (Nat.le_of_ble_eq_true rfl)) (by decide +kernel)
theorem dL_law_882 : decode cL_law 882 = .ok (.aload_n 0, 1) := kd_row (b0 := 42) (bs := []) (op_42 882) (kd_win kM_832 (j := 50) rfl rfl (Nat.le_of_ble_eq_true rfl)) (by decide +kernel)
theorem dL_law_883 : decode cL_law 883 = .ok (.iload 4, 2) := kd_row (b0 := 21) (bs := [4]) (op_21 883) (kd_win kM_832 (j := 51) rfl rfl (Nat.le_of_ble_eq_true rfl)) (by decide +kernel)
theorem dL_law_885 : decode cL_law 885 = .ok (.iconst 3, 1) := kd_row (b0 := 6) (bs := []) (op_6 885) (kd_win kM_832 (j := 53) rfl rfl (Nat.le_of_ble_eq_true rfl)) (by decide +kernel)
theorem dL_law_886 : decode cL_law 886 = .ok (.iadd, 1) := kd_row (b0 := 96) (bs := []) (op_96 886) (kd_win kM_832 (j := 54) rfl rfl (Nat.le_of_ble_eq_true rfl)) (by decide +kernel)
theorem dL_law_887 : decode cL_law 887 = .ok (.iaload, 1) := kd_row (b0 := 46) (bs := []) (op_46 887) (kd_win kM_832 (j := 55) rfl rfl (Nat.le_of_ble_eq_true rfl)) (by decide +kernel)
theorem dL_law_888 : decode cL_law 888 = .ok (.aload_n 0, 1) := kd_row (b0 := 42) (bs := []) (op_42 888) (kd_win kM_832 (j := 56) rfl rfl (Nat.le_of_ble_eq_true rfl)) (by decide +kernel)
theorem dL_law_889 : decode cL_law 889 = .ok (.iload 4, 2) := kd_row (b0 := 21) (bs := [4]) (op_21 889) (kd_win kM_832 (j := 57) rfl rfl (Nat.le_of_ble_eq_true rfl)) (by decide +kernel)
theorem dL_law_891 : decode cL_law 891 = .ok (.iconst 4, 1) := kd_row (b0 := 7) (bs := []) (op_7 891) (kd_win kM_832 (j := 59) rfl rfl (Nat.le_of_ble_eq_true rfl)) (by decide +kernel)
theorem dL_law_892 : decode cL_law 892 = .ok (.iadd, 1) := kd_row (b0 := 96) (bs := []) (op_96 892) (kd_win kM_832 (j := 60) rfl rfl (Nat.le_of_ble_eq_true rfl)) (by decide +kernel)
theorem dL_law_893 : decode cL_law 893 = .ok (.iaload, 1) := kd_row (b0 := 46) (bs := []) (op_46 893) (kd_win kM_832 (j := 61) rfl rfl (Nat.le_of_ble_eq_true rfl)) (by decide +kernel)
theorem dL_law_894 : decode cL_law 894 = .ok (.invokevirtual 199, 3) := kd_row (b0 := 182) (bs := [0, 199]) (op_182 894) (kd_win kM_832 (j := 62) rfl rfl (Nat.le_of_ble_eq_true rfl)) (by decide +kernel)
theorem dL_law_897 : decode cL_law 897 = .ok (.istore 6, 2) := kd_row (b0 := 54) (bs := [6]) (op_54 897) (kd_win kM_896 (j := 1) rfl rfl (Nat.le_of_ble_eq_true rfl)) (by decide +kernel)
theorem dL_law_899 : decode cL_law 899 = .ok (.goto 974, 3) := kd_row (b0 := 167) (bs := [3, 206]) (op_167 899) (kd_win kM_896 (j := 3) rfl rfl (Nat.le_of_ble_eq_true rfl)) (by decide +kernel)
theorem dL_law_902 : decode cL_law 902 = .ok (.aload_n 1, 1) := kd_row (b0 := 43) (bs := []) (op_43 902) (kd_win kM_896 (j := 6) rfl rfl (Nat.le_of_ble_eq_true rfl)) (by decide +kernel)
theorem dL_law_903 : decode cL_law 903 = .ok (.aload_n 0, 1) := kd_row (b0 := 42) (bs := []) (op_42 903) (kd_win kM_896 (j := 7) rfl rfl (Nat.le_of_ble_eq_true rfl)) (by decide +kernel)
theorem dL_law_904 : decode cL_law 904 = .ok (.iload 4, 2) := kd_row (b0 := 21) (bs := [4]) (op_21 904) (kd_win kM_896 (j := 8) rfl rfl (Nat.le_of_ble_eq_true rfl)) (by decide +kernel)
theorem dL_law_906 : decode cL_law 906 = .ok (.iconst 1, 1) := kd_row (b0 := 4) (bs := []) (op_4 906) (kd_win kM_896 (j := 10) rfl rfl (Nat.le_of_ble_eq_true rfl)) (by decide +kernel)
theorem dL_law_907 : decode cL_law 907 = .ok (.iadd, 1) := kd_row (b0 := 96) (bs := []) (op_96 907) (kd_win kM_896 (j := 11) rfl rfl (Nat.le_of_ble_eq_true rfl)) (by decide +kernel)
theorem dL_law_908 : decode cL_law 908 = .ok (.iaload, 1) := kd_row (b0 := 46) (bs := []) (op_46 908) (kd_win kM_896 (j := 12) rfl rfl (Nat.le_of_ble_eq_true rfl)) (by decide +kernel)
theorem dL_law_909 : decode cL_law 909 = .ok (.aload_n 0, 1) := kd_row (b0 := 42) (bs := []) (op_42 909) (kd_win kM_896 (j := 13) rfl rfl (Nat.le_of_ble_eq_true rfl)) (by decide +kernel)
theorem dL_law_910 : decode cL_law 910 = .ok (.iload 4, 2) := kd_row (b0 := 21) (bs := [4]) (op_21 910) (kd_win kM_896 (j := 14) rfl rfl (Nat.le_of_ble_eq_true rfl)) (by decide +kernel)
theorem dL_law_912 : decode cL_law 912 = .ok (.iconst 2, 1) := kd_row (b0 := 5) (bs := []) (op_5 912) (kd_win kM_896 (j := 16) rfl rfl (Nat.le_of_ble_eq_true rfl)) (by decide +kernel)
theorem dL_law_913 : decode cL_law 913 = .ok (.iadd, 1) := kd_row (b0 := 96) (bs := []) (op_96 913) (kd_win kM_896 (j := 17) rfl rfl (Nat.le_of_ble_eq_true rfl)) (by decide +kernel)
theorem dL_law_914 : decode cL_law 914 = .ok (.iaload, 1) := kd_row (b0 := 46) (bs := []) (op_46 914) (kd_win kM_896 (j := 18) rfl rfl (Nat.le_of_ble_eq_true rfl)) (by decide +kernel)
theorem dL_law_915 : decode cL_law 915 = .ok (.aload_n 3, 1) := kd_row (b0 := 45) (bs := []) (op_45 915) (kd_win kM_896 (j := 19) rfl rfl (Nat.le_of_ble_eq_true rfl)) (by decide +kernel)
theorem dL_law_916 : decode cL_law 916 = .ok (.invokestatic 200, 3) := kd_row (b0 := 184) (bs := [0, 200]) (op_184 916) (kd_win kM_896 (j := 20) rfl rfl (Nat.le_of_ble_eq_true rfl)) (by decide +kernel)
theorem dL_law_919 : decode cL_law 919 = .ok (.istore 5, 2) := kd_row (b0 := 54) (bs := [5]) (op_54 919) (kd_win kM_896 (j := 23) rfl rfl (Nat.le_of_ble_eq_true rfl)) (by decide +kernel)
theorem dL_law_921 : decode cL_law 921 = .ok (.aload_n 2, 1) := kd_row (b0 := 44) (bs := []) (op_44 921) (kd_win kM_896 (j := 25) rfl rfl (Nat.le_of_ble_eq_true rfl)) (by decide +kernel)
theorem dL_law_922 : decode cL_law 922 = .ok (.aload_n 0, 1) := kd_row (b0 := 42) (bs := []) (op_42 922) (kd_win kM_896 (j := 26) rfl rfl (Nat.le_of_ble_eq_true rfl)) (by decide +kernel)
theorem dL_law_923 : decode cL_law 923 = .ok (.iload 4, 2) := kd_row (b0 := 21) (bs := [4]) (op_21 923) (kd_win kM_896 (j := 27) rfl rfl (Nat.le_of_ble_eq_true rfl)) (by decide +kernel)
theorem dL_law_925 : decode cL_law 925 = .ok (.iconst 1, 1) := kd_row (b0 := 4) (bs := []) (op_4 925) (kd_win kM_896 (j := 29) rfl rfl (Nat.le_of_ble_eq_true rfl)) (by decide +kernel)
theorem dL_law_926 : decode cL_law 926 = .ok (.iadd, 1) := kd_row (b0 := 96) (bs := []) (op_96 926) (kd_win kM_896 (j := 30) rfl rfl (Nat.le_of_ble_eq_true rfl)) (by decide +kernel)
theorem dL_law_927 : decode cL_law 927 = .ok (.iaload, 1) := kd_row (b0 := 46) (bs := []) (op_46 927) (kd_win kM_896 (j := 31) rfl rfl (Nat.le_of_ble_eq_true rfl)) (by decide +kernel)
theorem dL_law_928 : decode cL_law 928 = .ok (.aload_n 0, 1) := kd_row (b0 := 42) (bs := []) (op_42 928) (kd_win kM_896 (j := 32) rfl rfl (Nat.le_of_ble_eq_true rfl)) (by decide +kernel)
theorem dL_law_929 : decode cL_law 929 = .ok (.iload 4, 2) := kd_row (b0 := 21) (bs := [4]) (op_21 929) (kd_win kM_896 (j := 33) rfl rfl (Nat.le_of_ble_eq_true rfl)) (by decide +kernel)
theorem dL_law_931 : decode cL_law 931 = .ok (.iconst 2, 1) := kd_row (b0 := 5) (bs := []) (op_5 931) (kd_win kM_896 (j := 35) rfl rfl (Nat.le_of_ble_eq_true rfl)) (by decide +kernel)
theorem dL_law_932 : decode cL_law 932 = .ok (.iadd, 1) := kd_row (b0 := 96) (bs := []) (op_96 932) (kd_win kM_896 (j := 36) rfl rfl (Nat.le_of_ble_eq_true rfl)) (by decide +kernel)
theorem dL_law_933 : decode cL_law 933 = .ok (.iaload, 1) := kd_row (b0 := 46) (bs := []) (op_46 933) (kd_win kM_896 (j := 37) rfl rfl (Nat.le_of_ble_eq_true rfl)) (by decide +kernel)
theorem dL_law_934 : decode cL_law 934 = .ok (.invokevirtual 202, 3) := kd_row (b0 := 182) (bs := [0, 202]) (op_182 934) (kd_win kM_896 (j := 38) rfl rfl (Nat.le_of_ble_eq_true rfl)) (by decide +kernel)
theorem dL_law_937 : decode cL_law 937 = .ok (.istore 6, 2) := kd_row (b0 := 54) (bs := [6]) (op_54 937) (kd_win kM_896 (j := 41) rfl rfl (Nat.le_of_ble_eq_true rfl)) (by decide +kernel)
theorem dL_law_939 : decode cL_law 939 = .ok (.goto 934, 3) := kd_row (b0 := 167) (bs := [3, 166]) (op_167 939) (kd_win kM_896 (j := 43) rfl rfl (Nat.le_of_ble_eq_true rfl)) (by decide +kernel)
theorem dL_law_942 : decode cL_law 942 = .ok (.aload_n 1, 1) := kd_row (b0 := 43) (bs := []) (op_43 942) (kd_win kM_896 (j := 46) rfl rfl (Nat.le_of_ble_eq_true rfl)) (by decide +kernel)
theorem dL_law_943 : decode cL_law 943 = .ok (.aload_n 0, 1) := kd_row (b0 := 42) (bs := []) (op_42 943) (kd_win kM_896 (j := 47) rfl rfl (Nat.le_of_ble_eq_true rfl)) (by decide +kernel)
theorem dL_law_944 : decode cL_law 944 = .ok (.iload 4, 2) := kd_row (b0 := 21) (bs := [4]) (op_21 944) (kd_win kM_896 (j := 48) rfl rfl (Nat.le_of_ble_eq_true rfl)) (by decide +kernel)
theorem dL_law_946 : decode cL_law 946 = .ok (.iconst 1, 1) := kd_row (b0 := 4) (bs := []) (op_4 946) (kd_win kM_896 (j := 50) rfl rfl (Nat.le_of_ble_eq_true rfl)) (by decide +kernel)
theorem dL_law_947 : decode cL_law 947 = .ok (.iadd, 1) := kd_row (b0 := 96) (bs := []) (op_96 947) (kd_win kM_896 (j := 51) rfl rfl (Nat.le_of_ble_eq_true rfl)) (by decide +kernel)
theorem dL_law_948 : decode cL_law 948 = .ok (.iaload, 1) := kd_row (b0 := 46) (bs := []) (op_46 948) (kd_win kM_896 (j := 52) rfl rfl (Nat.le_of_ble_eq_true rfl)) (by decide +kernel)
theorem dL_law_949 : decode cL_law 949 = .ok (.aload_n 3, 1) := kd_row (b0 := 45) (bs := []) (op_45 949) (kd_win kM_896 (j := 53) rfl rfl (Nat.le_of_ble_eq_true rfl)) (by decide +kernel)
theorem dL_law_950 : decode cL_law 950 = .ok (.invokestatic 203, 3) := kd_row (b0 := 184) (bs := [0, 203]) (op_184 950) (kd_win kM_896 (j := 54) rfl rfl (Nat.le_of_ble_eq_true rfl)) (by decide +kernel)
theorem dL_law_953 : decode cL_law 953 = .ok (.istore 5, 2) := kd_row (b0 := 54) (bs := [5]) (op_54 953) (kd_win kM_896 (j := 57) rfl rfl (Nat.le_of_ble_eq_true rfl)) (by decide +kernel)
theorem dL_law_955 : decode cL_law 955 = .ok (.aload_n 2, 1) := kd_row (b0 := 44) (bs := []) (op_44 955) (kd_win kM_896 (j := 59) rfl rfl (Nat.le_of_ble_eq_true rfl)) (by decide +kernel)
theorem dL_law_956 : decode cL_law 956 = .ok (.aload_n 0, 1) := kd_row (b0 := 42) (bs := []) (op_42 956) (kd_win kM_896 (j := 60) rfl rfl (Nat.le_of_ble_eq_true rfl)) (by decide +kernel)
theorem dL_law_957 : decode cL_law 957 = .ok (.iload 4, 2) := kd_row (b0 := 21) (bs := [4]) (op_21 957) (kd_win kM_896 (j := 61) rfl rfl (Nat.le_of_ble_eq_true rfl)) (by decide +kernel)
theorem dL_law_959 : decode cL_law 959 = .ok (.iconst 1, 1) := kd_row (b0 := 4) (bs := []) (op_4 959) (kd_win kM_896 (j := 63) rfl rfl (Nat.le_of_ble_eq_true rfl)) (by decide +kernel)
theorem dL_law_960 : decode cL_law 960 = .ok (.iadd, 1) := kd_row (b0 := 96) (bs := []) (op_96 960) (kd_win kM_960 (j := 0) rfl rfl (Nat.le_of_ble_eq_true rfl)) (by decide +kernel)
theorem dL_law_961 : decode cL_law 961 = .ok (.iaload, 1) := kd_row (b0 := 46) (bs := []) (op_46 961) (kd_win kM_960 (j := 1) rfl rfl (Nat.le_of_ble_eq_true rfl)) (by decide +kernel)
theorem dL_law_962 : decode cL_law 962 = .ok (.invokevirtual 205, 3) := kd_row (b0 := 182) (bs := [0, 205]) (op_182 962) (kd_win kM_960 (j := 2) rfl rfl (Nat.le_of_ble_eq_true rfl)) (by decide +kernel)
theorem dL_law_965 : decode cL_law 965 = .ok (.istore 6, 2) := kd_row (b0 := 54) (bs := [6]) (op_54 965) (kd_win kM_960 (j := 5) rfl rfl (Nat.le_of_ble_eq_true rfl)) (by decide +kernel)
theorem dL_law_967 : decode cL_law 967 = .ok (.goto 906, 3) := kd_row (b0 := 167) (bs := [3, 138]) (op_167 967) (kd_win kM_960 (j := 7) rfl rfl (Nat.le_of_ble_eq_true rfl)) (by decide +kernel)
theorem dL_law_970 : decode cL_law 970 = .ok (.aload_n 1, 1) := kd_row (b0 := 43) (bs := []) (op_43 970) (kd_win kM_960 (j := 10) rfl rfl (Nat.le_of_ble_eq_true rfl)) (by decide +kernel)
theorem dL_law_971 : decode cL_law 971 = .ok (.aload_n 0, 1) := kd_row (b0 := 42) (bs := []) (op_42 971) (kd_win kM_960 (j := 11) rfl rfl (Nat.le_of_ble_eq_true rfl)) (by decide +kernel)
theorem dL_law_972 : decode cL_law 972 = .ok (.iload 4, 2) := kd_row (b0 := 21) (bs := [4]) (op_21 972) (kd_win kM_960 (j := 12) rfl rfl (Nat.le_of_ble_eq_true rfl)) (by decide +kernel)
theorem dL_law_974 : decode cL_law 974 = .ok (.iconst 1, 1) := kd_row (b0 := 4) (bs := []) (op_4 974) (kd_win kM_960 (j := 14) rfl rfl (Nat.le_of_ble_eq_true rfl)) (by decide +kernel)
theorem dL_law_975 : decode cL_law 975 = .ok (.iadd, 1) := kd_row (b0 := 96) (bs := []) (op_96 975) (kd_win kM_960 (j := 15) rfl rfl (Nat.le_of_ble_eq_true rfl)) (by decide +kernel)
theorem dL_law_976 : decode cL_law 976 = .ok (.iaload, 1) := kd_row (b0 := 46) (bs := []) (op_46 976) (kd_win kM_960 (j := 16) rfl rfl (Nat.le_of_ble_eq_true rfl)) (by decide +kernel)
theorem dL_law_977 : decode cL_law 977 = .ok (.aload_n 3, 1) := kd_row (b0 := 45) (bs := []) (op_45 977) (kd_win kM_960 (j := 17) rfl rfl (Nat.le_of_ble_eq_true rfl)) (by decide +kernel)
theorem dL_law_978 : decode cL_law 978 = .ok (.invokestatic 206, 3) := kd_row (b0 := 184) (bs := [0, 206]) (op_184 978) (kd_win kM_960 (j := 18) rfl rfl (Nat.le_of_ble_eq_true rfl)) (by decide +kernel)
theorem dL_law_981 : decode cL_law 981 = .ok (.istore 5, 2) := kd_row (b0 := 54) (bs := [5]) (op_54 981) (kd_win kM_960 (j := 21) rfl rfl (Nat.le_of_ble_eq_true rfl)) (by decide +kernel)
theorem dL_law_983 : decode cL_law 983 = .ok (.aload_n 2, 1) := kd_row (b0 := 44) (bs := []) (op_44 983) (kd_win kM_960 (j := 23) rfl rfl (Nat.le_of_ble_eq_true rfl)) (by decide +kernel)
theorem dL_law_984 : decode cL_law 984 = .ok (.aload_n 0, 1) := kd_row (b0 := 42) (bs := []) (op_42 984) (kd_win kM_960 (j := 24) rfl rfl (Nat.le_of_ble_eq_true rfl)) (by decide +kernel)
theorem dL_law_985 : decode cL_law 985 = .ok (.iload 4, 2) := kd_row (b0 := 21) (bs := [4]) (op_21 985) (kd_win kM_960 (j := 25) rfl rfl (Nat.le_of_ble_eq_true rfl)) (by decide +kernel)
theorem dL_law_987 : decode cL_law 987 = .ok (.iconst 1, 1) := kd_row (b0 := 4) (bs := []) (op_4 987) (kd_win kM_960 (j := 27) rfl rfl (Nat.le_of_ble_eq_true rfl)) (by decide +kernel)
theorem dL_law_988 : decode cL_law 988 = .ok (.iadd, 1) := kd_row (b0 := 96) (bs := []) (op_96 988) (kd_win kM_960 (j := 28) rfl rfl (Nat.le_of_ble_eq_true rfl)) (by decide +kernel)
theorem dL_law_989 : decode cL_law 989 = .ok (.iaload, 1) := kd_row (b0 := 46) (bs := []) (op_46 989) (kd_win kM_960 (j := 29) rfl rfl (Nat.le_of_ble_eq_true rfl)) (by decide +kernel)
theorem dL_law_990 : decode cL_law 990 = .ok (.invokevirtual 208, 3) := kd_row (b0 := 182) (bs := [0, 208]) (op_182 990) (kd_win kM_960 (j := 30) rfl rfl (Nat.le_of_ble_eq_true rfl)) (by decide +kernel)
theorem dL_law_993 : decode cL_law 993 = .ok (.istore 6, 2) := kd_row (b0 := 54) (bs := [6]) (op_54 993) (kd_win kM_960 (j := 33) rfl rfl (Nat.le_of_ble_eq_true rfl)) (by decide +kernel)
theorem dL_law_995 : decode cL_law 995 = .ok (.goto 878, 3) := kd_row (b0 := 167) (bs := [3, 110]) (op_167 995) (kd_win kM_960 (j := 35) rfl rfl (Nat.le_of_ble_eq_true rfl)) (by decide +kernel)
theorem dL_law_998 : decode cL_law 998 = .ok (.aload_n 1, 1) := kd_row (b0 := 43) (bs := []) (op_43 998) (kd_win kM_960 (j := 38) rfl rfl (Nat.le_of_ble_eq_true rfl)) (by decide +kernel)
theorem dL_law_999 : decode cL_law 999 = .ok (.aload_n 0, 1) := kd_row (b0 := 42) (bs := []) (op_42 999) (kd_win kM_960 (j := 39) rfl rfl (Nat.le_of_ble_eq_true rfl)) (by decide +kernel)
theorem dL_law_1000 : decode cL_law 1000 = .ok (.iload 4, 2) := kd_row (b0 := 21) (bs := [4]) (op_21 1000) (kd_win kM_960 (j := 40) rfl rfl (Nat.le_of_ble_eq_true rfl)) (by decide +kernel)
theorem dL_law_1002 : decode cL_law 1002 = .ok (.iconst 1, 1) := kd_row (b0 := 4) (bs := []) (op_4 1002) (kd_win kM_960 (j := 42) rfl rfl (Nat.le_of_ble_eq_true rfl)) (by decide +kernel)
theorem dL_law_1003 : decode cL_law 1003 = .ok (.iadd, 1) := kd_row (b0 := 96) (bs := []) (op_96 1003) (kd_win kM_960 (j := 43) rfl rfl (Nat.le_of_ble_eq_true rfl)) (by decide +kernel)
theorem dL_law_1004 : decode cL_law 1004 = .ok (.iaload, 1) := kd_row (b0 := 46) (bs := []) (op_46 1004) (kd_win kM_960 (j := 44) rfl rfl (Nat.le_of_ble_eq_true rfl)) (by decide +kernel)
theorem dL_law_1005 : decode cL_law 1005 = .ok (.aload_n 3, 1) := kd_row (b0 := 45) (bs := []) (op_45 1005) (kd_win kM_960 (j := 45) rfl rfl (Nat.le_of_ble_eq_true rfl)) (by decide +kernel)
theorem dL_law_1006 : decode cL_law 1006 = .ok (.invokestatic 209, 3) := kd_row (b0 := 184) (bs := [0, 209]) (op_184 1006) (kd_win kM_960 (j := 46) rfl rfl (Nat.le_of_ble_eq_true rfl)) (by decide +kernel)
theorem dL_law_1009 : decode cL_law 1009 = .ok (.istore 5, 2) := kd_row (b0 := 54) (bs := [5]) (op_54 1009) (kd_win kM_960 (j := 49) rfl rfl (Nat.le_of_ble_eq_true rfl)) (by decide +kernel)
theorem dL_law_1011 : decode cL_law 1011 = .ok (.aload_n 2, 1) := kd_row (b0 := 44) (bs := []) (op_44 1011) (kd_win kM_960 (j := 51) rfl rfl (Nat.le_of_ble_eq_true rfl)) (by decide +kernel)
theorem dL_law_1012 : decode cL_law 1012 = .ok (.aload_n 0, 1) := kd_row (b0 := 42) (bs := []) (op_42 1012) (kd_win kM_960 (j := 52) rfl rfl (Nat.le_of_ble_eq_true rfl)) (by decide +kernel)
theorem dL_law_1013 : decode cL_law 1013 = .ok (.iload 4, 2) := kd_row (b0 := 21) (bs := [4]) (op_21 1013) (kd_win kM_960 (j := 53) rfl rfl (Nat.le_of_ble_eq_true rfl)) (by decide +kernel)
theorem dL_law_1015 : decode cL_law 1015 = .ok (.iconst 1, 1) := kd_row (b0 := 4) (bs := []) (op_4 1015) (kd_win kM_960 (j := 55) rfl rfl (Nat.le_of_ble_eq_true rfl)) (by decide +kernel)
theorem dL_law_1016 : decode cL_law 1016 = .ok (.iadd, 1) := kd_row (b0 := 96) (bs := []) (op_96 1016) (kd_win kM_960 (j := 56) rfl rfl (Nat.le_of_ble_eq_true rfl)) (by decide +kernel)
theorem dL_law_1017 : decode cL_law 1017 = .ok (.iaload, 1) := kd_row (b0 := 46) (bs := []) (op_46 1017) (kd_win kM_960 (j := 57) rfl rfl (Nat.le_of_ble_eq_true rfl)) (by decide +kernel)
theorem dL_law_1018 : decode cL_law 1018 = .ok (.invokevirtual 211, 3) := kd_row (b0 := 182) (bs := [0, 211]) (op_182 1018) (kd_win kM_960 (j := 58) rfl rfl (Nat.le_of_ble_eq_true rfl)) (by decide +kernel)
theorem dL_law_1021 : decode cL_law 1021 = .ok (.istore 6, 2) := kd_row (b0 := 54) (bs := [6]) (op_54 1021) (kd_win kM_960 (j := 61) rfl rfl (Nat.le_of_ble_eq_true rfl)) (by decide +kernel)
theorem dL_law_1023 : decode cL_law 1023 = .ok (.goto 850, 3) := kd_row (b0 := 167) (bs := [3, 82]) (op_167 1023) (kd_win kM_960 (j := 63) rfl rfl (Nat.le_of_ble_eq_true rfl)) (by decide +kernel)
theorem dL_law_1026 : decode cL_law 1026 = .ok (.aload_n 1, 1) := kd_row (b0 := 43) (bs := []) (op_43 1026) (kd_win kM_1024 (j := 2) rfl rfl (Nat.le_of_ble_eq_true rfl)) (by decide +kernel)
theorem dL_law_1027 : decode cL_law 1027 = .ok (.aload_n 0, 1) := kd_row (b0 := 42) (bs := []) (op_42 1027) (kd_win kM_1024 (j := 3) rfl rfl (Nat.le_of_ble_eq_true rfl)) (by decide +kernel)
theorem dL_law_1028 : decode cL_law 1028 = .ok (.iload 4, 2) := kd_row (b0 := 21) (bs := [4]) (op_21 1028) (kd_win kM_1024 (j := 4) rfl rfl (Nat.le_of_ble_eq_true rfl)) (by decide +kernel)
theorem dL_law_1030 : decode cL_law 1030 = .ok (.iconst 1, 1) := kd_row (b0 := 4) (bs := []) (op_4 1030) (kd_win kM_1024 (j := 6) rfl rfl (Nat.le_of_ble_eq_true rfl)) (by decide +kernel)
theorem dL_law_1031 : decode cL_law 1031 = .ok (.iadd, 1) := kd_row (b0 := 96) (bs := []) (op_96 1031) (kd_win kM_1024 (j := 7) rfl rfl (Nat.le_of_ble_eq_true rfl)) (by decide +kernel)
theorem dL_law_1032 : decode cL_law 1032 = .ok (.iaload, 1) := kd_row (b0 := 46) (bs := []) (op_46 1032) (kd_win kM_1024 (j := 8) rfl rfl (Nat.le_of_ble_eq_true rfl)) (by decide +kernel)
theorem dL_law_1033 : decode cL_law 1033 = .ok (.aload_n 3, 1) := kd_row (b0 := 45) (bs := []) (op_45 1033) (kd_win kM_1024 (j := 9) rfl rfl (Nat.le_of_ble_eq_true rfl)) (by decide +kernel)
theorem dL_law_1034 : decode cL_law 1034 = .ok (.invokestatic 212, 3) := kd_row (b0 := 184) (bs := [0, 212]) (op_184 1034) (kd_win kM_1024 (j := 10) rfl rfl (Nat.le_of_ble_eq_true rfl)) (by decide +kernel)
theorem dL_law_1037 : decode cL_law 1037 = .ok (.istore 5, 2) := kd_row (b0 := 54) (bs := [5]) (op_54 1037) (kd_win kM_1024 (j := 13) rfl rfl (Nat.le_of_ble_eq_true rfl)) (by decide +kernel)
theorem dL_law_1039 : decode cL_law 1039 = .ok (.aload_n 2, 1) := kd_row (b0 := 44) (bs := []) (op_44 1039) (kd_win kM_1024 (j := 15) rfl rfl (Nat.le_of_ble_eq_true rfl)) (by decide +kernel)
theorem dL_law_1040 : decode cL_law 1040 = .ok (.aload_n 0, 1) := kd_row (b0 := 42) (bs := []) (op_42 1040) (kd_win kM_1024 (j := 16) rfl rfl (Nat.le_of_ble_eq_true rfl)) (by decide +kernel)
theorem dL_law_1041 : decode cL_law 1041 = .ok (.iload 4, 2) := kd_row (b0 := 21) (bs := [4]) (op_21 1041) (kd_win kM_1024 (j := 17) rfl rfl (Nat.le_of_ble_eq_true rfl)) (by decide +kernel)
theorem dL_law_1043 : decode cL_law 1043 = .ok (.iconst 1, 1) := kd_row (b0 := 4) (bs := []) (op_4 1043) (kd_win kM_1024 (j := 19) rfl rfl (Nat.le_of_ble_eq_true rfl)) (by decide +kernel)
theorem dL_law_1044 : decode cL_law 1044 = .ok (.iadd, 1) := kd_row (b0 := 96) (bs := []) (op_96 1044) (kd_win kM_1024 (j := 20) rfl rfl (Nat.le_of_ble_eq_true rfl)) (by decide +kernel)
theorem dL_law_1045 : decode cL_law 1045 = .ok (.iaload, 1) := kd_row (b0 := 46) (bs := []) (op_46 1045) (kd_win kM_1024 (j := 21) rfl rfl (Nat.le_of_ble_eq_true rfl)) (by decide +kernel)
theorem dL_law_1046 : decode cL_law 1046 = .ok (.invokevirtual 214, 3) := kd_row (b0 := 182) (bs := [0, 214]) (op_182 1046) (kd_win kM_1024 (j := 22) rfl rfl (Nat.le_of_ble_eq_true rfl)) (by decide +kernel)
theorem dL_law_1049 : decode cL_law 1049 = .ok (.istore 6, 2) := kd_row (b0 := 54) (bs := [6]) (op_54 1049) (kd_win kM_1024 (j := 25) rfl rfl (Nat.le_of_ble_eq_true rfl)) (by decide +kernel)
theorem dL_law_1051 : decode cL_law 1051 = .ok (.goto 822, 3) := kd_row (b0 := 167) (bs := [3, 54]) (op_167 1051) (kd_win kM_1024 (j := 27) rfl rfl (Nat.le_of_ble_eq_true rfl)) (by decide +kernel)
theorem dL_law_1054 : decode cL_law 1054 = .ok (.aload_n 1, 1) := kd_row (b0 := 43) (bs := []) (op_43 1054) (kd_win kM_1024 (j := 30) rfl rfl (Nat.le_of_ble_eq_true rfl)) (by decide +kernel)
theorem dL_law_1055 : decode cL_law 1055 = .ok (.aload_n 0, 1) := kd_row (b0 := 42) (bs := []) (op_42 1055) (kd_win kM_1024 (j := 31) rfl rfl (Nat.le_of_ble_eq_true rfl)) (by decide +kernel)
theorem dL_law_1056 : decode cL_law 1056 = .ok (.iload 4, 2) := kd_row (b0 := 21) (bs := [4]) (op_21 1056) (kd_win kM_1024 (j := 32) rfl rfl (Nat.le_of_ble_eq_true rfl)) (by decide +kernel)
theorem dL_law_1058 : decode cL_law 1058 = .ok (.iconst 1, 1) := kd_row (b0 := 4) (bs := []) (op_4 1058) (kd_win kM_1024 (j := 34) rfl rfl (Nat.le_of_ble_eq_true rfl)) (by decide +kernel)
theorem dL_law_1059 : decode cL_law 1059 = .ok (.iadd, 1) := kd_row (b0 := 96) (bs := []) (op_96 1059) (kd_win kM_1024 (j := 35) rfl rfl (Nat.le_of_ble_eq_true rfl)) (by decide +kernel)
theorem dL_law_1060 : decode cL_law 1060 = .ok (.iaload, 1) := kd_row (b0 := 46) (bs := []) (op_46 1060) (kd_win kM_1024 (j := 36) rfl rfl (Nat.le_of_ble_eq_true rfl)) (by decide +kernel)
theorem dL_law_1061 : decode cL_law 1061 = .ok (.aload_n 3, 1) := kd_row (b0 := 45) (bs := []) (op_45 1061) (kd_win kM_1024 (j := 37) rfl rfl (Nat.le_of_ble_eq_true rfl)) (by decide +kernel)
theorem dL_law_1062 : decode cL_law 1062 = .ok (.invokestatic 215, 3) := kd_row (b0 := 184) (bs := [0, 215]) (op_184 1062) (kd_win kM_1024 (j := 38) rfl rfl (Nat.le_of_ble_eq_true rfl)) (by decide +kernel)
theorem dL_law_1065 : decode cL_law 1065 = .ok (.istore 5, 2) := kd_row (b0 := 54) (bs := [5]) (op_54 1065) (kd_win kM_1024 (j := 41) rfl rfl (Nat.le_of_ble_eq_true rfl)) (by decide +kernel)
theorem dL_law_1067 : decode cL_law 1067 = .ok (.aload_n 2, 1) := kd_row (b0 := 44) (bs := []) (op_44 1067) (kd_win kM_1024 (j := 43) rfl rfl (Nat.le_of_ble_eq_true rfl)) (by decide +kernel)
theorem dL_law_1068 : decode cL_law 1068 = .ok (.aload_n 0, 1) := kd_row (b0 := 42) (bs := []) (op_42 1068) (kd_win kM_1024 (j := 44) rfl rfl (Nat.le_of_ble_eq_true rfl)) (by decide +kernel)
theorem dL_law_1069 : decode cL_law 1069 = .ok (.iload 4, 2) := kd_row (b0 := 21) (bs := [4]) (op_21 1069) (kd_win kM_1024 (j := 45) rfl rfl (Nat.le_of_ble_eq_true rfl)) (by decide +kernel)
theorem dL_law_1071 : decode cL_law 1071 = .ok (.iconst 1, 1) := kd_row (b0 := 4) (bs := []) (op_4 1071) (kd_win kM_1024 (j := 47) rfl rfl (Nat.le_of_ble_eq_true rfl)) (by decide +kernel)
theorem dL_law_1072 : decode cL_law 1072 = .ok (.iadd, 1) := kd_row (b0 := 96) (bs := []) (op_96 1072) (kd_win kM_1024 (j := 48) rfl rfl (Nat.le_of_ble_eq_true rfl)) (by decide +kernel)
theorem dL_law_1073 : decode cL_law 1073 = .ok (.iaload, 1) := kd_row (b0 := 46) (bs := []) (op_46 1073) (kd_win kM_1024 (j := 49) rfl rfl (Nat.le_of_ble_eq_true rfl)) (by decide +kernel)
theorem dL_law_1074 : decode cL_law 1074 = .ok (.invokevirtual 217, 3) := kd_row (b0 := 182) (bs := [0, 217]) (op_182 1074) (kd_win kM_1024 (j := 50) rfl rfl (Nat.le_of_ble_eq_true rfl)) (by decide +kernel)
theorem dL_law_1077 : decode cL_law 1077 = .ok (.astore 6, 2) := kd_row (b0 := 58) (bs := [6]) (op_58 1077) (kd_win kM_1024 (j := 53) rfl rfl (Nat.le_of_ble_eq_true rfl)) (by decide +kernel)
theorem dL_law_1079 : decode cL_law 1079 = .ok (.goto 794, 3) := kd_row (b0 := 167) (bs := [3, 26]) (op_167 1079) (kd_win kM_1024 (j := 55) rfl rfl (Nat.le_of_ble_eq_true rfl)) (by decide +kernel)
theorem dL_law_1082 : decode cL_law 1082 = .ok (.aload_n 1, 1) := kd_row (b0 := 43) (bs := []) (op_43 1082) (kd_win kM_1024 (j := 58) rfl rfl (Nat.le_of_ble_eq_true rfl)) (by decide +kernel)
theorem dL_law_1083 : decode cL_law 1083 = .ok (.aload_n 0, 1) := kd_row (b0 := 42) (bs := []) (op_42 1083) (kd_win kM_1024 (j := 59) rfl rfl (Nat.le_of_ble_eq_true rfl)) (by decide +kernel)
theorem dL_law_1084 : decode cL_law 1084 = .ok (.iload 4, 2) := kd_row (b0 := 21) (bs := [4]) (op_21 1084) (kd_win kM_1024 (j := 60) rfl rfl (Nat.le_of_ble_eq_true rfl)) (by decide +kernel)
theorem dL_law_1086 : decode cL_law 1086 = .ok (.iconst 1, 1) := kd_row (b0 := 4) (bs := []) (op_4 1086) (kd_win kM_1024 (j := 62) rfl rfl (Nat.le_of_ble_eq_true rfl)) (by decide +kernel)
theorem dL_law_1087 : decode cL_law 1087 = .ok (.iadd, 1) := kd_row (b0 := 96) (bs := []) (op_96 1087) (kd_win kM_1024 (j := 63) rfl rfl (Nat.le_of_ble_eq_true rfl)) (by decide +kernel)
theorem dL_law_1088 : decode cL_law 1088 = .ok (.iaload, 1) := kd_row (b0 := 46) (bs := []) (op_46 1088) (kd_win kM_1088 (j := 0) rfl rfl (Nat.le_of_ble_eq_true rfl)) (by decide +kernel)
theorem dL_law_1089 : decode cL_law 1089 = .ok (.aload_n 0, 1) := kd_row (b0 := 42) (bs := []) (op_42 1089) (kd_win kM_1088 (j := 1) rfl rfl (Nat.le_of_ble_eq_true rfl)) (by decide +kernel)
theorem dL_law_1090 : decode cL_law 1090 = .ok (.iload 4, 2) := kd_row (b0 := 21) (bs := [4]) (op_21 1090) (kd_win kM_1088 (j := 2) rfl rfl (Nat.le_of_ble_eq_true rfl)) (by decide +kernel)
theorem dL_law_1092 : decode cL_law 1092 = .ok (.iconst 2, 1) := kd_row (b0 := 5) (bs := []) (op_5 1092) (kd_win kM_1088 (j := 4) rfl rfl (Nat.le_of_ble_eq_true rfl)) (by decide +kernel)
theorem dL_law_1093 : decode cL_law 1093 = .ok (.iadd, 1) := kd_row (b0 := 96) (bs := []) (op_96 1093) (kd_win kM_1088 (j := 5) rfl rfl (Nat.le_of_ble_eq_true rfl)) (by decide +kernel)
theorem dL_law_1094 : decode cL_law 1094 = .ok (.iaload, 1) := kd_row (b0 := 46) (bs := []) (op_46 1094) (kd_win kM_1088 (j := 6) rfl rfl (Nat.le_of_ble_eq_true rfl)) (by decide +kernel)
theorem dL_law_1095 : decode cL_law 1095 = .ok (.aload_n 3, 1) := kd_row (b0 := 45) (bs := []) (op_45 1095) (kd_win kM_1088 (j := 7) rfl rfl (Nat.le_of_ble_eq_true rfl)) (by decide +kernel)
theorem dL_law_1096 : decode cL_law 1096 = .ok (.invokestatic 218, 3) := kd_row (b0 := 184) (bs := [0, 218]) (op_184 1096) (kd_win kM_1088 (j := 8) rfl rfl (Nat.le_of_ble_eq_true rfl)) (by decide +kernel)
theorem dL_law_1099 : decode cL_law 1099 = .ok (.istore 5, 2) := kd_row (b0 := 54) (bs := [5]) (op_54 1099) (kd_win kM_1088 (j := 11) rfl rfl (Nat.le_of_ble_eq_true rfl)) (by decide +kernel)
theorem dL_law_1101 : decode cL_law 1101 = .ok (.aload_n 2, 1) := kd_row (b0 := 44) (bs := []) (op_44 1101) (kd_win kM_1088 (j := 13) rfl rfl (Nat.le_of_ble_eq_true rfl)) (by decide +kernel)
theorem dL_law_1102 : decode cL_law 1102 = .ok (.aload_n 0, 1) := kd_row (b0 := 42) (bs := []) (op_42 1102) (kd_win kM_1088 (j := 14) rfl rfl (Nat.le_of_ble_eq_true rfl)) (by decide +kernel)
theorem dL_law_1103 : decode cL_law 1103 = .ok (.iload 4, 2) := kd_row (b0 := 21) (bs := [4]) (op_21 1103) (kd_win kM_1088 (j := 15) rfl rfl (Nat.le_of_ble_eq_true rfl)) (by decide +kernel)
theorem dL_law_1105 : decode cL_law 1105 = .ok (.iconst 1, 1) := kd_row (b0 := 4) (bs := []) (op_4 1105) (kd_win kM_1088 (j := 17) rfl rfl (Nat.le_of_ble_eq_true rfl)) (by decide +kernel)
theorem dL_law_1106 : decode cL_law 1106 = .ok (.iadd, 1) := kd_row (b0 := 96) (bs := []) (op_96 1106) (kd_win kM_1088 (j := 18) rfl rfl (Nat.le_of_ble_eq_true rfl)) (by decide +kernel)
theorem dL_law_1107 : decode cL_law 1107 = .ok (.iaload, 1) := kd_row (b0 := 46) (bs := []) (op_46 1107) (kd_win kM_1088 (j := 19) rfl rfl (Nat.le_of_ble_eq_true rfl)) (by decide +kernel)
theorem dL_law_1108 : decode cL_law 1108 = .ok (.aload_n 0, 1) := kd_row (b0 := 42) (bs := []) (op_42 1108) (kd_win kM_1088 (j := 20) rfl rfl (Nat.le_of_ble_eq_true rfl)) (by decide +kernel)
theorem dL_law_1109 : decode cL_law 1109 = .ok (.iload 4, 2) := kd_row (b0 := 21) (bs := [4]) (op_21 1109) (kd_win kM_1088 (j := 21) rfl rfl (Nat.le_of_ble_eq_true rfl)) (by decide +kernel)
theorem dL_law_1111 : decode cL_law 1111 = .ok (.iconst 2, 1) := kd_row (b0 := 5) (bs := []) (op_5 1111) (kd_win kM_1088 (j := 23) rfl rfl (Nat.le_of_ble_eq_true rfl)) (by decide +kernel)
theorem dL_law_1112 : decode cL_law 1112 = .ok (.iadd, 1) := kd_row (b0 := 96) (bs := []) (op_96 1112) (kd_win kM_1088 (j := 24) rfl rfl (Nat.le_of_ble_eq_true rfl)) (by decide +kernel)
theorem dL_law_1113 : decode cL_law 1113 = .ok (.iaload, 1) := kd_row (b0 := 46) (bs := []) (op_46 1113) (kd_win kM_1088 (j := 25) rfl rfl (Nat.le_of_ble_eq_true rfl)) (by decide +kernel)
theorem dL_law_1114 : decode cL_law 1114 = .ok (.invokevirtual 220, 3) := kd_row (b0 := 182) (bs := [0, 220]) (op_182 1114) (kd_win kM_1088 (j := 26) rfl rfl (Nat.le_of_ble_eq_true rfl)) (by decide +kernel)
theorem dL_law_1117 : decode cL_law 1117 = .ok (.istore 6, 2) := kd_row (b0 := 54) (bs := [6]) (op_54 1117) (kd_win kM_1088 (j := 29) rfl rfl (Nat.le_of_ble_eq_true rfl)) (by decide +kernel)
theorem dL_law_1119 : decode cL_law 1119 = .ok (.goto 754, 3) := kd_row (b0 := 167) (bs := [2, 242]) (op_167 1119) (kd_win kM_1088 (j := 31) rfl rfl (Nat.le_of_ble_eq_true rfl)) (by decide +kernel)
theorem dL_law_1122 : decode cL_law 1122 = .ok (.aload_n 1, 1) := kd_row (b0 := 43) (bs := []) (op_43 1122) (kd_win kM_1088 (j := 34) rfl rfl (Nat.le_of_ble_eq_true rfl)) (by decide +kernel)
theorem dL_law_1123 : decode cL_law 1123 = .ok (.aload_n 0, 1) := kd_row (b0 := 42) (bs := []) (op_42 1123) (kd_win kM_1088 (j := 35) rfl rfl (Nat.le_of_ble_eq_true rfl)) (by decide +kernel)
theorem dL_law_1124 : decode cL_law 1124 = .ok (.iload 4, 2) := kd_row (b0 := 21) (bs := [4]) (op_21 1124) (kd_win kM_1088 (j := 36) rfl rfl (Nat.le_of_ble_eq_true rfl)) (by decide +kernel)
theorem dL_law_1126 : decode cL_law 1126 = .ok (.iconst 1, 1) := kd_row (b0 := 4) (bs := []) (op_4 1126) (kd_win kM_1088 (j := 38) rfl rfl (Nat.le_of_ble_eq_true rfl)) (by decide +kernel)
theorem dL_law_1127 : decode cL_law 1127 = .ok (.iadd, 1) := kd_row (b0 := 96) (bs := []) (op_96 1127) (kd_win kM_1088 (j := 39) rfl rfl (Nat.le_of_ble_eq_true rfl)) (by decide +kernel)
theorem dL_law_1128 : decode cL_law 1128 = .ok (.iaload, 1) := kd_row (b0 := 46) (bs := []) (op_46 1128) (kd_win kM_1088 (j := 40) rfl rfl (Nat.le_of_ble_eq_true rfl)) (by decide +kernel)
theorem dL_law_1129 : decode cL_law 1129 = .ok (.aload_n 0, 1) := kd_row (b0 := 42) (bs := []) (op_42 1129) (kd_win kM_1088 (j := 41) rfl rfl (Nat.le_of_ble_eq_true rfl)) (by decide +kernel)
theorem dL_law_1130 : decode cL_law 1130 = .ok (.iload 4, 2) := kd_row (b0 := 21) (bs := [4]) (op_21 1130) (kd_win kM_1088 (j := 42) rfl rfl (Nat.le_of_ble_eq_true rfl)) (by decide +kernel)
theorem dL_law_1132 : decode cL_law 1132 = .ok (.iconst 2, 1) := kd_row (b0 := 5) (bs := []) (op_5 1132) (kd_win kM_1088 (j := 44) rfl rfl (Nat.le_of_ble_eq_true rfl)) (by decide +kernel)
theorem dL_law_1133 : decode cL_law 1133 = .ok (.iadd, 1) := kd_row (b0 := 96) (bs := []) (op_96 1133) (kd_win kM_1088 (j := 45) rfl rfl (Nat.le_of_ble_eq_true rfl)) (by decide +kernel)
theorem dL_law_1134 : decode cL_law 1134 = .ok (.iaload, 1) := kd_row (b0 := 46) (bs := []) (op_46 1134) (kd_win kM_1088 (j := 46) rfl rfl (Nat.le_of_ble_eq_true rfl)) (by decide +kernel)
theorem dL_law_1135 : decode cL_law 1135 = .ok (.aload_n 3, 1) := kd_row (b0 := 45) (bs := []) (op_45 1135) (kd_win kM_1088 (j := 47) rfl rfl (Nat.le_of_ble_eq_true rfl)) (by decide +kernel)
theorem dL_law_1136 : decode cL_law 1136 = .ok (.invokestatic 221, 3) := kd_row (b0 := 184) (bs := [0, 221]) (op_184 1136) (kd_win kM_1088 (j := 48) rfl rfl (Nat.le_of_ble_eq_true rfl)) (by decide +kernel)
theorem dL_law_1139 : decode cL_law 1139 = .ok (.istore 5, 2) := kd_row (b0 := 54) (bs := [5]) (op_54 1139) (kd_win kM_1088 (j := 51) rfl rfl (Nat.le_of_ble_eq_true rfl)) (by decide +kernel)
theorem dL_law_1141 : decode cL_law 1141 = .ok (.aload_n 2, 1) := kd_row (b0 := 44) (bs := []) (op_44 1141) (kd_win kM_1088 (j := 53) rfl rfl (Nat.le_of_ble_eq_true rfl)) (by decide +kernel)
theorem dL_law_1142 : decode cL_law 1142 = .ok (.aload_n 0, 1) := kd_row (b0 := 42) (bs := []) (op_42 1142) (kd_win kM_1088 (j := 54) rfl rfl (Nat.le_of_ble_eq_true rfl)) (by decide +kernel)
theorem dL_law_1143 : decode cL_law 1143 = .ok (.iload 4, 2) := kd_row (b0 := 21) (bs := [4]) (op_21 1143) (kd_win kM_1088 (j := 55) rfl rfl (Nat.le_of_ble_eq_true rfl)) (by decide +kernel)
theorem dL_law_1145 : decode cL_law 1145 = .ok (.iconst 1, 1) := kd_row (b0 := 4) (bs := []) (op_4 1145) (kd_win kM_1088 (j := 57) rfl rfl (Nat.le_of_ble_eq_true rfl)) (by decide +kernel)
theorem dL_law_1146 : decode cL_law 1146 = .ok (.iadd, 1) := kd_row (b0 := 96) (bs := []) (op_96 1146) (kd_win kM_1088 (j := 58) rfl rfl (Nat.le_of_ble_eq_true rfl)) (by decide +kernel)
theorem dL_law_1147 : decode cL_law 1147 = .ok (.iaload, 1) := kd_row (b0 := 46) (bs := []) (op_46 1147) (kd_win kM_1088 (j := 59) rfl rfl (Nat.le_of_ble_eq_true rfl)) (by decide +kernel)
theorem dL_law_1148 : decode cL_law 1148 = .ok (.aload_n 0, 1) := kd_row (b0 := 42) (bs := []) (op_42 1148) (kd_win kM_1088 (j := 60) rfl rfl (Nat.le_of_ble_eq_true rfl)) (by decide +kernel)
theorem dL_law_1149 : decode cL_law 1149 = .ok (.iload 4, 2) := kd_row (b0 := 21) (bs := [4]) (op_21 1149) (kd_win kM_1088 (j := 61) rfl rfl (Nat.le_of_ble_eq_true rfl)) (by decide +kernel)
theorem dL_law_1151 : decode cL_law 1151 = .ok (.iconst 2, 1) := kd_row (b0 := 5) (bs := []) (op_5 1151) (kd_win kM_1088 (j := 63) rfl rfl (Nat.le_of_ble_eq_true rfl)) (by decide +kernel)
theorem dL_law_1152 : decode cL_law 1152 = .ok (.iadd, 1) := kd_row (b0 := 96) (bs := []) (op_96 1152) (kd_win kM_1152 (j := 0) rfl rfl (Nat.le_of_ble_eq_true rfl)) (by decide +kernel)
theorem dL_law_1153 : decode cL_law 1153 = .ok (.iaload, 1) := kd_row (b0 := 46) (bs := []) (op_46 1153) (kd_win kM_1152 (j := 1) rfl rfl (Nat.le_of_ble_eq_true rfl)) (by decide +kernel)
theorem dL_law_1154 : decode cL_law 1154 = .ok (.invokevirtual 223, 3) := kd_row (b0 := 182) (bs := [0, 223]) (op_182 1154) (kd_win kM_1152 (j := 2) rfl rfl (Nat.le_of_ble_eq_true rfl)) (by decide +kernel)
theorem dL_law_1157 : decode cL_law 1157 = .ok (.istore 6, 2) := kd_row (b0 := 54) (bs := [6]) (op_54 1157) (kd_win kM_1152 (j := 5) rfl rfl (Nat.le_of_ble_eq_true rfl)) (by decide +kernel)
theorem dL_law_1159 : decode cL_law 1159 = .ok (.goto 714, 3) := kd_row (b0 := 167) (bs := [2, 202]) (op_167 1159) (kd_win kM_1152 (j := 7) rfl rfl (Nat.le_of_ble_eq_true rfl)) (by decide +kernel)
theorem dL_law_1162 : decode cL_law 1162 = .ok (.aload_n 1, 1) := kd_row (b0 := 43) (bs := []) (op_43 1162) (kd_win kM_1152 (j := 10) rfl rfl (Nat.le_of_ble_eq_true rfl)) (by decide +kernel)
theorem dL_law_1163 : decode cL_law 1163 = .ok (.aload_n 0, 1) := kd_row (b0 := 42) (bs := []) (op_42 1163) (kd_win kM_1152 (j := 11) rfl rfl (Nat.le_of_ble_eq_true rfl)) (by decide +kernel)
theorem dL_law_1164 : decode cL_law 1164 = .ok (.iload 4, 2) := kd_row (b0 := 21) (bs := [4]) (op_21 1164) (kd_win kM_1152 (j := 12) rfl rfl (Nat.le_of_ble_eq_true rfl)) (by decide +kernel)
theorem dL_law_1166 : decode cL_law 1166 = .ok (.iconst 1, 1) := kd_row (b0 := 4) (bs := []) (op_4 1166) (kd_win kM_1152 (j := 14) rfl rfl (Nat.le_of_ble_eq_true rfl)) (by decide +kernel)
theorem dL_law_1167 : decode cL_law 1167 = .ok (.iadd, 1) := kd_row (b0 := 96) (bs := []) (op_96 1167) (kd_win kM_1152 (j := 15) rfl rfl (Nat.le_of_ble_eq_true rfl)) (by decide +kernel)
theorem dL_law_1168 : decode cL_law 1168 = .ok (.iaload, 1) := kd_row (b0 := 46) (bs := []) (op_46 1168) (kd_win kM_1152 (j := 16) rfl rfl (Nat.le_of_ble_eq_true rfl)) (by decide +kernel)
theorem dL_law_1169 : decode cL_law 1169 = .ok (.aload_n 0, 1) := kd_row (b0 := 42) (bs := []) (op_42 1169) (kd_win kM_1152 (j := 17) rfl rfl (Nat.le_of_ble_eq_true rfl)) (by decide +kernel)
theorem dL_law_1170 : decode cL_law 1170 = .ok (.iload 4, 2) := kd_row (b0 := 21) (bs := [4]) (op_21 1170) (kd_win kM_1152 (j := 18) rfl rfl (Nat.le_of_ble_eq_true rfl)) (by decide +kernel)
theorem dL_law_1172 : decode cL_law 1172 = .ok (.iconst 2, 1) := kd_row (b0 := 5) (bs := []) (op_5 1172) (kd_win kM_1152 (j := 20) rfl rfl (Nat.le_of_ble_eq_true rfl)) (by decide +kernel)
theorem dL_law_1173 : decode cL_law 1173 = .ok (.iadd, 1) := kd_row (b0 := 96) (bs := []) (op_96 1173) (kd_win kM_1152 (j := 21) rfl rfl (Nat.le_of_ble_eq_true rfl)) (by decide +kernel)
theorem dL_law_1174 : decode cL_law 1174 = .ok (.iaload, 1) := kd_row (b0 := 46) (bs := []) (op_46 1174) (kd_win kM_1152 (j := 22) rfl rfl (Nat.le_of_ble_eq_true rfl)) (by decide +kernel)
theorem dL_law_1175 : decode cL_law 1175 = .ok (.aload_n 3, 1) := kd_row (b0 := 45) (bs := []) (op_45 1175) (kd_win kM_1152 (j := 23) rfl rfl (Nat.le_of_ble_eq_true rfl)) (by decide +kernel)
theorem dL_law_1176 : decode cL_law 1176 = .ok (.invokestatic 224, 3) := kd_row (b0 := 184) (bs := [0, 224]) (op_184 1176) (kd_win kM_1152 (j := 24) rfl rfl (Nat.le_of_ble_eq_true rfl)) (by decide +kernel)
theorem dL_law_1179 : decode cL_law 1179 = .ok (.istore 5, 2) := kd_row (b0 := 54) (bs := [5]) (op_54 1179) (kd_win kM_1152 (j := 27) rfl rfl (Nat.le_of_ble_eq_true rfl)) (by decide +kernel)
theorem dL_law_1181 : decode cL_law 1181 = .ok (.aload_n 2, 1) := kd_row (b0 := 44) (bs := []) (op_44 1181) (kd_win kM_1152 (j := 29) rfl rfl (Nat.le_of_ble_eq_true rfl)) (by decide +kernel)
theorem dL_law_1182 : decode cL_law 1182 = .ok (.aload_n 0, 1) := kd_row (b0 := 42) (bs := []) (op_42 1182) (kd_win kM_1152 (j := 30) rfl rfl (Nat.le_of_ble_eq_true rfl)) (by decide +kernel)
theorem dL_law_1183 : decode cL_law 1183 = .ok (.iload 4, 2) := kd_row (b0 := 21) (bs := [4]) (op_21 1183) (kd_win kM_1152 (j := 31) rfl rfl (Nat.le_of_ble_eq_true rfl)) (by decide +kernel)
theorem dL_law_1185 : decode cL_law 1185 = .ok (.iconst 1, 1) := kd_row (b0 := 4) (bs := []) (op_4 1185) (kd_win kM_1152 (j := 33) rfl rfl (Nat.le_of_ble_eq_true rfl)) (by decide +kernel)
theorem dL_law_1186 : decode cL_law 1186 = .ok (.iadd, 1) := kd_row (b0 := 96) (bs := []) (op_96 1186) (kd_win kM_1152 (j := 34) rfl rfl (Nat.le_of_ble_eq_true rfl)) (by decide +kernel)
theorem dL_law_1187 : decode cL_law 1187 = .ok (.iaload, 1) := kd_row (b0 := 46) (bs := []) (op_46 1187) (kd_win kM_1152 (j := 35) rfl rfl (Nat.le_of_ble_eq_true rfl)) (by decide +kernel)
theorem dL_law_1188 : decode cL_law 1188 = .ok (.aload_n 0, 1) := kd_row (b0 := 42) (bs := []) (op_42 1188) (kd_win kM_1152 (j := 36) rfl rfl (Nat.le_of_ble_eq_true rfl)) (by decide +kernel)
theorem dL_law_1189 : decode cL_law 1189 = .ok (.iload 4, 2) := kd_row (b0 := 21) (bs := [4]) (op_21 1189) (kd_win kM_1152 (j := 37) rfl rfl (Nat.le_of_ble_eq_true rfl)) (by decide +kernel)
theorem dL_law_1191 : decode cL_law 1191 = .ok (.iconst 2, 1) := kd_row (b0 := 5) (bs := []) (op_5 1191) (kd_win kM_1152 (j := 39) rfl rfl (Nat.le_of_ble_eq_true rfl)) (by decide +kernel)
theorem dL_law_1192 : decode cL_law 1192 = .ok (.iadd, 1) := kd_row (b0 := 96) (bs := []) (op_96 1192) (kd_win kM_1152 (j := 40) rfl rfl (Nat.le_of_ble_eq_true rfl)) (by decide +kernel)
theorem dL_law_1193 : decode cL_law 1193 = .ok (.iaload, 1) := kd_row (b0 := 46) (bs := []) (op_46 1193) (kd_win kM_1152 (j := 41) rfl rfl (Nat.le_of_ble_eq_true rfl)) (by decide +kernel)
theorem dL_law_1194 : decode cL_law 1194 = .ok (.invokevirtual 226, 3) := kd_row (b0 := 182) (bs := [0, 226]) (op_182 1194) (kd_win kM_1152 (j := 42) rfl rfl (Nat.le_of_ble_eq_true rfl)) (by decide +kernel)
theorem dL_law_1197 : decode cL_law 1197 = .ok (.istore 6, 2) := kd_row (b0 := 54) (bs := [6]) (op_54 1197) (kd_win kM_1152 (j := 45) rfl rfl (Nat.le_of_ble_eq_true rfl)) (by decide +kernel)
theorem dL_law_1199 : decode cL_law 1199 = .ok (.goto 674, 3) := kd_row (b0 := 167) (bs := [2, 162]) (op_167 1199) (kd_win kM_1152 (j := 47) rfl rfl (Nat.le_of_ble_eq_true rfl)) (by decide +kernel)
theorem dL_law_1202 : decode cL_law 1202 = .ok (.aload_n 1, 1) := kd_row (b0 := 43) (bs := []) (op_43 1202) (kd_win kM_1152 (j := 50) rfl rfl (Nat.le_of_ble_eq_true rfl)) (by decide +kernel)
theorem dL_law_1203 : decode cL_law 1203 = .ok (.aload_n 0, 1) := kd_row (b0 := 42) (bs := []) (op_42 1203) (kd_win kM_1152 (j := 51) rfl rfl (Nat.le_of_ble_eq_true rfl)) (by decide +kernel)
theorem dL_law_1204 : decode cL_law 1204 = .ok (.iload 4, 2) := kd_row (b0 := 21) (bs := [4]) (op_21 1204) (kd_win kM_1152 (j := 52) rfl rfl (Nat.le_of_ble_eq_true rfl)) (by decide +kernel)
theorem dL_law_1206 : decode cL_law 1206 = .ok (.iconst 1, 1) := kd_row (b0 := 4) (bs := []) (op_4 1206) (kd_win kM_1152 (j := 54) rfl rfl (Nat.le_of_ble_eq_true rfl)) (by decide +kernel)
theorem dL_law_1207 : decode cL_law 1207 = .ok (.iadd, 1) := kd_row (b0 := 96) (bs := []) (op_96 1207) (kd_win kM_1152 (j := 55) rfl rfl (Nat.le_of_ble_eq_true rfl)) (by decide +kernel)
theorem dL_law_1208 : decode cL_law 1208 = .ok (.iaload, 1) := kd_row (b0 := 46) (bs := []) (op_46 1208) (kd_win kM_1152 (j := 56) rfl rfl (Nat.le_of_ble_eq_true rfl)) (by decide +kernel)
theorem dL_law_1209 : decode cL_law 1209 = .ok (.aload_n 0, 1) := kd_row (b0 := 42) (bs := []) (op_42 1209) (kd_win kM_1152 (j := 57) rfl rfl (Nat.le_of_ble_eq_true rfl)) (by decide +kernel)
theorem dL_law_1210 : decode cL_law 1210 = .ok (.iload 4, 2) := kd_row (b0 := 21) (bs := [4]) (op_21 1210) (kd_win kM_1152 (j := 58) rfl rfl (Nat.le_of_ble_eq_true rfl)) (by decide +kernel)
theorem dL_law_1212 : decode cL_law 1212 = .ok (.iconst 2, 1) := kd_row (b0 := 5) (bs := []) (op_5 1212) (kd_win kM_1152 (j := 60) rfl rfl (Nat.le_of_ble_eq_true rfl)) (by decide +kernel)
theorem dL_law_1213 : decode cL_law 1213 = .ok (.iadd, 1) := kd_row (b0 := 96) (bs := []) (op_96 1213) (kd_win kM_1152 (j := 61) rfl rfl (Nat.le_of_ble_eq_true rfl)) (by decide +kernel)
theorem dL_law_1214 : decode cL_law 1214 = .ok (.iaload, 1) := kd_row (b0 := 46) (bs := []) (op_46 1214) (kd_win kM_1152 (j := 62) rfl rfl (Nat.le_of_ble_eq_true rfl)) (by decide +kernel)
theorem dL_law_1215 : decode cL_law 1215 = .ok (.aload_n 0, 1) := kd_row (b0 := 42) (bs := []) (op_42 1215) (kd_win kM_1152 (j := 63) rfl rfl (Nat.le_of_ble_eq_true rfl)) (by decide +kernel)
theorem dL_law_1216 : decode cL_law 1216 = .ok (.iload 4, 2) := kd_row (b0 := 21) (bs := [4]) (op_21 1216) (kd_win kM_1216 (j := 0) rfl rfl (Nat.le_of_ble_eq_true rfl)) (by decide +kernel)
theorem dL_law_1218 : decode cL_law 1218 = .ok (.iconst 3, 1) := kd_row (b0 := 6) (bs := []) (op_6 1218) (kd_win kM_1216 (j := 2) rfl rfl (Nat.le_of_ble_eq_true rfl)) (by decide +kernel)
theorem dL_law_1219 : decode cL_law 1219 = .ok (.iadd, 1) := kd_row (b0 := 96) (bs := []) (op_96 1219) (kd_win kM_1216 (j := 3) rfl rfl (Nat.le_of_ble_eq_true rfl)) (by decide +kernel)
theorem dL_law_1220 : decode cL_law 1220 = .ok (.iaload, 1) := kd_row (b0 := 46) (bs := []) (op_46 1220) (kd_win kM_1216 (j := 4) rfl rfl (Nat.le_of_ble_eq_true rfl)) (by decide +kernel)
theorem dL_law_1221 : decode cL_law 1221 = .ok (.aload_n 3, 1) := kd_row (b0 := 45) (bs := []) (op_45 1221) (kd_win kM_1216 (j := 5) rfl rfl (Nat.le_of_ble_eq_true rfl)) (by decide +kernel)
theorem dL_law_1222 : decode cL_law 1222 = .ok (.invokestatic 227, 3) := kd_row (b0 := 184) (bs := [0, 227]) (op_184 1222) (kd_win kM_1216 (j := 6) rfl rfl (Nat.le_of_ble_eq_true rfl)) (by decide +kernel)
theorem dL_law_1225 : decode cL_law 1225 = .ok (.istore 5, 2) := kd_row (b0 := 54) (bs := [5]) (op_54 1225) (kd_win kM_1216 (j := 9) rfl rfl (Nat.le_of_ble_eq_true rfl)) (by decide +kernel)
theorem dL_law_1227 : decode cL_law 1227 = .ok (.aload_n 2, 1) := kd_row (b0 := 44) (bs := []) (op_44 1227) (kd_win kM_1216 (j := 11) rfl rfl (Nat.le_of_ble_eq_true rfl)) (by decide +kernel)
theorem dL_law_1228 : decode cL_law 1228 = .ok (.aload_n 0, 1) := kd_row (b0 := 42) (bs := []) (op_42 1228) (kd_win kM_1216 (j := 12) rfl rfl (Nat.le_of_ble_eq_true rfl)) (by decide +kernel)
theorem dL_law_1229 : decode cL_law 1229 = .ok (.iload 4, 2) := kd_row (b0 := 21) (bs := [4]) (op_21 1229) (kd_win kM_1216 (j := 13) rfl rfl (Nat.le_of_ble_eq_true rfl)) (by decide +kernel)
theorem dL_law_1231 : decode cL_law 1231 = .ok (.iconst 1, 1) := kd_row (b0 := 4) (bs := []) (op_4 1231) (kd_win kM_1216 (j := 15) rfl rfl (Nat.le_of_ble_eq_true rfl)) (by decide +kernel)
theorem dL_law_1232 : decode cL_law 1232 = .ok (.iadd, 1) := kd_row (b0 := 96) (bs := []) (op_96 1232) (kd_win kM_1216 (j := 16) rfl rfl (Nat.le_of_ble_eq_true rfl)) (by decide +kernel)
theorem dL_law_1233 : decode cL_law 1233 = .ok (.iaload, 1) := kd_row (b0 := 46) (bs := []) (op_46 1233) (kd_win kM_1216 (j := 17) rfl rfl (Nat.le_of_ble_eq_true rfl)) (by decide +kernel)
theorem dL_law_1234 : decode cL_law 1234 = .ok (.aload_n 0, 1) := kd_row (b0 := 42) (bs := []) (op_42 1234) (kd_win kM_1216 (j := 18) rfl rfl (Nat.le_of_ble_eq_true rfl)) (by decide +kernel)
theorem dL_law_1235 : decode cL_law 1235 = .ok (.iload 4, 2) := kd_row (b0 := 21) (bs := [4]) (op_21 1235) (kd_win kM_1216 (j := 19) rfl rfl (Nat.le_of_ble_eq_true rfl)) (by decide +kernel)
theorem dL_law_1237 : decode cL_law 1237 = .ok (.iconst 2, 1) := kd_row (b0 := 5) (bs := []) (op_5 1237) (kd_win kM_1216 (j := 21) rfl rfl (Nat.le_of_ble_eq_true rfl)) (by decide +kernel)
theorem dL_law_1238 : decode cL_law 1238 = .ok (.iadd, 1) := kd_row (b0 := 96) (bs := []) (op_96 1238) (kd_win kM_1216 (j := 22) rfl rfl (Nat.le_of_ble_eq_true rfl)) (by decide +kernel)
theorem dL_law_1239 : decode cL_law 1239 = .ok (.iaload, 1) := kd_row (b0 := 46) (bs := []) (op_46 1239) (kd_win kM_1216 (j := 23) rfl rfl (Nat.le_of_ble_eq_true rfl)) (by decide +kernel)
theorem dL_law_1240 : decode cL_law 1240 = .ok (.aload_n 0, 1) := kd_row (b0 := 42) (bs := []) (op_42 1240) (kd_win kM_1216 (j := 24) rfl rfl (Nat.le_of_ble_eq_true rfl)) (by decide +kernel)
theorem dL_law_1241 : decode cL_law 1241 = .ok (.iload 4, 2) := kd_row (b0 := 21) (bs := [4]) (op_21 1241) (kd_win kM_1216 (j := 25) rfl rfl (Nat.le_of_ble_eq_true rfl)) (by decide +kernel)
theorem dL_law_1243 : decode cL_law 1243 = .ok (.iconst 3, 1) := kd_row (b0 := 6) (bs := []) (op_6 1243) (kd_win kM_1216 (j := 27) rfl rfl (Nat.le_of_ble_eq_true rfl)) (by decide +kernel)
theorem dL_law_1244 : decode cL_law 1244 = .ok (.iadd, 1) := kd_row (b0 := 96) (bs := []) (op_96 1244) (kd_win kM_1216 (j := 28) rfl rfl (Nat.le_of_ble_eq_true rfl)) (by decide +kernel)
theorem dL_law_1245 : decode cL_law 1245 = .ok (.iaload, 1) := kd_row (b0 := 46) (bs := []) (op_46 1245) (kd_win kM_1216 (j := 29) rfl rfl (Nat.le_of_ble_eq_true rfl)) (by decide +kernel)
theorem dL_law_1246 : decode cL_law 1246 = .ok (.invokevirtual 229, 3) := kd_row (b0 := 182) (bs := [0, 229]) (op_182 1246) (kd_win kM_1216 (j := 30) rfl rfl (Nat.le_of_ble_eq_true rfl)) (by decide +kernel)
theorem dL_law_1249 : decode cL_law 1249 = .ok (.istore 6, 2) := kd_row (b0 := 54) (bs := [6]) (op_54 1249) (kd_win kM_1216 (j := 33) rfl rfl (Nat.le_of_ble_eq_true rfl)) (by decide +kernel)
theorem dL_law_1251 : decode cL_law 1251 = .ok (.goto 622, 3) := kd_row (b0 := 167) (bs := [2, 110]) (op_167 1251) (kd_win kM_1216 (j := 35) rfl rfl (Nat.le_of_ble_eq_true rfl)) (by decide +kernel)
theorem dL_law_1254 : decode cL_law 1254 = .ok (.aload_n 1, 1) := kd_row (b0 := 43) (bs := []) (op_43 1254) (kd_win kM_1216 (j := 38) rfl rfl (Nat.le_of_ble_eq_true rfl)) (by decide +kernel)
theorem dL_law_1255 : decode cL_law 1255 = .ok (.aload_n 0, 1) := kd_row (b0 := 42) (bs := []) (op_42 1255) (kd_win kM_1216 (j := 39) rfl rfl (Nat.le_of_ble_eq_true rfl)) (by decide +kernel)
theorem dL_law_1256 : decode cL_law 1256 = .ok (.iload 4, 2) := kd_row (b0 := 21) (bs := [4]) (op_21 1256) (kd_win kM_1216 (j := 40) rfl rfl (Nat.le_of_ble_eq_true rfl)) (by decide +kernel)
theorem dL_law_1258 : decode cL_law 1258 = .ok (.iconst 1, 1) := kd_row (b0 := 4) (bs := []) (op_4 1258) (kd_win kM_1216 (j := 42) rfl rfl (Nat.le_of_ble_eq_true rfl)) (by decide +kernel)
theorem dL_law_1259 : decode cL_law 1259 = .ok (.iadd, 1) := kd_row (b0 := 96) (bs := []) (op_96 1259) (kd_win kM_1216 (j := 43) rfl rfl (Nat.le_of_ble_eq_true rfl)) (by decide +kernel)
theorem dL_law_1260 : decode cL_law 1260 = .ok (.iaload, 1) := kd_row (b0 := 46) (bs := []) (op_46 1260) (kd_win kM_1216 (j := 44) rfl rfl (Nat.le_of_ble_eq_true rfl)) (by decide +kernel)
theorem dL_law_1261 : decode cL_law 1261 = .ok (.aload_n 0, 1) := kd_row (b0 := 42) (bs := []) (op_42 1261) (kd_win kM_1216 (j := 45) rfl rfl (Nat.le_of_ble_eq_true rfl)) (by decide +kernel)
theorem dL_law_1262 : decode cL_law 1262 = .ok (.iload 4, 2) := kd_row (b0 := 21) (bs := [4]) (op_21 1262) (kd_win kM_1216 (j := 46) rfl rfl (Nat.le_of_ble_eq_true rfl)) (by decide +kernel)
theorem dL_law_1264 : decode cL_law 1264 = .ok (.iconst 2, 1) := kd_row (b0 := 5) (bs := []) (op_5 1264) (kd_win kM_1216 (j := 48) rfl rfl (Nat.le_of_ble_eq_true rfl)) (by decide +kernel)
theorem dL_law_1265 : decode cL_law 1265 = .ok (.iadd, 1) := kd_row (b0 := 96) (bs := []) (op_96 1265) (kd_win kM_1216 (j := 49) rfl rfl (Nat.le_of_ble_eq_true rfl)) (by decide +kernel)
theorem dL_law_1266 : decode cL_law 1266 = .ok (.iaload, 1) := kd_row (b0 := 46) (bs := []) (op_46 1266) (kd_win kM_1216 (j := 50) rfl rfl (Nat.le_of_ble_eq_true rfl)) (by decide +kernel)
theorem dL_law_1267 : decode cL_law 1267 = .ok (.aload_n 0, 1) := kd_row (b0 := 42) (bs := []) (op_42 1267) (kd_win kM_1216 (j := 51) rfl rfl (Nat.le_of_ble_eq_true rfl)) (by decide +kernel)
theorem dL_law_1268 : decode cL_law 1268 = .ok (.iload 4, 2) := kd_row (b0 := 21) (bs := [4]) (op_21 1268) (kd_win kM_1216 (j := 52) rfl rfl (Nat.le_of_ble_eq_true rfl)) (by decide +kernel)
theorem dL_law_1270 : decode cL_law 1270 = .ok (.iconst 3, 1) := kd_row (b0 := 6) (bs := []) (op_6 1270) (kd_win kM_1216 (j := 54) rfl rfl (Nat.le_of_ble_eq_true rfl)) (by decide +kernel)
theorem dL_law_1271 : decode cL_law 1271 = .ok (.iadd, 1) := kd_row (b0 := 96) (bs := []) (op_96 1271) (kd_win kM_1216 (j := 55) rfl rfl (Nat.le_of_ble_eq_true rfl)) (by decide +kernel)
theorem dL_law_1272 : decode cL_law 1272 = .ok (.iaload, 1) := kd_row (b0 := 46) (bs := []) (op_46 1272) (kd_win kM_1216 (j := 56) rfl rfl (Nat.le_of_ble_eq_true rfl)) (by decide +kernel)
theorem dL_law_1273 : decode cL_law 1273 = .ok (.aload_n 3, 1) := kd_row (b0 := 45) (bs := []) (op_45 1273) (kd_win kM_1216 (j := 57) rfl rfl (Nat.le_of_ble_eq_true rfl)) (by decide +kernel)
theorem dL_law_1274 : decode cL_law 1274 = .ok (.invokestatic 230, 3) := kd_row (b0 := 184) (bs := [0, 230]) (op_184 1274) (kd_win kM_1216 (j := 58) rfl rfl (Nat.le_of_ble_eq_true rfl)) (by decide +kernel)
theorem dL_law_1277 : decode cL_law 1277 = .ok (.istore 5, 2) := kd_row (b0 := 54) (bs := [5]) (op_54 1277) (kd_win kM_1216 (j := 61) rfl rfl (Nat.le_of_ble_eq_true rfl)) (by decide +kernel)
theorem dL_law_1279 : decode cL_law 1279 = .ok (.aload_n 2, 1) := kd_row (b0 := 44) (bs := []) (op_44 1279) (kd_win kM_1216 (j := 63) rfl rfl (Nat.le_of_ble_eq_true rfl)) (by decide +kernel)
theorem dL_law_1280 : decode cL_law 1280 = .ok (.aload_n 0, 1) := kd_row (b0 := 42) (bs := []) (op_42 1280) (kd_win kM_1280 (j := 0) rfl rfl (Nat.le_of_ble_eq_true rfl)) (by decide +kernel)
theorem dL_law_1281 : decode cL_law 1281 = .ok (.iload 4, 2) := kd_row (b0 := 21) (bs := [4]) (op_21 1281) (kd_win kM_1280 (j := 1) rfl rfl (Nat.le_of_ble_eq_true rfl)) (by decide +kernel)
theorem dL_law_1283 : decode cL_law 1283 = .ok (.iconst 1, 1) := kd_row (b0 := 4) (bs := []) (op_4 1283) (kd_win kM_1280 (j := 3) rfl rfl (Nat.le_of_ble_eq_true rfl)) (by decide +kernel)
theorem dL_law_1284 : decode cL_law 1284 = .ok (.iadd, 1) := kd_row (b0 := 96) (bs := []) (op_96 1284) (kd_win kM_1280 (j := 4) rfl rfl (Nat.le_of_ble_eq_true rfl)) (by decide +kernel)
theorem dL_law_1285 : decode cL_law 1285 = .ok (.iaload, 1) := kd_row (b0 := 46) (bs := []) (op_46 1285) (kd_win kM_1280 (j := 5) rfl rfl (Nat.le_of_ble_eq_true rfl)) (by decide +kernel)
theorem dL_law_1286 : decode cL_law 1286 = .ok (.aload_n 0, 1) := kd_row (b0 := 42) (bs := []) (op_42 1286) (kd_win kM_1280 (j := 6) rfl rfl (Nat.le_of_ble_eq_true rfl)) (by decide +kernel)
theorem dL_law_1287 : decode cL_law 1287 = .ok (.iload 4, 2) := kd_row (b0 := 21) (bs := [4]) (op_21 1287) (kd_win kM_1280 (j := 7) rfl rfl (Nat.le_of_ble_eq_true rfl)) (by decide +kernel)
theorem dL_law_1289 : decode cL_law 1289 = .ok (.iconst 2, 1) := kd_row (b0 := 5) (bs := []) (op_5 1289) (kd_win kM_1280 (j := 9) rfl rfl (Nat.le_of_ble_eq_true rfl)) (by decide +kernel)
theorem dL_law_1290 : decode cL_law 1290 = .ok (.iadd, 1) := kd_row (b0 := 96) (bs := []) (op_96 1290) (kd_win kM_1280 (j := 10) rfl rfl (Nat.le_of_ble_eq_true rfl)) (by decide +kernel)
theorem dL_law_1291 : decode cL_law 1291 = .ok (.iaload, 1) := kd_row (b0 := 46) (bs := []) (op_46 1291) (kd_win kM_1280 (j := 11) rfl rfl (Nat.le_of_ble_eq_true rfl)) (by decide +kernel)
theorem dL_law_1292 : decode cL_law 1292 = .ok (.aload_n 0, 1) := kd_row (b0 := 42) (bs := []) (op_42 1292) (kd_win kM_1280 (j := 12) rfl rfl (Nat.le_of_ble_eq_true rfl)) (by decide +kernel)
theorem dL_law_1293 : decode cL_law 1293 = .ok (.iload 4, 2) := kd_row (b0 := 21) (bs := [4]) (op_21 1293) (kd_win kM_1280 (j := 13) rfl rfl (Nat.le_of_ble_eq_true rfl)) (by decide +kernel)
theorem dL_law_1295 : decode cL_law 1295 = .ok (.iconst 3, 1) := kd_row (b0 := 6) (bs := []) (op_6 1295) (kd_win kM_1280 (j := 15) rfl rfl (Nat.le_of_ble_eq_true rfl)) (by decide +kernel)
theorem dL_law_1296 : decode cL_law 1296 = .ok (.iadd, 1) := kd_row (b0 := 96) (bs := []) (op_96 1296) (kd_win kM_1280 (j := 16) rfl rfl (Nat.le_of_ble_eq_true rfl)) (by decide +kernel)
theorem dL_law_1297 : decode cL_law 1297 = .ok (.iaload, 1) := kd_row (b0 := 46) (bs := []) (op_46 1297) (kd_win kM_1280 (j := 17) rfl rfl (Nat.le_of_ble_eq_true rfl)) (by decide +kernel)
theorem dL_law_1298 : decode cL_law 1298 = .ok (.invokevirtual 232, 3) := kd_row (b0 := 182) (bs := [0, 232]) (op_182 1298) (kd_win kM_1280 (j := 18) rfl rfl (Nat.le_of_ble_eq_true rfl)) (by decide +kernel)
theorem dL_law_1301 : decode cL_law 1301 = .ok (.istore 6, 2) := kd_row (b0 := 54) (bs := [6]) (op_54 1301) (kd_win kM_1280 (j := 21) rfl rfl (Nat.le_of_ble_eq_true rfl)) (by decide +kernel)
theorem dL_law_1303 : decode cL_law 1303 = .ok (.goto 570, 3) := kd_row (b0 := 167) (bs := [2, 58]) (op_167 1303) (kd_win kM_1280 (j := 23) rfl rfl (Nat.le_of_ble_eq_true rfl)) (by decide +kernel)
theorem dL_law_1306 : decode cL_law 1306 = .ok (.aload_n 1, 1) := kd_row (b0 := 43) (bs := []) (op_43 1306) (kd_win kM_1280 (j := 26) rfl rfl (Nat.le_of_ble_eq_true rfl)) (by decide +kernel)
theorem dL_law_1307 : decode cL_law 1307 = .ok (.aload_n 0, 1) := kd_row (b0 := 42) (bs := []) (op_42 1307) (kd_win kM_1280 (j := 27) rfl rfl (Nat.le_of_ble_eq_true rfl)) (by decide +kernel)
theorem dL_law_1308 : decode cL_law 1308 = .ok (.iload 4, 2) := kd_row (b0 := 21) (bs := [4]) (op_21 1308) (kd_win kM_1280 (j := 28) rfl rfl (Nat.le_of_ble_eq_true rfl)) (by decide +kernel)
theorem dL_law_1310 : decode cL_law 1310 = .ok (.iconst 1, 1) := kd_row (b0 := 4) (bs := []) (op_4 1310) (kd_win kM_1280 (j := 30) rfl rfl (Nat.le_of_ble_eq_true rfl)) (by decide +kernel)
theorem dL_law_1311 : decode cL_law 1311 = .ok (.iadd, 1) := kd_row (b0 := 96) (bs := []) (op_96 1311) (kd_win kM_1280 (j := 31) rfl rfl (Nat.le_of_ble_eq_true rfl)) (by decide +kernel)
theorem dL_law_1312 : decode cL_law 1312 = .ok (.iaload, 1) := kd_row (b0 := 46) (bs := []) (op_46 1312) (kd_win kM_1280 (j := 32) rfl rfl (Nat.le_of_ble_eq_true rfl)) (by decide +kernel)
theorem dL_law_1313 : decode cL_law 1313 = .ok (.aload_n 3, 1) := kd_row (b0 := 45) (bs := []) (op_45 1313) (kd_win kM_1280 (j := 33) rfl rfl (Nat.le_of_ble_eq_true rfl)) (by decide +kernel)
theorem dL_law_1314 : decode cL_law 1314 = .ok (.invokestatic 233, 3) := kd_row (b0 := 184) (bs := [0, 233]) (op_184 1314) (kd_win kM_1280 (j := 34) rfl rfl (Nat.le_of_ble_eq_true rfl)) (by decide +kernel)
theorem dL_law_1317 : decode cL_law 1317 = .ok (.istore 5, 2) := kd_row (b0 := 54) (bs := [5]) (op_54 1317) (kd_win kM_1280 (j := 37) rfl rfl (Nat.le_of_ble_eq_true rfl)) (by decide +kernel)
theorem dL_law_1319 : decode cL_law 1319 = .ok (.aload_n 2, 1) := kd_row (b0 := 44) (bs := []) (op_44 1319) (kd_win kM_1280 (j := 39) rfl rfl (Nat.le_of_ble_eq_true rfl)) (by decide +kernel)
theorem dL_law_1320 : decode cL_law 1320 = .ok (.aload_n 0, 1) := kd_row (b0 := 42) (bs := []) (op_42 1320) (kd_win kM_1280 (j := 40) rfl rfl (Nat.le_of_ble_eq_true rfl)) (by decide +kernel)
theorem dL_law_1321 : decode cL_law 1321 = .ok (.iload 4, 2) := kd_row (b0 := 21) (bs := [4]) (op_21 1321) (kd_win kM_1280 (j := 41) rfl rfl (Nat.le_of_ble_eq_true rfl)) (by decide +kernel)
theorem dL_law_1323 : decode cL_law 1323 = .ok (.iconst 1, 1) := kd_row (b0 := 4) (bs := []) (op_4 1323) (kd_win kM_1280 (j := 43) rfl rfl (Nat.le_of_ble_eq_true rfl)) (by decide +kernel)
theorem dL_law_1324 : decode cL_law 1324 = .ok (.iadd, 1) := kd_row (b0 := 96) (bs := []) (op_96 1324) (kd_win kM_1280 (j := 44) rfl rfl (Nat.le_of_ble_eq_true rfl)) (by decide +kernel)
theorem dL_law_1325 : decode cL_law 1325 = .ok (.iaload, 1) := kd_row (b0 := 46) (bs := []) (op_46 1325) (kd_win kM_1280 (j := 45) rfl rfl (Nat.le_of_ble_eq_true rfl)) (by decide +kernel)
theorem dL_law_1326 : decode cL_law 1326 = .ok (.invokevirtual 235, 3) := kd_row (b0 := 182) (bs := [0, 235]) (op_182 1326) (kd_win kM_1280 (j := 46) rfl rfl (Nat.le_of_ble_eq_true rfl)) (by decide +kernel)
theorem dL_law_1329 : decode cL_law 1329 = .ok (.istore 6, 2) := kd_row (b0 := 54) (bs := [6]) (op_54 1329) (kd_win kM_1280 (j := 49) rfl rfl (Nat.le_of_ble_eq_true rfl)) (by decide +kernel)
theorem dL_law_1331 : decode cL_law 1331 = .ok (.goto 542, 3) := kd_row (b0 := 167) (bs := [2, 30]) (op_167 1331) (kd_win kM_1280 (j := 51) rfl rfl (Nat.le_of_ble_eq_true rfl)) (by decide +kernel)
theorem dL_law_1334 : decode cL_law 1334 = .ok (.aload_n 1, 1) := kd_row (b0 := 43) (bs := []) (op_43 1334) (kd_win kM_1280 (j := 54) rfl rfl (Nat.le_of_ble_eq_true rfl)) (by decide +kernel)
theorem dL_law_1335 : decode cL_law 1335 = .ok (.invokevirtual 236, 3) := kd_row (b0 := 182) (bs := [0, 236]) (op_182 1335) (kd_win kM_1280 (j := 55) rfl rfl (Nat.le_of_ble_eq_true rfl)) (by decide +kernel)
theorem dL_law_1338 : decode cL_law 1338 = .ok (.pop, 1) := kd_row (b0 := 87) (bs := []) (op_87 1338) (kd_win kM_1280 (j := 58) rfl rfl (Nat.le_of_ble_eq_true rfl)) (by decide +kernel)
theorem dL_law_1339 : decode cL_law 1339 = .ok (.aload_n 2, 1) := kd_row (b0 := 44) (bs := []) (op_44 1339) (kd_win kM_1280 (j := 59) rfl rfl (Nat.le_of_ble_eq_true rfl)) (by decide +kernel)
theorem dL_law_1340 : decode cL_law 1340 = .ok (.invokevirtual 239, 3) := kd_row (b0 := 182) (bs := [0, 239]) (op_182 1340) (kd_win kM_1280 (j := 60) rfl rfl (Nat.le_of_ble_eq_true rfl)) (by decide +kernel)
theorem dL_law_1343 : decode cL_law 1343 = .ok (.pop, 1) := kd_row (b0 := 87) (bs := []) (op_87 1343) (kd_win kM_1280 (j := 63) rfl rfl (Nat.le_of_ble_eq_true rfl)) (by decide +kernel)
theorem dL_law_1344 : decode cL_law 1344 = .ok (.goto 529, 3) := kd_row (b0 := 167) (bs := [2, 17]) (op_167 1344) (kd_win kM_1344 (j := 0) rfl rfl (Nat.le_of_ble_eq_true rfl)) (by decide +kernel)
theorem dL_law_1347 : decode cL_law 1347 = .ok (.aload_n 1, 1) := kd_row (b0 := 43) (bs := []) (op_43 1347) (kd_win kM_1344 (j := 3) rfl rfl (Nat.le_of_ble_eq_true rfl)) (by decide +kernel)
theorem dL_law_1348 : decode cL_law 1348 = .ok (.aload_n 0, 1) := kd_row (b0 := 42) (bs := []) (op_42 1348) (kd_win kM_1344 (j := 4) rfl rfl (Nat.le_of_ble_eq_true rfl)) (by decide +kernel)
theorem dL_law_1349 : decode cL_law 1349 = .ok (.iload 4, 2) := kd_row (b0 := 21) (bs := [4]) (op_21 1349) (kd_win kM_1344 (j := 5) rfl rfl (Nat.le_of_ble_eq_true rfl)) (by decide +kernel)
theorem dL_law_1351 : decode cL_law 1351 = .ok (.iconst 1, 1) := kd_row (b0 := 4) (bs := []) (op_4 1351) (kd_win kM_1344 (j := 7) rfl rfl (Nat.le_of_ble_eq_true rfl)) (by decide +kernel)
theorem dL_law_1352 : decode cL_law 1352 = .ok (.iadd, 1) := kd_row (b0 := 96) (bs := []) (op_96 1352) (kd_win kM_1344 (j := 8) rfl rfl (Nat.le_of_ble_eq_true rfl)) (by decide +kernel)
theorem dL_law_1353 : decode cL_law 1353 = .ok (.iaload, 1) := kd_row (b0 := 46) (bs := []) (op_46 1353) (kd_win kM_1344 (j := 9) rfl rfl (Nat.le_of_ble_eq_true rfl)) (by decide +kernel)
theorem dL_law_1354 : decode cL_law 1354 = .ok (.aload_n 0, 1) := kd_row (b0 := 42) (bs := []) (op_42 1354) (kd_win kM_1344 (j := 10) rfl rfl (Nat.le_of_ble_eq_true rfl)) (by decide +kernel)
theorem dL_law_1355 : decode cL_law 1355 = .ok (.iload 4, 2) := kd_row (b0 := 21) (bs := [4]) (op_21 1355) (kd_win kM_1344 (j := 11) rfl rfl (Nat.le_of_ble_eq_true rfl)) (by decide +kernel)
theorem dL_law_1357 : decode cL_law 1357 = .ok (.iconst 2, 1) := kd_row (b0 := 5) (bs := []) (op_5 1357) (kd_win kM_1344 (j := 13) rfl rfl (Nat.le_of_ble_eq_true rfl)) (by decide +kernel)
theorem dL_law_1358 : decode cL_law 1358 = .ok (.iadd, 1) := kd_row (b0 := 96) (bs := []) (op_96 1358) (kd_win kM_1344 (j := 14) rfl rfl (Nat.le_of_ble_eq_true rfl)) (by decide +kernel)
theorem dL_law_1359 : decode cL_law 1359 = .ok (.iaload, 1) := kd_row (b0 := 46) (bs := []) (op_46 1359) (kd_win kM_1344 (j := 15) rfl rfl (Nat.le_of_ble_eq_true rfl)) (by decide +kernel)
theorem dL_law_1360 : decode cL_law 1360 = .ok (.aload_n 3, 1) := kd_row (b0 := 45) (bs := []) (op_45 1360) (kd_win kM_1344 (j := 16) rfl rfl (Nat.le_of_ble_eq_true rfl)) (by decide +kernel)
theorem dL_law_1361 : decode cL_law 1361 = .ok (.invokestatic 240, 3) := kd_row (b0 := 184) (bs := [0, 240]) (op_184 1361) (kd_win kM_1344 (j := 17) rfl rfl (Nat.le_of_ble_eq_true rfl)) (by decide +kernel)
theorem dL_law_1364 : decode cL_law 1364 = .ok (.istore 5, 2) := kd_row (b0 := 54) (bs := [5]) (op_54 1364) (kd_win kM_1344 (j := 20) rfl rfl (Nat.le_of_ble_eq_true rfl)) (by decide +kernel)
theorem dL_law_1366 : decode cL_law 1366 = .ok (.aload_n 2, 1) := kd_row (b0 := 44) (bs := []) (op_44 1366) (kd_win kM_1344 (j := 22) rfl rfl (Nat.le_of_ble_eq_true rfl)) (by decide +kernel)
theorem dL_law_1367 : decode cL_law 1367 = .ok (.aload_n 0, 1) := kd_row (b0 := 42) (bs := []) (op_42 1367) (kd_win kM_1344 (j := 23) rfl rfl (Nat.le_of_ble_eq_true rfl)) (by decide +kernel)
theorem dL_law_1368 : decode cL_law 1368 = .ok (.iload 4, 2) := kd_row (b0 := 21) (bs := [4]) (op_21 1368) (kd_win kM_1344 (j := 24) rfl rfl (Nat.le_of_ble_eq_true rfl)) (by decide +kernel)
theorem dL_law_1370 : decode cL_law 1370 = .ok (.iconst 1, 1) := kd_row (b0 := 4) (bs := []) (op_4 1370) (kd_win kM_1344 (j := 26) rfl rfl (Nat.le_of_ble_eq_true rfl)) (by decide +kernel)
theorem dL_law_1371 : decode cL_law 1371 = .ok (.iadd, 1) := kd_row (b0 := 96) (bs := []) (op_96 1371) (kd_win kM_1344 (j := 27) rfl rfl (Nat.le_of_ble_eq_true rfl)) (by decide +kernel)
theorem dL_law_1372 : decode cL_law 1372 = .ok (.iaload, 1) := kd_row (b0 := 46) (bs := []) (op_46 1372) (kd_win kM_1344 (j := 28) rfl rfl (Nat.le_of_ble_eq_true rfl)) (by decide +kernel)
theorem dL_law_1373 : decode cL_law 1373 = .ok (.aload_n 0, 1) := kd_row (b0 := 42) (bs := []) (op_42 1373) (kd_win kM_1344 (j := 29) rfl rfl (Nat.le_of_ble_eq_true rfl)) (by decide +kernel)
theorem dL_law_1374 : decode cL_law 1374 = .ok (.iload 4, 2) := kd_row (b0 := 21) (bs := [4]) (op_21 1374) (kd_win kM_1344 (j := 30) rfl rfl (Nat.le_of_ble_eq_true rfl)) (by decide +kernel)
theorem dL_law_1376 : decode cL_law 1376 = .ok (.iconst 2, 1) := kd_row (b0 := 5) (bs := []) (op_5 1376) (kd_win kM_1344 (j := 32) rfl rfl (Nat.le_of_ble_eq_true rfl)) (by decide +kernel)
theorem dL_law_1377 : decode cL_law 1377 = .ok (.iadd, 1) := kd_row (b0 := 96) (bs := []) (op_96 1377) (kd_win kM_1344 (j := 33) rfl rfl (Nat.le_of_ble_eq_true rfl)) (by decide +kernel)
theorem dL_law_1378 : decode cL_law 1378 = .ok (.iaload, 1) := kd_row (b0 := 46) (bs := []) (op_46 1378) (kd_win kM_1344 (j := 34) rfl rfl (Nat.le_of_ble_eq_true rfl)) (by decide +kernel)
theorem dL_law_1379 : decode cL_law 1379 = .ok (.invokevirtual 242, 3) := kd_row (b0 := 182) (bs := [0, 242]) (op_182 1379) (kd_win kM_1344 (j := 35) rfl rfl (Nat.le_of_ble_eq_true rfl)) (by decide +kernel)
theorem dL_law_1382 : decode cL_law 1382 = .ok (.istore 6, 2) := kd_row (b0 := 54) (bs := [6]) (op_54 1382) (kd_win kM_1344 (j := 38) rfl rfl (Nat.le_of_ble_eq_true rfl)) (by decide +kernel)
theorem dL_law_1384 : decode cL_law 1384 = .ok (.goto 489, 3) := kd_row (b0 := 167) (bs := [1, 233]) (op_167 1384) (kd_win kM_1344 (j := 40) rfl rfl (Nat.le_of_ble_eq_true rfl)) (by decide +kernel)
theorem dL_law_1387 : decode cL_law 1387 = .ok (.aload_n 1, 1) := kd_row (b0 := 43) (bs := []) (op_43 1387) (kd_win kM_1344 (j := 43) rfl rfl (Nat.le_of_ble_eq_true rfl)) (by decide +kernel)
theorem dL_law_1388 : decode cL_law 1388 = .ok (.aload_n 0, 1) := kd_row (b0 := 42) (bs := []) (op_42 1388) (kd_win kM_1344 (j := 44) rfl rfl (Nat.le_of_ble_eq_true rfl)) (by decide +kernel)
theorem dL_law_1389 : decode cL_law 1389 = .ok (.iload 4, 2) := kd_row (b0 := 21) (bs := [4]) (op_21 1389) (kd_win kM_1344 (j := 45) rfl rfl (Nat.le_of_ble_eq_true rfl)) (by decide +kernel)
theorem dL_law_1391 : decode cL_law 1391 = .ok (.iconst 1, 1) := kd_row (b0 := 4) (bs := []) (op_4 1391) (kd_win kM_1344 (j := 47) rfl rfl (Nat.le_of_ble_eq_true rfl)) (by decide +kernel)
theorem dL_law_1392 : decode cL_law 1392 = .ok (.iadd, 1) := kd_row (b0 := 96) (bs := []) (op_96 1392) (kd_win kM_1344 (j := 48) rfl rfl (Nat.le_of_ble_eq_true rfl)) (by decide +kernel)
theorem dL_law_1393 : decode cL_law 1393 = .ok (.iaload, 1) := kd_row (b0 := 46) (bs := []) (op_46 1393) (kd_win kM_1344 (j := 49) rfl rfl (Nat.le_of_ble_eq_true rfl)) (by decide +kernel)
theorem dL_law_1394 : decode cL_law 1394 = .ok (.aload_n 0, 1) := kd_row (b0 := 42) (bs := []) (op_42 1394) (kd_win kM_1344 (j := 50) rfl rfl (Nat.le_of_ble_eq_true rfl)) (by decide +kernel)
theorem dL_law_1395 : decode cL_law 1395 = .ok (.iload 4, 2) := kd_row (b0 := 21) (bs := [4]) (op_21 1395) (kd_win kM_1344 (j := 51) rfl rfl (Nat.le_of_ble_eq_true rfl)) (by decide +kernel)
theorem dL_law_1397 : decode cL_law 1397 = .ok (.iconst 2, 1) := kd_row (b0 := 5) (bs := []) (op_5 1397) (kd_win kM_1344 (j := 53) rfl rfl (Nat.le_of_ble_eq_true rfl)) (by decide +kernel)
theorem dL_law_1398 : decode cL_law 1398 = .ok (.iadd, 1) := kd_row (b0 := 96) (bs := []) (op_96 1398) (kd_win kM_1344 (j := 54) rfl rfl (Nat.le_of_ble_eq_true rfl)) (by decide +kernel)
theorem dL_law_1399 : decode cL_law 1399 = .ok (.iaload, 1) := kd_row (b0 := 46) (bs := []) (op_46 1399) (kd_win kM_1344 (j := 55) rfl rfl (Nat.le_of_ble_eq_true rfl)) (by decide +kernel)
theorem dL_law_1400 : decode cL_law 1400 = .ok (.aload_n 3, 1) := kd_row (b0 := 45) (bs := []) (op_45 1400) (kd_win kM_1344 (j := 56) rfl rfl (Nat.le_of_ble_eq_true rfl)) (by decide +kernel)
theorem dL_law_1401 : decode cL_law 1401 = .ok (.invokestatic 243, 3) := kd_row (b0 := 184) (bs := [0, 243]) (op_184 1401) (kd_win kM_1344 (j := 57) rfl rfl (Nat.le_of_ble_eq_true rfl)) (by decide +kernel)
theorem dL_law_1404 : decode cL_law 1404 = .ok (.istore 5, 2) := kd_row (b0 := 54) (bs := [5]) (op_54 1404) (kd_win kM_1344 (j := 60) rfl rfl (Nat.le_of_ble_eq_true rfl)) (by decide +kernel)
theorem dL_law_1406 : decode cL_law 1406 = .ok (.aload_n 2, 1) := kd_row (b0 := 44) (bs := []) (op_44 1406) (kd_win kM_1344 (j := 62) rfl rfl (Nat.le_of_ble_eq_true rfl)) (by decide +kernel)
theorem dL_law_1407 : decode cL_law 1407 = .ok (.aload_n 0, 1) := kd_row (b0 := 42) (bs := []) (op_42 1407) (kd_win kM_1344 (j := 63) rfl rfl (Nat.le_of_ble_eq_true rfl)) (by decide +kernel)
theorem dL_law_1408 : decode cL_law 1408 = .ok (.iload 4, 2) := kd_row (b0 := 21) (bs := [4]) (op_21 1408) (kd_win kM_1408 (j := 0) rfl rfl (Nat.le_of_ble_eq_true rfl)) (by decide +kernel)
theorem dL_law_1410 : decode cL_law 1410 = .ok (.iconst 1, 1) := kd_row (b0 := 4) (bs := []) (op_4 1410) (kd_win kM_1408 (j := 2) rfl rfl (Nat.le_of_ble_eq_true rfl)) (by decide +kernel)
theorem dL_law_1411 : decode cL_law 1411 = .ok (.iadd, 1) := kd_row (b0 := 96) (bs := []) (op_96 1411) (kd_win kM_1408 (j := 3) rfl rfl (Nat.le_of_ble_eq_true rfl)) (by decide +kernel)
theorem dL_law_1412 : decode cL_law 1412 = .ok (.iaload, 1) := kd_row (b0 := 46) (bs := []) (op_46 1412) (kd_win kM_1408 (j := 4) rfl rfl (Nat.le_of_ble_eq_true rfl)) (by decide +kernel)
theorem dL_law_1413 : decode cL_law 1413 = .ok (.aload_n 0, 1) := kd_row (b0 := 42) (bs := []) (op_42 1413) (kd_win kM_1408 (j := 5) rfl rfl (Nat.le_of_ble_eq_true rfl)) (by decide +kernel)
theorem dL_law_1414 : decode cL_law 1414 = .ok (.iload 4, 2) := kd_row (b0 := 21) (bs := [4]) (op_21 1414) (kd_win kM_1408 (j := 6) rfl rfl (Nat.le_of_ble_eq_true rfl)) (by decide +kernel)
theorem dL_law_1416 : decode cL_law 1416 = .ok (.iconst 2, 1) := kd_row (b0 := 5) (bs := []) (op_5 1416) (kd_win kM_1408 (j := 8) rfl rfl (Nat.le_of_ble_eq_true rfl)) (by decide +kernel)
theorem dL_law_1417 : decode cL_law 1417 = .ok (.iadd, 1) := kd_row (b0 := 96) (bs := []) (op_96 1417) (kd_win kM_1408 (j := 9) rfl rfl (Nat.le_of_ble_eq_true rfl)) (by decide +kernel)
theorem dL_law_1418 : decode cL_law 1418 = .ok (.iaload, 1) := kd_row (b0 := 46) (bs := []) (op_46 1418) (kd_win kM_1408 (j := 10) rfl rfl (Nat.le_of_ble_eq_true rfl)) (by decide +kernel)
theorem dL_law_1419 : decode cL_law 1419 = .ok (.invokevirtual 245, 3) := kd_row (b0 := 182) (bs := [0, 245]) (op_182 1419) (kd_win kM_1408 (j := 11) rfl rfl (Nat.le_of_ble_eq_true rfl)) (by decide +kernel)
theorem dL_law_1422 : decode cL_law 1422 = .ok (.istore 6, 2) := kd_row (b0 := 54) (bs := [6]) (op_54 1422) (kd_win kM_1408 (j := 14) rfl rfl (Nat.le_of_ble_eq_true rfl)) (by decide +kernel)
theorem dL_law_1424 : decode cL_law 1424 = .ok (.goto 449, 3) := kd_row (b0 := 167) (bs := [1, 193]) (op_167 1424) (kd_win kM_1408 (j := 16) rfl rfl (Nat.le_of_ble_eq_true rfl)) (by decide +kernel)
theorem dL_law_1427 : decode cL_law 1427 = .ok (.aload_n 1, 1) := kd_row (b0 := 43) (bs := []) (op_43 1427) (kd_win kM_1408 (j := 19) rfl rfl (Nat.le_of_ble_eq_true rfl)) (by decide +kernel)
theorem dL_law_1428 : decode cL_law 1428 = .ok (.invokevirtual 246, 3) := kd_row (b0 := 182) (bs := [0, 246]) (op_182 1428) (kd_win kM_1408 (j := 20) rfl rfl (Nat.le_of_ble_eq_true rfl)) (by decide +kernel)
theorem dL_law_1431 : decode cL_law 1431 = .ok (.pop, 1) := kd_row (b0 := 87) (bs := []) (op_87 1431) (kd_win kM_1408 (j := 23) rfl rfl (Nat.le_of_ble_eq_true rfl)) (by decide +kernel)
theorem dL_law_1432 : decode cL_law 1432 = .ok (.aload_n 2, 1) := kd_row (b0 := 44) (bs := []) (op_44 1432) (kd_win kM_1408 (j := 24) rfl rfl (Nat.le_of_ble_eq_true rfl)) (by decide +kernel)
theorem dL_law_1433 : decode cL_law 1433 = .ok (.invokevirtual 249, 3) := kd_row (b0 := 182) (bs := [0, 249]) (op_182 1433) (kd_win kM_1408 (j := 25) rfl rfl (Nat.le_of_ble_eq_true rfl)) (by decide +kernel)
theorem dL_law_1436 : decode cL_law 1436 = .ok (.pop, 1) := kd_row (b0 := 87) (bs := []) (op_87 1436) (kd_win kM_1408 (j := 28) rfl rfl (Nat.le_of_ble_eq_true rfl)) (by decide +kernel)
theorem dL_law_1437 : decode cL_law 1437 = .ok (.goto 436, 3) := kd_row (b0 := 167) (bs := [1, 180]) (op_167 1437) (kd_win kM_1408 (j := 29) rfl rfl (Nat.le_of_ble_eq_true rfl)) (by decide +kernel)
theorem dL_law_1440 : decode cL_law 1440 = .ok (.aload_n 1, 1) := kd_row (b0 := 43) (bs := []) (op_43 1440) (kd_win kM_1408 (j := 32) rfl rfl (Nat.le_of_ble_eq_true rfl)) (by decide +kernel)
theorem dL_law_1441 : decode cL_law 1441 = .ok (.aload_n 0, 1) := kd_row (b0 := 42) (bs := []) (op_42 1441) (kd_win kM_1408 (j := 33) rfl rfl (Nat.le_of_ble_eq_true rfl)) (by decide +kernel)
theorem dL_law_1442 : decode cL_law 1442 = .ok (.iload 4, 2) := kd_row (b0 := 21) (bs := [4]) (op_21 1442) (kd_win kM_1408 (j := 34) rfl rfl (Nat.le_of_ble_eq_true rfl)) (by decide +kernel)
theorem dL_law_1444 : decode cL_law 1444 = .ok (.iconst 1, 1) := kd_row (b0 := 4) (bs := []) (op_4 1444) (kd_win kM_1408 (j := 36) rfl rfl (Nat.le_of_ble_eq_true rfl)) (by decide +kernel)
theorem dL_law_1445 : decode cL_law 1445 = .ok (.iadd, 1) := kd_row (b0 := 96) (bs := []) (op_96 1445) (kd_win kM_1408 (j := 37) rfl rfl (Nat.le_of_ble_eq_true rfl)) (by decide +kernel)
theorem dL_law_1446 : decode cL_law 1446 = .ok (.iaload, 1) := kd_row (b0 := 46) (bs := []) (op_46 1446) (kd_win kM_1408 (j := 38) rfl rfl (Nat.le_of_ble_eq_true rfl)) (by decide +kernel)
theorem dL_law_1447 : decode cL_law 1447 = .ok (.aload_n 3, 1) := kd_row (b0 := 45) (bs := []) (op_45 1447) (kd_win kM_1408 (j := 39) rfl rfl (Nat.le_of_ble_eq_true rfl)) (by decide +kernel)
theorem dL_law_1448 : decode cL_law 1448 = .ok (.invokestatic 250, 3) := kd_row (b0 := 184) (bs := [0, 250]) (op_184 1448) (kd_win kM_1408 (j := 40) rfl rfl (Nat.le_of_ble_eq_true rfl)) (by decide +kernel)
theorem dL_law_1451 : decode cL_law 1451 = .ok (.istore 5, 2) := kd_row (b0 := 54) (bs := [5]) (op_54 1451) (kd_win kM_1408 (j := 43) rfl rfl (Nat.le_of_ble_eq_true rfl)) (by decide +kernel)
theorem dL_law_1453 : decode cL_law 1453 = .ok (.aload_n 2, 1) := kd_row (b0 := 44) (bs := []) (op_44 1453) (kd_win kM_1408 (j := 45) rfl rfl (Nat.le_of_ble_eq_true rfl)) (by decide +kernel)
theorem dL_law_1454 : decode cL_law 1454 = .ok (.aload_n 0, 1) := kd_row (b0 := 42) (bs := []) (op_42 1454) (kd_win kM_1408 (j := 46) rfl rfl (Nat.le_of_ble_eq_true rfl)) (by decide +kernel)
theorem dL_law_1455 : decode cL_law 1455 = .ok (.iload 4, 2) := kd_row (b0 := 21) (bs := [4]) (op_21 1455) (kd_win kM_1408 (j := 47) rfl rfl (Nat.le_of_ble_eq_true rfl)) (by decide +kernel)
theorem dL_law_1457 : decode cL_law 1457 = .ok (.iconst 1, 1) := kd_row (b0 := 4) (bs := []) (op_4 1457) (kd_win kM_1408 (j := 49) rfl rfl (Nat.le_of_ble_eq_true rfl)) (by decide +kernel)
theorem dL_law_1458 : decode cL_law 1458 = .ok (.iadd, 1) := kd_row (b0 := 96) (bs := []) (op_96 1458) (kd_win kM_1408 (j := 50) rfl rfl (Nat.le_of_ble_eq_true rfl)) (by decide +kernel)
theorem dL_law_1459 : decode cL_law 1459 = .ok (.iaload, 1) := kd_row (b0 := 46) (bs := []) (op_46 1459) (kd_win kM_1408 (j := 51) rfl rfl (Nat.le_of_ble_eq_true rfl)) (by decide +kernel)
theorem dL_law_1460 : decode cL_law 1460 = .ok (.invokevirtual 252, 3) := kd_row (b0 := 182) (bs := [0, 252]) (op_182 1460) (kd_win kM_1408 (j := 52) rfl rfl (Nat.le_of_ble_eq_true rfl)) (by decide +kernel)
theorem dL_law_1463 : decode cL_law 1463 = .ok (.istore 6, 2) := kd_row (b0 := 54) (bs := [6]) (op_54 1463) (kd_win kM_1408 (j := 55) rfl rfl (Nat.le_of_ble_eq_true rfl)) (by decide +kernel)
theorem dL_law_1465 : decode cL_law 1465 = .ok (.goto 408, 3) := kd_row (b0 := 167) (bs := [1, 152]) (op_167 1465) (kd_win kM_1408 (j := 57) rfl rfl (Nat.le_of_ble_eq_true rfl)) (by decide +kernel)
theorem dL_law_1468 : decode cL_law 1468 = .ok (.aload_n 1, 1) := kd_row (b0 := 43) (bs := []) (op_43 1468) (kd_win kM_1408 (j := 60) rfl rfl (Nat.le_of_ble_eq_true rfl)) (by decide +kernel)
theorem dL_law_1469 : decode cL_law 1469 = .ok (.invokevirtual 253, 3) := kd_row (b0 := 182) (bs := [0, 253]) (op_182 1469) (kd_win kM_1408 (j := 61) rfl rfl (Nat.le_of_ble_eq_true rfl)) (by decide +kernel)
theorem dL_law_1472 : decode cL_law 1472 = .ok (.pop, 1) := kd_row (b0 := 87) (bs := []) (op_87 1472) (kd_win kM_1472 (j := 0) rfl rfl (Nat.le_of_ble_eq_true rfl)) (by decide +kernel)
theorem dL_law_1473 : decode cL_law 1473 = .ok (.aload_n 2, 1) := kd_row (b0 := 44) (bs := []) (op_44 1473) (kd_win kM_1472 (j := 1) rfl rfl (Nat.le_of_ble_eq_true rfl)) (by decide +kernel)
theorem dL_law_1474 : decode cL_law 1474 = .ok (.invokevirtual 256, 3) := kd_row (b0 := 182) (bs := [1, 0]) (op_182 1474) (kd_win kM_1472 (j := 2) rfl rfl (Nat.le_of_ble_eq_true rfl)) (by decide +kernel)
theorem dL_law_1477 : decode cL_law 1477 = .ok (.pop, 1) := kd_row (b0 := 87) (bs := []) (op_87 1477) (kd_win kM_1472 (j := 5) rfl rfl (Nat.le_of_ble_eq_true rfl)) (by decide +kernel)
theorem dL_law_1478 : decode cL_law 1478 = .ok (.goto 395, 3) := kd_row (b0 := 167) (bs := [1, 139]) (op_167 1478) (kd_win kM_1472 (j := 6) rfl rfl (Nat.le_of_ble_eq_true rfl)) (by decide +kernel)
theorem dL_law_1481 : decode cL_law 1481 = .ok (.aload_n 1, 1) := kd_row (b0 := 43) (bs := []) (op_43 1481) (kd_win kM_1472 (j := 9) rfl rfl (Nat.le_of_ble_eq_true rfl)) (by decide +kernel)
theorem dL_law_1482 : decode cL_law 1482 = .ok (.aload_n 0, 1) := kd_row (b0 := 42) (bs := []) (op_42 1482) (kd_win kM_1472 (j := 10) rfl rfl (Nat.le_of_ble_eq_true rfl)) (by decide +kernel)
theorem dL_law_1483 : decode cL_law 1483 = .ok (.iload 4, 2) := kd_row (b0 := 21) (bs := [4]) (op_21 1483) (kd_win kM_1472 (j := 11) rfl rfl (Nat.le_of_ble_eq_true rfl)) (by decide +kernel)
theorem dL_law_1485 : decode cL_law 1485 = .ok (.iconst 1, 1) := kd_row (b0 := 4) (bs := []) (op_4 1485) (kd_win kM_1472 (j := 13) rfl rfl (Nat.le_of_ble_eq_true rfl)) (by decide +kernel)
theorem dL_law_1486 : decode cL_law 1486 = .ok (.iadd, 1) := kd_row (b0 := 96) (bs := []) (op_96 1486) (kd_win kM_1472 (j := 14) rfl rfl (Nat.le_of_ble_eq_true rfl)) (by decide +kernel)
theorem dL_law_1487 : decode cL_law 1487 = .ok (.iaload, 1) := kd_row (b0 := 46) (bs := []) (op_46 1487) (kd_win kM_1472 (j := 15) rfl rfl (Nat.le_of_ble_eq_true rfl)) (by decide +kernel)
theorem dL_law_1488 : decode cL_law 1488 = .ok (.aload_n 0, 1) := kd_row (b0 := 42) (bs := []) (op_42 1488) (kd_win kM_1472 (j := 16) rfl rfl (Nat.le_of_ble_eq_true rfl)) (by decide +kernel)
theorem dL_law_1489 : decode cL_law 1489 = .ok (.iload 4, 2) := kd_row (b0 := 21) (bs := [4]) (op_21 1489) (kd_win kM_1472 (j := 17) rfl rfl (Nat.le_of_ble_eq_true rfl)) (by decide +kernel)
theorem dL_law_1491 : decode cL_law 1491 = .ok (.iconst 2, 1) := kd_row (b0 := 5) (bs := []) (op_5 1491) (kd_win kM_1472 (j := 19) rfl rfl (Nat.le_of_ble_eq_true rfl)) (by decide +kernel)
theorem dL_law_1492 : decode cL_law 1492 = .ok (.iadd, 1) := kd_row (b0 := 96) (bs := []) (op_96 1492) (kd_win kM_1472 (j := 20) rfl rfl (Nat.le_of_ble_eq_true rfl)) (by decide +kernel)
theorem dL_law_1493 : decode cL_law 1493 = .ok (.iaload, 1) := kd_row (b0 := 46) (bs := []) (op_46 1493) (kd_win kM_1472 (j := 21) rfl rfl (Nat.le_of_ble_eq_true rfl)) (by decide +kernel)
theorem dL_law_1494 : decode cL_law 1494 = .ok (.aload_n 3, 1) := kd_row (b0 := 45) (bs := []) (op_45 1494) (kd_win kM_1472 (j := 22) rfl rfl (Nat.le_of_ble_eq_true rfl)) (by decide +kernel)
theorem dL_law_1495 : decode cL_law 1495 = .ok (.invokestatic 257, 3) := kd_row (b0 := 184) (bs := [1, 1]) (op_184 1495) (kd_win kM_1472 (j := 23) rfl rfl (Nat.le_of_ble_eq_true rfl)) (by decide +kernel)
theorem dL_law_1498 : decode cL_law 1498 = .ok (.istore 5, 2) := kd_row (b0 := 54) (bs := [5]) (op_54 1498) (kd_win kM_1472 (j := 26) rfl rfl (Nat.le_of_ble_eq_true rfl)) (by decide +kernel)
theorem dL_law_1500 : decode cL_law 1500 = .ok (.aload_n 2, 1) := kd_row (b0 := 44) (bs := []) (op_44 1500) (kd_win kM_1472 (j := 28) rfl rfl (Nat.le_of_ble_eq_true rfl)) (by decide +kernel)
theorem dL_law_1501 : decode cL_law 1501 = .ok (.aload_n 0, 1) := kd_row (b0 := 42) (bs := []) (op_42 1501) (kd_win kM_1472 (j := 29) rfl rfl (Nat.le_of_ble_eq_true rfl)) (by decide +kernel)
theorem dL_law_1502 : decode cL_law 1502 = .ok (.iload 4, 2) := kd_row (b0 := 21) (bs := [4]) (op_21 1502) (kd_win kM_1472 (j := 30) rfl rfl (Nat.le_of_ble_eq_true rfl)) (by decide +kernel)
theorem dL_law_1504 : decode cL_law 1504 = .ok (.iconst 1, 1) := kd_row (b0 := 4) (bs := []) (op_4 1504) (kd_win kM_1472 (j := 32) rfl rfl (Nat.le_of_ble_eq_true rfl)) (by decide +kernel)
theorem dL_law_1505 : decode cL_law 1505 = .ok (.iadd, 1) := kd_row (b0 := 96) (bs := []) (op_96 1505) (kd_win kM_1472 (j := 33) rfl rfl (Nat.le_of_ble_eq_true rfl)) (by decide +kernel)
theorem dL_law_1506 : decode cL_law 1506 = .ok (.iaload, 1) := kd_row (b0 := 46) (bs := []) (op_46 1506) (kd_win kM_1472 (j := 34) rfl rfl (Nat.le_of_ble_eq_true rfl)) (by decide +kernel)
theorem dL_law_1507 : decode cL_law 1507 = .ok (.aload_n 0, 1) := kd_row (b0 := 42) (bs := []) (op_42 1507) (kd_win kM_1472 (j := 35) rfl rfl (Nat.le_of_ble_eq_true rfl)) (by decide +kernel)
theorem dL_law_1508 : decode cL_law 1508 = .ok (.iload 4, 2) := kd_row (b0 := 21) (bs := [4]) (op_21 1508) (kd_win kM_1472 (j := 36) rfl rfl (Nat.le_of_ble_eq_true rfl)) (by decide +kernel)
theorem dL_law_1510 : decode cL_law 1510 = .ok (.iconst 2, 1) := kd_row (b0 := 5) (bs := []) (op_5 1510) (kd_win kM_1472 (j := 38) rfl rfl (Nat.le_of_ble_eq_true rfl)) (by decide +kernel)
theorem dL_law_1511 : decode cL_law 1511 = .ok (.iadd, 1) := kd_row (b0 := 96) (bs := []) (op_96 1511) (kd_win kM_1472 (j := 39) rfl rfl (Nat.le_of_ble_eq_true rfl)) (by decide +kernel)
theorem dL_law_1512 : decode cL_law 1512 = .ok (.iaload, 1) := kd_row (b0 := 46) (bs := []) (op_46 1512) (kd_win kM_1472 (j := 40) rfl rfl (Nat.le_of_ble_eq_true rfl)) (by decide +kernel)
theorem dL_law_1513 : decode cL_law 1513 = .ok (.invokevirtual 259, 3) := kd_row (b0 := 182) (bs := [1, 3]) (op_182 1513) (kd_win kM_1472 (j := 41) rfl rfl (Nat.le_of_ble_eq_true rfl)) (by decide +kernel)
theorem dL_law_1516 : decode cL_law 1516 = .ok (.istore 6, 2) := kd_row (b0 := 54) (bs := [6]) (op_54 1516) (kd_win kM_1472 (j := 44) rfl rfl (Nat.le_of_ble_eq_true rfl)) (by decide +kernel)
theorem dL_law_1518 : decode cL_law 1518 = .ok (.goto 355, 3) := kd_row (b0 := 167) (bs := [1, 99]) (op_167 1518) (kd_win kM_1472 (j := 46) rfl rfl (Nat.le_of_ble_eq_true rfl)) (by decide +kernel)
theorem dL_law_1521 : decode cL_law 1521 = .ok (.aload_n 1, 1) := kd_row (b0 := 43) (bs := []) (op_43 1521) (kd_win kM_1472 (j := 49) rfl rfl (Nat.le_of_ble_eq_true rfl)) (by decide +kernel)
theorem dL_law_1522 : decode cL_law 1522 = .ok (.invokevirtual 260, 3) := kd_row (b0 := 182) (bs := [1, 4]) (op_182 1522) (kd_win kM_1472 (j := 50) rfl rfl (Nat.le_of_ble_eq_true rfl)) (by decide +kernel)
theorem dL_law_1525 : decode cL_law 1525 = .ok (.pop, 1) := kd_row (b0 := 87) (bs := []) (op_87 1525) (kd_win kM_1472 (j := 53) rfl rfl (Nat.le_of_ble_eq_true rfl)) (by decide +kernel)
theorem dL_law_1526 : decode cL_law 1526 = .ok (.aload_n 2, 1) := kd_row (b0 := 44) (bs := []) (op_44 1526) (kd_win kM_1472 (j := 54) rfl rfl (Nat.le_of_ble_eq_true rfl)) (by decide +kernel)
theorem dL_law_1527 : decode cL_law 1527 = .ok (.invokevirtual 263, 3) := kd_row (b0 := 182) (bs := [1, 7]) (op_182 1527) (kd_win kM_1472 (j := 55) rfl rfl (Nat.le_of_ble_eq_true rfl)) (by decide +kernel)
theorem dL_law_1530 : decode cL_law 1530 = .ok (.pop, 1) := kd_row (b0 := 87) (bs := []) (op_87 1530) (kd_win kM_1472 (j := 58) rfl rfl (Nat.le_of_ble_eq_true rfl)) (by decide +kernel)
theorem dL_law_1531 : decode cL_law 1531 = .ok (.goto 342, 3) := kd_row (b0 := 167) (bs := [1, 86]) (op_167 1531) (kd_win kM_1472 (j := 59) rfl rfl (Nat.le_of_ble_eq_true rfl)) (by decide +kernel)
theorem dL_law_1534 : decode cL_law 1534 = .ok (.aload_n 1, 1) := kd_row (b0 := 43) (bs := []) (op_43 1534) (kd_win kM_1472 (j := 62) rfl rfl (Nat.le_of_ble_eq_true rfl)) (by decide +kernel)
theorem dL_law_1535 : decode cL_law 1535 = .ok (.aload_n 0, 1) := kd_row (b0 := 42) (bs := []) (op_42 1535) (kd_win kM_1472 (j := 63) rfl rfl (Nat.le_of_ble_eq_true rfl)) (by decide +kernel)
theorem dL_law_1536 : decode cL_law 1536 = .ok (.iload 4, 2) := kd_row (b0 := 21) (bs := [4]) (op_21 1536) (kd_win kM_1536 (j := 0) rfl rfl (Nat.le_of_ble_eq_true rfl)) (by decide +kernel)
theorem dL_law_1538 : decode cL_law 1538 = .ok (.iconst 1, 1) := kd_row (b0 := 4) (bs := []) (op_4 1538) (kd_win kM_1536 (j := 2) rfl rfl (Nat.le_of_ble_eq_true rfl)) (by decide +kernel)
theorem dL_law_1539 : decode cL_law 1539 = .ok (.iadd, 1) := kd_row (b0 := 96) (bs := []) (op_96 1539) (kd_win kM_1536 (j := 3) rfl rfl (Nat.le_of_ble_eq_true rfl)) (by decide +kernel)
theorem dL_law_1540 : decode cL_law 1540 = .ok (.iaload, 1) := kd_row (b0 := 46) (bs := []) (op_46 1540) (kd_win kM_1536 (j := 4) rfl rfl (Nat.le_of_ble_eq_true rfl)) (by decide +kernel)
theorem dL_law_1541 : decode cL_law 1541 = .ok (.aload_n 0, 1) := kd_row (b0 := 42) (bs := []) (op_42 1541) (kd_win kM_1536 (j := 5) rfl rfl (Nat.le_of_ble_eq_true rfl)) (by decide +kernel)
theorem dL_law_1542 : decode cL_law 1542 = .ok (.iload 4, 2) := kd_row (b0 := 21) (bs := [4]) (op_21 1542) (kd_win kM_1536 (j := 6) rfl rfl (Nat.le_of_ble_eq_true rfl)) (by decide +kernel)
theorem dL_law_1544 : decode cL_law 1544 = .ok (.iconst 2, 1) := kd_row (b0 := 5) (bs := []) (op_5 1544) (kd_win kM_1536 (j := 8) rfl rfl (Nat.le_of_ble_eq_true rfl)) (by decide +kernel)
theorem dL_law_1545 : decode cL_law 1545 = .ok (.iadd, 1) := kd_row (b0 := 96) (bs := []) (op_96 1545) (kd_win kM_1536 (j := 9) rfl rfl (Nat.le_of_ble_eq_true rfl)) (by decide +kernel)
theorem dL_law_1546 : decode cL_law 1546 = .ok (.iaload, 1) := kd_row (b0 := 46) (bs := []) (op_46 1546) (kd_win kM_1536 (j := 10) rfl rfl (Nat.le_of_ble_eq_true rfl)) (by decide +kernel)
theorem dL_law_1547 : decode cL_law 1547 = .ok (.aload_n 3, 1) := kd_row (b0 := 45) (bs := []) (op_45 1547) (kd_win kM_1536 (j := 11) rfl rfl (Nat.le_of_ble_eq_true rfl)) (by decide +kernel)
theorem dL_law_1548 : decode cL_law 1548 = .ok (.invokestatic 264, 3) := kd_row (b0 := 184) (bs := [1, 8]) (op_184 1548) (kd_win kM_1536 (j := 12) rfl rfl (Nat.le_of_ble_eq_true rfl)) (by decide +kernel)
theorem dL_law_1551 : decode cL_law 1551 = .ok (.istore 5, 2) := kd_row (b0 := 54) (bs := [5]) (op_54 1551) (kd_win kM_1536 (j := 15) rfl rfl (Nat.le_of_ble_eq_true rfl)) (by decide +kernel)
theorem dL_law_1553 : decode cL_law 1553 = .ok (.aload_n 2, 1) := kd_row (b0 := 44) (bs := []) (op_44 1553) (kd_win kM_1536 (j := 17) rfl rfl (Nat.le_of_ble_eq_true rfl)) (by decide +kernel)
theorem dL_law_1554 : decode cL_law 1554 = .ok (.aload_n 0, 1) := kd_row (b0 := 42) (bs := []) (op_42 1554) (kd_win kM_1536 (j := 18) rfl rfl (Nat.le_of_ble_eq_true rfl)) (by decide +kernel)
theorem dL_law_1555 : decode cL_law 1555 = .ok (.iload 4, 2) := kd_row (b0 := 21) (bs := [4]) (op_21 1555) (kd_win kM_1536 (j := 19) rfl rfl (Nat.le_of_ble_eq_true rfl)) (by decide +kernel)
theorem dL_law_1557 : decode cL_law 1557 = .ok (.iconst 1, 1) := kd_row (b0 := 4) (bs := []) (op_4 1557) (kd_win kM_1536 (j := 21) rfl rfl (Nat.le_of_ble_eq_true rfl)) (by decide +kernel)
theorem dL_law_1558 : decode cL_law 1558 = .ok (.iadd, 1) := kd_row (b0 := 96) (bs := []) (op_96 1558) (kd_win kM_1536 (j := 22) rfl rfl (Nat.le_of_ble_eq_true rfl)) (by decide +kernel)
theorem dL_law_1559 : decode cL_law 1559 = .ok (.iaload, 1) := kd_row (b0 := 46) (bs := []) (op_46 1559) (kd_win kM_1536 (j := 23) rfl rfl (Nat.le_of_ble_eq_true rfl)) (by decide +kernel)
theorem dL_law_1560 : decode cL_law 1560 = .ok (.aload_n 0, 1) := kd_row (b0 := 42) (bs := []) (op_42 1560) (kd_win kM_1536 (j := 24) rfl rfl (Nat.le_of_ble_eq_true rfl)) (by decide +kernel)
theorem dL_law_1561 : decode cL_law 1561 = .ok (.iload 4, 2) := kd_row (b0 := 21) (bs := [4]) (op_21 1561) (kd_win kM_1536 (j := 25) rfl rfl (Nat.le_of_ble_eq_true rfl)) (by decide +kernel)
theorem dL_law_1563 : decode cL_law 1563 = .ok (.iconst 2, 1) := kd_row (b0 := 5) (bs := []) (op_5 1563) (kd_win kM_1536 (j := 27) rfl rfl (Nat.le_of_ble_eq_true rfl)) (by decide +kernel)
theorem dL_law_1564 : decode cL_law 1564 = .ok (.iadd, 1) := kd_row (b0 := 96) (bs := []) (op_96 1564) (kd_win kM_1536 (j := 28) rfl rfl (Nat.le_of_ble_eq_true rfl)) (by decide +kernel)
theorem dL_law_1565 : decode cL_law 1565 = .ok (.iaload, 1) := kd_row (b0 := 46) (bs := []) (op_46 1565) (kd_win kM_1536 (j := 29) rfl rfl (Nat.le_of_ble_eq_true rfl)) (by decide +kernel)
theorem dL_law_1566 : decode cL_law 1566 = .ok (.invokevirtual 266, 3) := kd_row (b0 := 182) (bs := [1, 10]) (op_182 1566) (kd_win kM_1536 (j := 30) rfl rfl (Nat.le_of_ble_eq_true rfl)) (by decide +kernel)
theorem dL_law_1569 : decode cL_law 1569 = .ok (.istore 6, 2) := kd_row (b0 := 54) (bs := [6]) (op_54 1569) (kd_win kM_1536 (j := 33) rfl rfl (Nat.le_of_ble_eq_true rfl)) (by decide +kernel)
theorem dL_law_1571 : decode cL_law 1571 = .ok (.goto 302, 3) := kd_row (b0 := 167) (bs := [1, 46]) (op_167 1571) (kd_win kM_1536 (j := 35) rfl rfl (Nat.le_of_ble_eq_true rfl)) (by decide +kernel)
theorem dL_law_1574 : decode cL_law 1574 = .ok (.aload_n 1, 1) := kd_row (b0 := 43) (bs := []) (op_43 1574) (kd_win kM_1536 (j := 38) rfl rfl (Nat.le_of_ble_eq_true rfl)) (by decide +kernel)
theorem dL_law_1575 : decode cL_law 1575 = .ok (.aload_n 0, 1) := kd_row (b0 := 42) (bs := []) (op_42 1575) (kd_win kM_1536 (j := 39) rfl rfl (Nat.le_of_ble_eq_true rfl)) (by decide +kernel)
theorem dL_law_1576 : decode cL_law 1576 = .ok (.iload 4, 2) := kd_row (b0 := 21) (bs := [4]) (op_21 1576) (kd_win kM_1536 (j := 40) rfl rfl (Nat.le_of_ble_eq_true rfl)) (by decide +kernel)
theorem dL_law_1578 : decode cL_law 1578 = .ok (.iconst 1, 1) := kd_row (b0 := 4) (bs := []) (op_4 1578) (kd_win kM_1536 (j := 42) rfl rfl (Nat.le_of_ble_eq_true rfl)) (by decide +kernel)
theorem dL_law_1579 : decode cL_law 1579 = .ok (.iadd, 1) := kd_row (b0 := 96) (bs := []) (op_96 1579) (kd_win kM_1536 (j := 43) rfl rfl (Nat.le_of_ble_eq_true rfl)) (by decide +kernel)
theorem dL_law_1580 : decode cL_law 1580 = .ok (.iaload, 1) := kd_row (b0 := 46) (bs := []) (op_46 1580) (kd_win kM_1536 (j := 44) rfl rfl (Nat.le_of_ble_eq_true rfl)) (by decide +kernel)
theorem dL_law_1581 : decode cL_law 1581 = .ok (.aload_n 3, 1) := kd_row (b0 := 45) (bs := []) (op_45 1581) (kd_win kM_1536 (j := 45) rfl rfl (Nat.le_of_ble_eq_true rfl)) (by decide +kernel)
theorem dL_law_1582 : decode cL_law 1582 = .ok (.invokestatic 267, 3) := kd_row (b0 := 184) (bs := [1, 11]) (op_184 1582) (kd_win kM_1536 (j := 46) rfl rfl (Nat.le_of_ble_eq_true rfl)) (by decide +kernel)
theorem dL_law_1585 : decode cL_law 1585 = .ok (.istore 5, 2) := kd_row (b0 := 54) (bs := [5]) (op_54 1585) (kd_win kM_1536 (j := 49) rfl rfl (Nat.le_of_ble_eq_true rfl)) (by decide +kernel)
theorem dL_law_1587 : decode cL_law 1587 = .ok (.aload_n 2, 1) := kd_row (b0 := 44) (bs := []) (op_44 1587) (kd_win kM_1536 (j := 51) rfl rfl (Nat.le_of_ble_eq_true rfl)) (by decide +kernel)
theorem dL_law_1588 : decode cL_law 1588 = .ok (.aload_n 0, 1) := kd_row (b0 := 42) (bs := []) (op_42 1588) (kd_win kM_1536 (j := 52) rfl rfl (Nat.le_of_ble_eq_true rfl)) (by decide +kernel)
theorem dL_law_1589 : decode cL_law 1589 = .ok (.iload 4, 2) := kd_row (b0 := 21) (bs := [4]) (op_21 1589) (kd_win kM_1536 (j := 53) rfl rfl (Nat.le_of_ble_eq_true rfl)) (by decide +kernel)
theorem dL_law_1591 : decode cL_law 1591 = .ok (.iconst 1, 1) := kd_row (b0 := 4) (bs := []) (op_4 1591) (kd_win kM_1536 (j := 55) rfl rfl (Nat.le_of_ble_eq_true rfl)) (by decide +kernel)
theorem dL_law_1592 : decode cL_law 1592 = .ok (.iadd, 1) := kd_row (b0 := 96) (bs := []) (op_96 1592) (kd_win kM_1536 (j := 56) rfl rfl (Nat.le_of_ble_eq_true rfl)) (by decide +kernel)
theorem dL_law_1593 : decode cL_law 1593 = .ok (.iaload, 1) := kd_row (b0 := 46) (bs := []) (op_46 1593) (kd_win kM_1536 (j := 57) rfl rfl (Nat.le_of_ble_eq_true rfl)) (by decide +kernel)
theorem dL_law_1594 : decode cL_law 1594 = .ok (.invokevirtual 269, 3) := kd_row (b0 := 182) (bs := [1, 13]) (op_182 1594) (kd_win kM_1536 (j := 58) rfl rfl (Nat.le_of_ble_eq_true rfl)) (by decide +kernel)
theorem dL_law_1597 : decode cL_law 1597 = .ok (.istore 6, 2) := kd_row (b0 := 54) (bs := [6]) (op_54 1597) (kd_win kM_1536 (j := 61) rfl rfl (Nat.le_of_ble_eq_true rfl)) (by decide +kernel)
theorem dL_law_1599 : decode cL_law 1599 = .ok (.goto 274, 3) := kd_row (b0 := 167) (bs := [1, 18]) (op_167 1599) (kd_win kM_1536 (j := 63) rfl rfl (Nat.le_of_ble_eq_true rfl)) (by decide +kernel)
theorem dL_law_1602 : decode cL_law 1602 = .ok (.aload_n 1, 1) := kd_row (b0 := 43) (bs := []) (op_43 1602) (kd_win kM_1600 (j := 2) rfl rfl (Nat.le_of_ble_eq_true rfl)) (by decide +kernel)
theorem dL_law_1603 : decode cL_law 1603 = .ok (.aload_n 0, 1) := kd_row (b0 := 42) (bs := []) (op_42 1603) (kd_win kM_1600 (j := 3) rfl rfl (Nat.le_of_ble_eq_true rfl)) (by decide +kernel)
theorem dL_law_1604 : decode cL_law 1604 = .ok (.iload 4, 2) := kd_row (b0 := 21) (bs := [4]) (op_21 1604) (kd_win kM_1600 (j := 4) rfl rfl (Nat.le_of_ble_eq_true rfl)) (by decide +kernel)
theorem dL_law_1606 : decode cL_law 1606 = .ok (.iconst 1, 1) := kd_row (b0 := 4) (bs := []) (op_4 1606) (kd_win kM_1600 (j := 6) rfl rfl (Nat.le_of_ble_eq_true rfl)) (by decide +kernel)
theorem dL_law_1607 : decode cL_law 1607 = .ok (.iadd, 1) := kd_row (b0 := 96) (bs := []) (op_96 1607) (kd_win kM_1600 (j := 7) rfl rfl (Nat.le_of_ble_eq_true rfl)) (by decide +kernel)
theorem dL_law_1608 : decode cL_law 1608 = .ok (.iaload, 1) := kd_row (b0 := 46) (bs := []) (op_46 1608) (kd_win kM_1600 (j := 8) rfl rfl (Nat.le_of_ble_eq_true rfl)) (by decide +kernel)
theorem dL_law_1609 : decode cL_law 1609 = .ok (.aload_n 3, 1) := kd_row (b0 := 45) (bs := []) (op_45 1609) (kd_win kM_1600 (j := 9) rfl rfl (Nat.le_of_ble_eq_true rfl)) (by decide +kernel)
theorem dL_law_1610 : decode cL_law 1610 = .ok (.invokestatic 270, 3) := kd_row (b0 := 184) (bs := [1, 14]) (op_184 1610) (kd_win kM_1600 (j := 10) rfl rfl (Nat.le_of_ble_eq_true rfl)) (by decide +kernel)
theorem dL_law_1613 : decode cL_law 1613 = .ok (.istore 5, 2) := kd_row (b0 := 54) (bs := [5]) (op_54 1613) (kd_win kM_1600 (j := 13) rfl rfl (Nat.le_of_ble_eq_true rfl)) (by decide +kernel)
theorem dL_law_1615 : decode cL_law 1615 = .ok (.aload_n 2, 1) := kd_row (b0 := 44) (bs := []) (op_44 1615) (kd_win kM_1600 (j := 15) rfl rfl (Nat.le_of_ble_eq_true rfl)) (by decide +kernel)
theorem dL_law_1616 : decode cL_law 1616 = .ok (.aload_n 0, 1) := kd_row (b0 := 42) (bs := []) (op_42 1616) (kd_win kM_1600 (j := 16) rfl rfl (Nat.le_of_ble_eq_true rfl)) (by decide +kernel)
theorem dL_law_1617 : decode cL_law 1617 = .ok (.iload 4, 2) := kd_row (b0 := 21) (bs := [4]) (op_21 1617) (kd_win kM_1600 (j := 17) rfl rfl (Nat.le_of_ble_eq_true rfl)) (by decide +kernel)
theorem dL_law_1619 : decode cL_law 1619 = .ok (.iconst 1, 1) := kd_row (b0 := 4) (bs := []) (op_4 1619) (kd_win kM_1600 (j := 19) rfl rfl (Nat.le_of_ble_eq_true rfl)) (by decide +kernel)
theorem dL_law_1620 : decode cL_law 1620 = .ok (.iadd, 1) := kd_row (b0 := 96) (bs := []) (op_96 1620) (kd_win kM_1600 (j := 20) rfl rfl (Nat.le_of_ble_eq_true rfl)) (by decide +kernel)
theorem dL_law_1621 : decode cL_law 1621 = .ok (.iaload, 1) := kd_row (b0 := 46) (bs := []) (op_46 1621) (kd_win kM_1600 (j := 21) rfl rfl (Nat.le_of_ble_eq_true rfl)) (by decide +kernel)
theorem dL_law_1622 : decode cL_law 1622 = .ok (.invokevirtual 272, 3) := kd_row (b0 := 182) (bs := [1, 16]) (op_182 1622) (kd_win kM_1600 (j := 22) rfl rfl (Nat.le_of_ble_eq_true rfl)) (by decide +kernel)
theorem dL_law_1625 : decode cL_law 1625 = .ok (.istore 6, 2) := kd_row (b0 := 54) (bs := [6]) (op_54 1625) (kd_win kM_1600 (j := 25) rfl rfl (Nat.le_of_ble_eq_true rfl)) (by decide +kernel)
theorem dL_law_1627 : decode cL_law 1627 = .ok (.goto 246, 3) := kd_row (b0 := 167) (bs := [0, 246]) (op_167 1627) (kd_win kM_1600 (j := 27) rfl rfl (Nat.le_of_ble_eq_true rfl)) (by decide +kernel)
theorem dL_law_1630 : decode cL_law 1630 = .ok (.aload_n 1, 1) := kd_row (b0 := 43) (bs := []) (op_43 1630) (kd_win kM_1600 (j := 30) rfl rfl (Nat.le_of_ble_eq_true rfl)) (by decide +kernel)
theorem dL_law_1631 : decode cL_law 1631 = .ok (.invokevirtual 273, 3) := kd_row (b0 := 182) (bs := [1, 17]) (op_182 1631) (kd_win kM_1600 (j := 31) rfl rfl (Nat.le_of_ble_eq_true rfl)) (by decide +kernel)
theorem dL_law_1634 : decode cL_law 1634 = .ok (.pop, 1) := kd_row (b0 := 87) (bs := []) (op_87 1634) (kd_win kM_1600 (j := 34) rfl rfl (Nat.le_of_ble_eq_true rfl)) (by decide +kernel)
theorem dL_law_1635 : decode cL_law 1635 = .ok (.aload_n 2, 1) := kd_row (b0 := 44) (bs := []) (op_44 1635) (kd_win kM_1600 (j := 35) rfl rfl (Nat.le_of_ble_eq_true rfl)) (by decide +kernel)
theorem dL_law_1636 : decode cL_law 1636 = .ok (.invokevirtual 276, 3) := kd_row (b0 := 182) (bs := [1, 20]) (op_182 1636) (kd_win kM_1600 (j := 36) rfl rfl (Nat.le_of_ble_eq_true rfl)) (by decide +kernel)
theorem dL_law_1639 : decode cL_law 1639 = .ok (.pop, 1) := kd_row (b0 := 87) (bs := []) (op_87 1639) (kd_win kM_1600 (j := 39) rfl rfl (Nat.le_of_ble_eq_true rfl)) (by decide +kernel)
theorem dL_law_1640 : decode cL_law 1640 = .ok (.goto 233, 3) := kd_row (b0 := 167) (bs := [0, 233]) (op_167 1640) (kd_win kM_1600 (j := 40) rfl rfl (Nat.le_of_ble_eq_true rfl)) (by decide +kernel)
theorem dL_law_1643 : decode cL_law 1643 = .ok (.aload_n 1, 1) := kd_row (b0 := 43) (bs := []) (op_43 1643) (kd_win kM_1600 (j := 43) rfl rfl (Nat.le_of_ble_eq_true rfl)) (by decide +kernel)
theorem dL_law_1644 : decode cL_law 1644 = .ok (.aload_n 0, 1) := kd_row (b0 := 42) (bs := []) (op_42 1644) (kd_win kM_1600 (j := 44) rfl rfl (Nat.le_of_ble_eq_true rfl)) (by decide +kernel)
theorem dL_law_1645 : decode cL_law 1645 = .ok (.iload 4, 2) := kd_row (b0 := 21) (bs := [4]) (op_21 1645) (kd_win kM_1600 (j := 45) rfl rfl (Nat.le_of_ble_eq_true rfl)) (by decide +kernel)
theorem dL_law_1647 : decode cL_law 1647 = .ok (.iconst 1, 1) := kd_row (b0 := 4) (bs := []) (op_4 1647) (kd_win kM_1600 (j := 47) rfl rfl (Nat.le_of_ble_eq_true rfl)) (by decide +kernel)
theorem dL_law_1648 : decode cL_law 1648 = .ok (.iadd, 1) := kd_row (b0 := 96) (bs := []) (op_96 1648) (kd_win kM_1600 (j := 48) rfl rfl (Nat.le_of_ble_eq_true rfl)) (by decide +kernel)
theorem dL_law_1649 : decode cL_law 1649 = .ok (.iaload, 1) := kd_row (b0 := 46) (bs := []) (op_46 1649) (kd_win kM_1600 (j := 49) rfl rfl (Nat.le_of_ble_eq_true rfl)) (by decide +kernel)
theorem dL_law_1650 : decode cL_law 1650 = .ok (.aload_n 0, 1) := kd_row (b0 := 42) (bs := []) (op_42 1650) (kd_win kM_1600 (j := 50) rfl rfl (Nat.le_of_ble_eq_true rfl)) (by decide +kernel)
theorem dL_law_1651 : decode cL_law 1651 = .ok (.iload 4, 2) := kd_row (b0 := 21) (bs := [4]) (op_21 1651) (kd_win kM_1600 (j := 51) rfl rfl (Nat.le_of_ble_eq_true rfl)) (by decide +kernel)
theorem dL_law_1653 : decode cL_law 1653 = .ok (.iconst 2, 1) := kd_row (b0 := 5) (bs := []) (op_5 1653) (kd_win kM_1600 (j := 53) rfl rfl (Nat.le_of_ble_eq_true rfl)) (by decide +kernel)
theorem dL_law_1654 : decode cL_law 1654 = .ok (.iadd, 1) := kd_row (b0 := 96) (bs := []) (op_96 1654) (kd_win kM_1600 (j := 54) rfl rfl (Nat.le_of_ble_eq_true rfl)) (by decide +kernel)
theorem dL_law_1655 : decode cL_law 1655 = .ok (.iaload, 1) := kd_row (b0 := 46) (bs := []) (op_46 1655) (kd_win kM_1600 (j := 55) rfl rfl (Nat.le_of_ble_eq_true rfl)) (by decide +kernel)
theorem dL_law_1656 : decode cL_law 1656 = .ok (.aload_n 3, 1) := kd_row (b0 := 45) (bs := []) (op_45 1656) (kd_win kM_1600 (j := 56) rfl rfl (Nat.le_of_ble_eq_true rfl)) (by decide +kernel)
theorem dL_law_1657 : decode cL_law 1657 = .ok (.invokestatic 277, 3) := kd_row (b0 := 184) (bs := [1, 21]) (op_184 1657) (kd_win kM_1600 (j := 57) rfl rfl (Nat.le_of_ble_eq_true rfl)) (by decide +kernel)
theorem dL_law_1660 : decode cL_law 1660 = .ok (.istore 5, 2) := kd_row (b0 := 54) (bs := [5]) (op_54 1660) (kd_win kM_1600 (j := 60) rfl rfl (Nat.le_of_ble_eq_true rfl)) (by decide +kernel)
theorem dL_law_1662 : decode cL_law 1662 = .ok (.aload_n 2, 1) := kd_row (b0 := 44) (bs := []) (op_44 1662) (kd_win kM_1600 (j := 62) rfl rfl (Nat.le_of_ble_eq_true rfl)) (by decide +kernel)
theorem dL_law_1663 : decode cL_law 1663 = .ok (.aload_n 0, 1) := kd_row (b0 := 42) (bs := []) (op_42 1663) (kd_win kM_1600 (j := 63) rfl rfl (Nat.le_of_ble_eq_true rfl)) (by decide +kernel)
theorem dL_law_1664 : decode cL_law 1664 = .ok (.iload 4, 2) := kd_row (b0 := 21) (bs := [4]) (op_21 1664) (kd_win kM_1664 (j := 0) rfl rfl (Nat.le_of_ble_eq_true rfl)) (by decide +kernel)
theorem dL_law_1666 : decode cL_law 1666 = .ok (.iconst 1, 1) := kd_row (b0 := 4) (bs := []) (op_4 1666) (kd_win kM_1664 (j := 2) rfl rfl (Nat.le_of_ble_eq_true rfl)) (by decide +kernel)
theorem dL_law_1667 : decode cL_law 1667 = .ok (.iadd, 1) := kd_row (b0 := 96) (bs := []) (op_96 1667) (kd_win kM_1664 (j := 3) rfl rfl (Nat.le_of_ble_eq_true rfl)) (by decide +kernel)
theorem dL_law_1668 : decode cL_law 1668 = .ok (.iaload, 1) := kd_row (b0 := 46) (bs := []) (op_46 1668) (kd_win kM_1664 (j := 4) rfl rfl (Nat.le_of_ble_eq_true rfl)) (by decide +kernel)
theorem dL_law_1669 : decode cL_law 1669 = .ok (.aload_n 0, 1) := kd_row (b0 := 42) (bs := []) (op_42 1669) (kd_win kM_1664 (j := 5) rfl rfl (Nat.le_of_ble_eq_true rfl)) (by decide +kernel)
theorem dL_law_1670 : decode cL_law 1670 = .ok (.iload 4, 2) := kd_row (b0 := 21) (bs := [4]) (op_21 1670) (kd_win kM_1664 (j := 6) rfl rfl (Nat.le_of_ble_eq_true rfl)) (by decide +kernel)
theorem dL_law_1672 : decode cL_law 1672 = .ok (.iconst 2, 1) := kd_row (b0 := 5) (bs := []) (op_5 1672) (kd_win kM_1664 (j := 8) rfl rfl (Nat.le_of_ble_eq_true rfl)) (by decide +kernel)
theorem dL_law_1673 : decode cL_law 1673 = .ok (.iadd, 1) := kd_row (b0 := 96) (bs := []) (op_96 1673) (kd_win kM_1664 (j := 9) rfl rfl (Nat.le_of_ble_eq_true rfl)) (by decide +kernel)
theorem dL_law_1674 : decode cL_law 1674 = .ok (.iaload, 1) := kd_row (b0 := 46) (bs := []) (op_46 1674) (kd_win kM_1664 (j := 10) rfl rfl (Nat.le_of_ble_eq_true rfl)) (by decide +kernel)
theorem dL_law_1675 : decode cL_law 1675 = .ok (.invokevirtual 279, 3) := kd_row (b0 := 182) (bs := [1, 23]) (op_182 1675) (kd_win kM_1664 (j := 11) rfl rfl (Nat.le_of_ble_eq_true rfl)) (by decide +kernel)
theorem dL_law_1678 : decode cL_law 1678 = .ok (.istore 6, 2) := kd_row (b0 := 54) (bs := [6]) (op_54 1678) (kd_win kM_1664 (j := 14) rfl rfl (Nat.le_of_ble_eq_true rfl)) (by decide +kernel)
theorem dL_law_1680 : decode cL_law 1680 = .ok (.goto 193, 3) := kd_row (b0 := 167) (bs := [0, 193]) (op_167 1680) (kd_win kM_1664 (j := 16) rfl rfl (Nat.le_of_ble_eq_true rfl)) (by decide +kernel)
theorem dL_law_1683 : decode cL_law 1683 = .ok (.aload_n 1, 1) := kd_row (b0 := 43) (bs := []) (op_43 1683) (kd_win kM_1664 (j := 19) rfl rfl (Nat.le_of_ble_eq_true rfl)) (by decide +kernel)
theorem dL_law_1684 : decode cL_law 1684 = .ok (.aload_n 0, 1) := kd_row (b0 := 42) (bs := []) (op_42 1684) (kd_win kM_1664 (j := 20) rfl rfl (Nat.le_of_ble_eq_true rfl)) (by decide +kernel)
theorem dL_law_1685 : decode cL_law 1685 = .ok (.iload 4, 2) := kd_row (b0 := 21) (bs := [4]) (op_21 1685) (kd_win kM_1664 (j := 21) rfl rfl (Nat.le_of_ble_eq_true rfl)) (by decide +kernel)
theorem dL_law_1687 : decode cL_law 1687 = .ok (.iconst 1, 1) := kd_row (b0 := 4) (bs := []) (op_4 1687) (kd_win kM_1664 (j := 23) rfl rfl (Nat.le_of_ble_eq_true rfl)) (by decide +kernel)
theorem dL_law_1688 : decode cL_law 1688 = .ok (.iadd, 1) := kd_row (b0 := 96) (bs := []) (op_96 1688) (kd_win kM_1664 (j := 24) rfl rfl (Nat.le_of_ble_eq_true rfl)) (by decide +kernel)
theorem dL_law_1689 : decode cL_law 1689 = .ok (.iaload, 1) := kd_row (b0 := 46) (bs := []) (op_46 1689) (kd_win kM_1664 (j := 25) rfl rfl (Nat.le_of_ble_eq_true rfl)) (by decide +kernel)
theorem dL_law_1690 : decode cL_law 1690 = .ok (.aload_n 3, 1) := kd_row (b0 := 45) (bs := []) (op_45 1690) (kd_win kM_1664 (j := 26) rfl rfl (Nat.le_of_ble_eq_true rfl)) (by decide +kernel)
theorem dL_law_1691 : decode cL_law 1691 = .ok (.invokestatic 280, 3) := kd_row (b0 := 184) (bs := [1, 24]) (op_184 1691) (kd_win kM_1664 (j := 27) rfl rfl (Nat.le_of_ble_eq_true rfl)) (by decide +kernel)
theorem dL_law_1694 : decode cL_law 1694 = .ok (.istore 5, 2) := kd_row (b0 := 54) (bs := [5]) (op_54 1694) (kd_win kM_1664 (j := 30) rfl rfl (Nat.le_of_ble_eq_true rfl)) (by decide +kernel)
theorem dL_law_1696 : decode cL_law 1696 = .ok (.aload_n 2, 1) := kd_row (b0 := 44) (bs := []) (op_44 1696) (kd_win kM_1664 (j := 32) rfl rfl (Nat.le_of_ble_eq_true rfl)) (by decide +kernel)
theorem dL_law_1697 : decode cL_law 1697 = .ok (.aload_n 0, 1) := kd_row (b0 := 42) (bs := []) (op_42 1697) (kd_win kM_1664 (j := 33) rfl rfl (Nat.le_of_ble_eq_true rfl)) (by decide +kernel)
theorem dL_law_1698 : decode cL_law 1698 = .ok (.iload 4, 2) := kd_row (b0 := 21) (bs := [4]) (op_21 1698) (kd_win kM_1664 (j := 34) rfl rfl (Nat.le_of_ble_eq_true rfl)) (by decide +kernel)
theorem dL_law_1700 : decode cL_law 1700 = .ok (.iconst 1, 1) := kd_row (b0 := 4) (bs := []) (op_4 1700) (kd_win kM_1664 (j := 36) rfl rfl (Nat.le_of_ble_eq_true rfl)) (by decide +kernel)
theorem dL_law_1701 : decode cL_law 1701 = .ok (.iadd, 1) := kd_row (b0 := 96) (bs := []) (op_96 1701) (kd_win kM_1664 (j := 37) rfl rfl (Nat.le_of_ble_eq_true rfl)) (by decide +kernel)
theorem dL_law_1702 : decode cL_law 1702 = .ok (.iaload, 1) := kd_row (b0 := 46) (bs := []) (op_46 1702) (kd_win kM_1664 (j := 38) rfl rfl (Nat.le_of_ble_eq_true rfl)) (by decide +kernel)
theorem dL_law_1703 : decode cL_law 1703 = .ok (.invokevirtual 282, 3) := kd_row (b0 := 182) (bs := [1, 26]) (op_182 1703) (kd_win kM_1664 (j := 39) rfl rfl (Nat.le_of_ble_eq_true rfl)) (by decide +kernel)
theorem dL_law_1706 : decode cL_law 1706 = .ok (.istore 6, 2) := kd_row (b0 := 54) (bs := [6]) (op_54 1706) (kd_win kM_1664 (j := 42) rfl rfl (Nat.le_of_ble_eq_true rfl)) (by decide +kernel)
theorem dL_law_1708 : decode cL_law 1708 = .ok (.goto 165, 3) := kd_row (b0 := 167) (bs := [0, 165]) (op_167 1708) (kd_win kM_1664 (j := 44) rfl rfl (Nat.le_of_ble_eq_true rfl)) (by decide +kernel)
theorem dL_law_1711 : decode cL_law 1711 = .ok (.aload_n 1, 1) := kd_row (b0 := 43) (bs := []) (op_43 1711) (kd_win kM_1664 (j := 47) rfl rfl (Nat.le_of_ble_eq_true rfl)) (by decide +kernel)
theorem dL_law_1712 : decode cL_law 1712 = .ok (.invokevirtual 283, 3) := kd_row (b0 := 182) (bs := [1, 27]) (op_182 1712) (kd_win kM_1664 (j := 48) rfl rfl (Nat.le_of_ble_eq_true rfl)) (by decide +kernel)
theorem dL_law_1715 : decode cL_law 1715 = .ok (.pop, 1) := kd_row (b0 := 87) (bs := []) (op_87 1715) (kd_win kM_1664 (j := 51) rfl rfl (Nat.le_of_ble_eq_true rfl)) (by decide +kernel)
theorem dL_law_1716 : decode cL_law 1716 = .ok (.aload_n 2, 1) := kd_row (b0 := 44) (bs := []) (op_44 1716) (kd_win kM_1664 (j := 52) rfl rfl (Nat.le_of_ble_eq_true rfl)) (by decide +kernel)
theorem dL_law_1717 : decode cL_law 1717 = .ok (.invokevirtual 286, 3) := kd_row (b0 := 182) (bs := [1, 30]) (op_182 1717) (kd_win kM_1664 (j := 53) rfl rfl (Nat.le_of_ble_eq_true rfl)) (by decide +kernel)
theorem dL_law_1720 : decode cL_law 1720 = .ok (.pop, 1) := kd_row (b0 := 87) (bs := []) (op_87 1720) (kd_win kM_1664 (j := 56) rfl rfl (Nat.le_of_ble_eq_true rfl)) (by decide +kernel)
theorem dL_law_1721 : decode cL_law 1721 = .ok (.goto 152, 3) := kd_row (b0 := 167) (bs := [0, 152]) (op_167 1721) (kd_win kM_1664 (j := 57) rfl rfl (Nat.le_of_ble_eq_true rfl)) (by decide +kernel)
theorem dL_law_1724 : decode cL_law 1724 = .ok (.aload_n 1, 1) := kd_row (b0 := 43) (bs := []) (op_43 1724) (kd_win kM_1664 (j := 60) rfl rfl (Nat.le_of_ble_eq_true rfl)) (by decide +kernel)
theorem dL_law_1725 : decode cL_law 1725 = .ok (.aload_n 0, 1) := kd_row (b0 := 42) (bs := []) (op_42 1725) (kd_win kM_1664 (j := 61) rfl rfl (Nat.le_of_ble_eq_true rfl)) (by decide +kernel)
theorem dL_law_1726 : decode cL_law 1726 = .ok (.iload 4, 2) := kd_row (b0 := 21) (bs := [4]) (op_21 1726) (kd_win kM_1664 (j := 62) rfl rfl (Nat.le_of_ble_eq_true rfl)) (by decide +kernel)
theorem dL_law_1728 : decode cL_law 1728 = .ok (.iconst 1, 1) := kd_row (b0 := 4) (bs := []) (op_4 1728) (kd_win kM_1728 (j := 0) rfl rfl (Nat.le_of_ble_eq_true rfl)) (by decide +kernel)
theorem dL_law_1729 : decode cL_law 1729 = .ok (.iadd, 1) := kd_row (b0 := 96) (bs := []) (op_96 1729) (kd_win kM_1728 (j := 1) rfl rfl (Nat.le_of_ble_eq_true rfl)) (by decide +kernel)
theorem dL_law_1730 : decode cL_law 1730 = .ok (.iaload, 1) := kd_row (b0 := 46) (bs := []) (op_46 1730) (kd_win kM_1728 (j := 2) rfl rfl (Nat.le_of_ble_eq_true rfl)) (by decide +kernel)
theorem dL_law_1731 : decode cL_law 1731 = .ok (.aload_n 3, 1) := kd_row (b0 := 45) (bs := []) (op_45 1731) (kd_win kM_1728 (j := 3) rfl rfl (Nat.le_of_ble_eq_true rfl)) (by decide +kernel)
theorem dL_law_1732 : decode cL_law 1732 = .ok (.invokestatic 287, 3) := kd_row (b0 := 184) (bs := [1, 31]) (op_184 1732) (kd_win kM_1728 (j := 4) rfl rfl (Nat.le_of_ble_eq_true rfl)) (by decide +kernel)
theorem dL_law_1735 : decode cL_law 1735 = .ok (.istore 5, 2) := kd_row (b0 := 54) (bs := [5]) (op_54 1735) (kd_win kM_1728 (j := 7) rfl rfl (Nat.le_of_ble_eq_true rfl)) (by decide +kernel)
theorem dL_law_1737 : decode cL_law 1737 = .ok (.aload_n 2, 1) := kd_row (b0 := 44) (bs := []) (op_44 1737) (kd_win kM_1728 (j := 9) rfl rfl (Nat.le_of_ble_eq_true rfl)) (by decide +kernel)
theorem dL_law_1738 : decode cL_law 1738 = .ok (.aload_n 0, 1) := kd_row (b0 := 42) (bs := []) (op_42 1738) (kd_win kM_1728 (j := 10) rfl rfl (Nat.le_of_ble_eq_true rfl)) (by decide +kernel)
theorem dL_law_1739 : decode cL_law 1739 = .ok (.iload 4, 2) := kd_row (b0 := 21) (bs := [4]) (op_21 1739) (kd_win kM_1728 (j := 11) rfl rfl (Nat.le_of_ble_eq_true rfl)) (by decide +kernel)
theorem dL_law_1741 : decode cL_law 1741 = .ok (.iconst 1, 1) := kd_row (b0 := 4) (bs := []) (op_4 1741) (kd_win kM_1728 (j := 13) rfl rfl (Nat.le_of_ble_eq_true rfl)) (by decide +kernel)
theorem dL_law_1742 : decode cL_law 1742 = .ok (.iadd, 1) := kd_row (b0 := 96) (bs := []) (op_96 1742) (kd_win kM_1728 (j := 14) rfl rfl (Nat.le_of_ble_eq_true rfl)) (by decide +kernel)
theorem dL_law_1743 : decode cL_law 1743 = .ok (.iaload, 1) := kd_row (b0 := 46) (bs := []) (op_46 1743) (kd_win kM_1728 (j := 15) rfl rfl (Nat.le_of_ble_eq_true rfl)) (by decide +kernel)
theorem dL_law_1744 : decode cL_law 1744 = .ok (.invokevirtual 289, 3) := kd_row (b0 := 182) (bs := [1, 33]) (op_182 1744) (kd_win kM_1728 (j := 16) rfl rfl (Nat.le_of_ble_eq_true rfl)) (by decide +kernel)
theorem dL_law_1747 : decode cL_law 1747 = .ok (.istore 6, 2) := kd_row (b0 := 54) (bs := [6]) (op_54 1747) (kd_win kM_1728 (j := 19) rfl rfl (Nat.le_of_ble_eq_true rfl)) (by decide +kernel)
theorem dL_law_1749 : decode cL_law 1749 = .ok (.goto 124, 3) := kd_row (b0 := 167) (bs := [0, 124]) (op_167 1749) (kd_win kM_1728 (j := 21) rfl rfl (Nat.le_of_ble_eq_true rfl)) (by decide +kernel)
theorem dL_law_1752 : decode cL_law 1752 = .ok (.aload_n 1, 1) := kd_row (b0 := 43) (bs := []) (op_43 1752) (kd_win kM_1728 (j := 24) rfl rfl (Nat.le_of_ble_eq_true rfl)) (by decide +kernel)
theorem dL_law_1753 : decode cL_law 1753 = .ok (.invokevirtual 290, 3) := kd_row (b0 := 182) (bs := [1, 34]) (op_182 1753) (kd_win kM_1728 (j := 25) rfl rfl (Nat.le_of_ble_eq_true rfl)) (by decide +kernel)
theorem dL_law_1756 : decode cL_law 1756 = .ok (.pop, 1) := kd_row (b0 := 87) (bs := []) (op_87 1756) (kd_win kM_1728 (j := 28) rfl rfl (Nat.le_of_ble_eq_true rfl)) (by decide +kernel)
theorem dL_law_1757 : decode cL_law 1757 = .ok (.aload_n 2, 1) := kd_row (b0 := 44) (bs := []) (op_44 1757) (kd_win kM_1728 (j := 29) rfl rfl (Nat.le_of_ble_eq_true rfl)) (by decide +kernel)
theorem dL_law_1758 : decode cL_law 1758 = .ok (.invokevirtual 293, 3) := kd_row (b0 := 182) (bs := [1, 37]) (op_182 1758) (kd_win kM_1728 (j := 30) rfl rfl (Nat.le_of_ble_eq_true rfl)) (by decide +kernel)
theorem dL_law_1761 : decode cL_law 1761 = .ok (.pop, 1) := kd_row (b0 := 87) (bs := []) (op_87 1761) (kd_win kM_1728 (j := 33) rfl rfl (Nat.le_of_ble_eq_true rfl)) (by decide +kernel)
theorem dL_law_1762 : decode cL_law 1762 = .ok (.goto 111, 3) := kd_row (b0 := 167) (bs := [0, 111]) (op_167 1762) (kd_win kM_1728 (j := 34) rfl rfl (Nat.le_of_ble_eq_true rfl)) (by decide +kernel)
theorem dL_law_1765 : decode cL_law 1765 = .ok (.aload_n 1, 1) := kd_row (b0 := 43) (bs := []) (op_43 1765) (kd_win kM_1728 (j := 37) rfl rfl (Nat.le_of_ble_eq_true rfl)) (by decide +kernel)
theorem dL_law_1766 : decode cL_law 1766 = .ok (.aload_n 0, 1) := kd_row (b0 := 42) (bs := []) (op_42 1766) (kd_win kM_1728 (j := 38) rfl rfl (Nat.le_of_ble_eq_true rfl)) (by decide +kernel)
theorem dL_law_1767 : decode cL_law 1767 = .ok (.iload 4, 2) := kd_row (b0 := 21) (bs := [4]) (op_21 1767) (kd_win kM_1728 (j := 39) rfl rfl (Nat.le_of_ble_eq_true rfl)) (by decide +kernel)
theorem dL_law_1769 : decode cL_law 1769 = .ok (.iconst 1, 1) := kd_row (b0 := 4) (bs := []) (op_4 1769) (kd_win kM_1728 (j := 41) rfl rfl (Nat.le_of_ble_eq_true rfl)) (by decide +kernel)
theorem dL_law_1770 : decode cL_law 1770 = .ok (.iadd, 1) := kd_row (b0 := 96) (bs := []) (op_96 1770) (kd_win kM_1728 (j := 42) rfl rfl (Nat.le_of_ble_eq_true rfl)) (by decide +kernel)
theorem dL_law_1771 : decode cL_law 1771 = .ok (.iaload, 1) := kd_row (b0 := 46) (bs := []) (op_46 1771) (kd_win kM_1728 (j := 43) rfl rfl (Nat.le_of_ble_eq_true rfl)) (by decide +kernel)
theorem dL_law_1772 : decode cL_law 1772 = .ok (.aload_n 3, 1) := kd_row (b0 := 45) (bs := []) (op_45 1772) (kd_win kM_1728 (j := 44) rfl rfl (Nat.le_of_ble_eq_true rfl)) (by decide +kernel)
theorem dL_law_1773 : decode cL_law 1773 = .ok (.invokestatic 294, 3) := kd_row (b0 := 184) (bs := [1, 38]) (op_184 1773) (kd_win kM_1728 (j := 45) rfl rfl (Nat.le_of_ble_eq_true rfl)) (by decide +kernel)
theorem dL_law_1776 : decode cL_law 1776 = .ok (.istore 5, 2) := kd_row (b0 := 54) (bs := [5]) (op_54 1776) (kd_win kM_1728 (j := 48) rfl rfl (Nat.le_of_ble_eq_true rfl)) (by decide +kernel)
theorem dL_law_1778 : decode cL_law 1778 = .ok (.aload_n 2, 1) := kd_row (b0 := 44) (bs := []) (op_44 1778) (kd_win kM_1728 (j := 50) rfl rfl (Nat.le_of_ble_eq_true rfl)) (by decide +kernel)
theorem dL_law_1779 : decode cL_law 1779 = .ok (.aload_n 0, 1) := kd_row (b0 := 42) (bs := []) (op_42 1779) (kd_win kM_1728 (j := 51) rfl rfl (Nat.le_of_ble_eq_true rfl)) (by decide +kernel)
theorem dL_law_1780 : decode cL_law 1780 = .ok (.iload 4, 2) := kd_row (b0 := 21) (bs := [4]) (op_21 1780) (kd_win kM_1728 (j := 52) rfl rfl (Nat.le_of_ble_eq_true rfl)) (by decide +kernel)
theorem dL_law_1782 : decode cL_law 1782 = .ok (.iconst 1, 1) := kd_row (b0 := 4) (bs := []) (op_4 1782) (kd_win kM_1728 (j := 54) rfl rfl (Nat.le_of_ble_eq_true rfl)) (by decide +kernel)
theorem dL_law_1783 : decode cL_law 1783 = .ok (.iadd, 1) := kd_row (b0 := 96) (bs := []) (op_96 1783) (kd_win kM_1728 (j := 55) rfl rfl (Nat.le_of_ble_eq_true rfl)) (by decide +kernel)
theorem dL_law_1784 : decode cL_law 1784 = .ok (.iaload, 1) := kd_row (b0 := 46) (bs := []) (op_46 1784) (kd_win kM_1728 (j := 56) rfl rfl (Nat.le_of_ble_eq_true rfl)) (by decide +kernel)
theorem dL_law_1785 : decode cL_law 1785 = .ok (.invokevirtual 296, 3) := kd_row (b0 := 182) (bs := [1, 40]) (op_182 1785) (kd_win kM_1728 (j := 57) rfl rfl (Nat.le_of_ble_eq_true rfl)) (by decide +kernel)
theorem dL_law_1788 : decode cL_law 1788 = .ok (.istore 6, 2) := kd_row (b0 := 54) (bs := [6]) (op_54 1788) (kd_win kM_1728 (j := 60) rfl rfl (Nat.le_of_ble_eq_true rfl)) (by decide +kernel)
theorem dL_law_1790 : decode cL_law 1790 = .ok (.goto 83, 3) := kd_row (b0 := 167) (bs := [0, 83]) (op_167 1790) (kd_win kM_1728 (j := 62) rfl rfl (Nat.le_of_ble_eq_true rfl)) (by decide +kernel)
theorem dL_law_1793 : decode cL_law 1793 = .ok (.aload_n 1, 1) := kd_row (b0 := 43) (bs := []) (op_43 1793) (kd_win kM_1792 (j := 1) rfl rfl (Nat.le_of_ble_eq_true rfl)) (by decide +kernel)
theorem dL_law_1794 : decode cL_law 1794 = .ok (.invokevirtual 297, 3) := kd_row (b0 := 182) (bs := [1, 41]) (op_182 1794) (kd_win kM_1792 (j := 2) rfl rfl (Nat.le_of_ble_eq_true rfl)) (by decide +kernel)
theorem dL_law_1797 : decode cL_law 1797 = .ok (.pop, 1) := kd_row (b0 := 87) (bs := []) (op_87 1797) (kd_win kM_1792 (j := 5) rfl rfl (Nat.le_of_ble_eq_true rfl)) (by decide +kernel)
theorem dL_law_1798 : decode cL_law 1798 = .ok (.aload_n 2, 1) := kd_row (b0 := 44) (bs := []) (op_44 1798) (kd_win kM_1792 (j := 6) rfl rfl (Nat.le_of_ble_eq_true rfl)) (by decide +kernel)
theorem dL_law_1799 : decode cL_law 1799 = .ok (.invokevirtual 300, 3) := kd_row (b0 := 182) (bs := [1, 44]) (op_182 1799) (kd_win kM_1792 (j := 7) rfl rfl (Nat.le_of_ble_eq_true rfl)) (by decide +kernel)
theorem dL_law_1802 : decode cL_law 1802 = .ok (.pop, 1) := kd_row (b0 := 87) (bs := []) (op_87 1802) (kd_win kM_1792 (j := 10) rfl rfl (Nat.le_of_ble_eq_true rfl)) (by decide +kernel)
theorem dL_law_1803 : decode cL_law 1803 = .ok (.goto 70, 3) := kd_row (b0 := 167) (bs := [0, 70]) (op_167 1803) (kd_win kM_1792 (j := 11) rfl rfl (Nat.le_of_ble_eq_true rfl)) (by decide +kernel)
theorem dL_law_1806 : decode cL_law 1806 = .ok (.aload_n 1, 1) := kd_row (b0 := 43) (bs := []) (op_43 1806) (kd_win kM_1792 (j := 14) rfl rfl (Nat.le_of_ble_eq_true rfl)) (by decide +kernel)
theorem dL_law_1807 : decode cL_law 1807 = .ok (.aload_n 0, 1) := kd_row (b0 := 42) (bs := []) (op_42 1807) (kd_win kM_1792 (j := 15) rfl rfl (Nat.le_of_ble_eq_true rfl)) (by decide +kernel)
theorem dL_law_1808 : decode cL_law 1808 = .ok (.iload 4, 2) := kd_row (b0 := 21) (bs := [4]) (op_21 1808) (kd_win kM_1792 (j := 16) rfl rfl (Nat.le_of_ble_eq_true rfl)) (by decide +kernel)
theorem dL_law_1810 : decode cL_law 1810 = .ok (.iconst 1, 1) := kd_row (b0 := 4) (bs := []) (op_4 1810) (kd_win kM_1792 (j := 18) rfl rfl (Nat.le_of_ble_eq_true rfl)) (by decide +kernel)
theorem dL_law_1811 : decode cL_law 1811 = .ok (.iadd, 1) := kd_row (b0 := 96) (bs := []) (op_96 1811) (kd_win kM_1792 (j := 19) rfl rfl (Nat.le_of_ble_eq_true rfl)) (by decide +kernel)
theorem dL_law_1812 : decode cL_law 1812 = .ok (.iaload, 1) := kd_row (b0 := 46) (bs := []) (op_46 1812) (kd_win kM_1792 (j := 20) rfl rfl (Nat.le_of_ble_eq_true rfl)) (by decide +kernel)
theorem dL_law_1813 : decode cL_law 1813 = .ok (.aload_n 3, 1) := kd_row (b0 := 45) (bs := []) (op_45 1813) (kd_win kM_1792 (j := 21) rfl rfl (Nat.le_of_ble_eq_true rfl)) (by decide +kernel)
theorem dL_law_1814 : decode cL_law 1814 = .ok (.invokestatic 301, 3) := kd_row (b0 := 184) (bs := [1, 45]) (op_184 1814) (kd_win kM_1792 (j := 22) rfl rfl (Nat.le_of_ble_eq_true rfl)) (by decide +kernel)
theorem dL_law_1817 : decode cL_law 1817 = .ok (.istore 5, 2) := kd_row (b0 := 54) (bs := [5]) (op_54 1817) (kd_win kM_1792 (j := 25) rfl rfl (Nat.le_of_ble_eq_true rfl)) (by decide +kernel)
theorem dL_law_1819 : decode cL_law 1819 = .ok (.aload_n 2, 1) := kd_row (b0 := 44) (bs := []) (op_44 1819) (kd_win kM_1792 (j := 27) rfl rfl (Nat.le_of_ble_eq_true rfl)) (by decide +kernel)
theorem dL_law_1820 : decode cL_law 1820 = .ok (.aload_n 0, 1) := kd_row (b0 := 42) (bs := []) (op_42 1820) (kd_win kM_1792 (j := 28) rfl rfl (Nat.le_of_ble_eq_true rfl)) (by decide +kernel)
theorem dL_law_1821 : decode cL_law 1821 = .ok (.iload 4, 2) := kd_row (b0 := 21) (bs := [4]) (op_21 1821) (kd_win kM_1792 (j := 29) rfl rfl (Nat.le_of_ble_eq_true rfl)) (by decide +kernel)
theorem dL_law_1823 : decode cL_law 1823 = .ok (.iconst 1, 1) := kd_row (b0 := 4) (bs := []) (op_4 1823) (kd_win kM_1792 (j := 31) rfl rfl (Nat.le_of_ble_eq_true rfl)) (by decide +kernel)
theorem dL_law_1824 : decode cL_law 1824 = .ok (.iadd, 1) := kd_row (b0 := 96) (bs := []) (op_96 1824) (kd_win kM_1792 (j := 32) rfl rfl (Nat.le_of_ble_eq_true rfl)) (by decide +kernel)
theorem dL_law_1825 : decode cL_law 1825 = .ok (.iaload, 1) := kd_row (b0 := 46) (bs := []) (op_46 1825) (kd_win kM_1792 (j := 33) rfl rfl (Nat.le_of_ble_eq_true rfl)) (by decide +kernel)
theorem dL_law_1826 : decode cL_law 1826 = .ok (.invokevirtual 303, 3) := kd_row (b0 := 182) (bs := [1, 47]) (op_182 1826) (kd_win kM_1792 (j := 34) rfl rfl (Nat.le_of_ble_eq_true rfl)) (by decide +kernel)
theorem dL_law_1829 : decode cL_law 1829 = .ok (.istore 6, 2) := kd_row (b0 := 54) (bs := [6]) (op_54 1829) (kd_win kM_1792 (j := 37) rfl rfl (Nat.le_of_ble_eq_true rfl)) (by decide +kernel)
theorem dL_law_1831 : decode cL_law 1831 = .ok (.goto 42, 3) := kd_row (b0 := 167) (bs := [0, 42]) (op_167 1831) (kd_win kM_1792 (j := 39) rfl rfl (Nat.le_of_ble_eq_true rfl)) (by decide +kernel)
theorem dL_law_1834 : decode cL_law 1834 = .ok (.aload_n 1, 1) := kd_row (b0 := 43) (bs := []) (op_43 1834) (kd_win kM_1792 (j := 42) rfl rfl (Nat.le_of_ble_eq_true rfl)) (by decide +kernel)
theorem dL_law_1835 : decode cL_law 1835 = .ok (.invokevirtual 304, 3) := kd_row (b0 := 182) (bs := [1, 48]) (op_182 1835) (kd_win kM_1792 (j := 43) rfl rfl (Nat.le_of_ble_eq_true rfl)) (by decide +kernel)
theorem dL_law_1838 : decode cL_law 1838 = .ok (.pop, 1) := kd_row (b0 := 87) (bs := []) (op_87 1838) (kd_win kM_1792 (j := 46) rfl rfl (Nat.le_of_ble_eq_true rfl)) (by decide +kernel)
theorem dL_law_1839 : decode cL_law 1839 = .ok (.aload_n 2, 1) := kd_row (b0 := 44) (bs := []) (op_44 1839) (kd_win kM_1792 (j := 47) rfl rfl (Nat.le_of_ble_eq_true rfl)) (by decide +kernel)
theorem dL_law_1840 : decode cL_law 1840 = .ok (.invokevirtual 307, 3) := kd_row (b0 := 182) (bs := [1, 51]) (op_182 1840) (kd_win kM_1792 (j := 48) rfl rfl (Nat.le_of_ble_eq_true rfl)) (by decide +kernel)
theorem dL_law_1843 : decode cL_law 1843 = .ok (.pop, 1) := kd_row (b0 := 87) (bs := []) (op_87 1843) (kd_win kM_1792 (j := 51) rfl rfl (Nat.le_of_ble_eq_true rfl)) (by decide +kernel)
theorem dL_law_1844 : decode cL_law 1844 = .ok (.goto 29, 3) := kd_row (b0 := 167) (bs := [0, 29]) (op_167 1844) (kd_win kM_1792 (j := 52) rfl rfl (Nat.le_of_ble_eq_true rfl)) (by decide +kernel)
theorem dL_law_1847 : decode cL_law 1847 = .ok (.aload_n 1, 1) := kd_row (b0 := 43) (bs := []) (op_43 1847) (kd_win kM_1792 (j := 55) rfl rfl (Nat.le_of_ble_eq_true rfl)) (by decide +kernel)
theorem dL_law_1848 : decode cL_law 1848 = .ok (.invokevirtual 308, 3) := kd_row (b0 := 182) (bs := [1, 52]) (op_182 1848) (kd_win kM_1792 (j := 56) rfl rfl (Nat.le_of_ble_eq_true rfl)) (by decide +kernel)
theorem dL_law_1851 : decode cL_law 1851 = .ok (.pop, 1) := kd_row (b0 := 87) (bs := []) (op_87 1851) (kd_win kM_1792 (j := 59) rfl rfl (Nat.le_of_ble_eq_true rfl)) (by decide +kernel)
theorem dL_law_1852 : decode cL_law 1852 = .ok (.aload_n 2, 1) := kd_row (b0 := 44) (bs := []) (op_44 1852) (kd_win kM_1792 (j := 60) rfl rfl (Nat.le_of_ble_eq_true rfl)) (by decide +kernel)
theorem dL_law_1853 : decode cL_law 1853 = .ok (.invokevirtual 312, 3) := kd_row (b0 := 182) (bs := [1, 56]) (op_182 1853) (kd_win kM_1792 (j := 61) rfl rfl (Nat.le_of_ble_eq_true rfl)) (by decide +kernel)
theorem dL_law_1856 : decode cL_law 1856 = .ok (.pop, 1) := kd_row (b0 := 87) (bs := []) (op_87 1856) (kd_win kM_1856 (j := 0) rfl rfl (Nat.le_of_ble_eq_true rfl)) (by decide +kernel)
theorem dL_law_1857 : decode cL_law 1857 = .ok (.goto 16, 3) := kd_row (b0 := 167) (bs := [0, 16]) (op_167 1857) (kd_win kM_1856 (j := 1) rfl rfl (Nat.le_of_ble_eq_true rfl)) (by decide +kernel)
theorem dL_law_1860 : decode cL_law 1860 = .ok (.aload_n 1, 1) := kd_row (b0 := 43) (bs := []) (op_43 1860) (kd_win kM_1856 (j := 4) rfl rfl (Nat.le_of_ble_eq_true rfl)) (by decide +kernel)
theorem dL_law_1861 : decode cL_law 1861 = .ok (.invokevirtual 313, 3) := kd_row (b0 := 182) (bs := [1, 57]) (op_182 1861) (kd_win kM_1856 (j := 5) rfl rfl (Nat.le_of_ble_eq_true rfl)) (by decide +kernel)
theorem dL_law_1864 : decode cL_law 1864 = .ok (.pop2, 1) := kd_row (b0 := 88) (bs := []) (op_88 1864) (kd_win kM_1856 (j := 8) rfl rfl (Nat.le_of_ble_eq_true rfl)) (by decide +kernel)
theorem dL_law_1865 : decode cL_law 1865 = .ok (.aload_n 2, 1) := kd_row (b0 := 44) (bs := []) (op_44 1865) (kd_win kM_1856 (j := 9) rfl rfl (Nat.le_of_ble_eq_true rfl)) (by decide +kernel)
theorem dL_law_1866 : decode cL_law 1866 = .ok (.invokevirtual 317, 3) := kd_row (b0 := 182) (bs := [1, 61]) (op_182 1866) (kd_win kM_1856 (j := 10) rfl rfl (Nat.le_of_ble_eq_true rfl)) (by decide +kernel)
theorem dL_law_1869 : decode cL_law 1869 = .ok (.pop2, 1) := kd_row (b0 := 88) (bs := []) (op_88 1869) (kd_win kM_1856 (j := 13) rfl rfl (Nat.le_of_ble_eq_true rfl)) (by decide +kernel)
theorem dL_law_1870 : decode cL_law 1870 = .ok (.goto 3, 3) := kd_row (b0 := 167) (bs := [0, 3]) (op_167 1870) (kd_win kM_1856 (j := 14) rfl rfl (Nat.le_of_ble_eq_true rfl)) (by decide +kernel)
theorem dL_law_1873 : decode cL_law 1873 = .ok (.iinc 4 5, 3) := kd_row (b0 := 132) (bs := [4, 5]) (op_132 1873) (kd_win kM_1856 (j := 17) rfl rfl (Nat.le_of_ble_eq_true rfl)) (by decide +kernel)
theorem dL_law_1876 : decode cL_law 1876 = .ok (.goto (-1849), 3) := kd_row (b0 := 167) (bs := [248, 199]) (op_167 1876) (kd_win kM_1856 (j := 20) rfl rfl (Nat.le_of_ble_eq_true rfl)) (by decide +kernel)
theorem dL_law_1879 : decode cL_law 1879 = .ok (.iconst 1, 1) := kd_row (b0 := 4) (bs := []) (op_4 1879) (kd_win kM_1856 (j := 23) rfl rfl (Nat.le_of_ble_eq_true rfl)) (by decide +kernel)
theorem dL_law_1880 : decode cL_law 1880 = .ok (.ireturn, 1) := kd_row (b0 := 172) (bs := []) (op_172 1880) (kd_win kM_1856 (j := 24) rfl rfl (Nat.le_of_ble_eq_true rfl)) (by decide +kernel)
