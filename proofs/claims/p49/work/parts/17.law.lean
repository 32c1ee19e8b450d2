-- 17.lawdec.lean.txt
section
theorem dgL_set_0 : kRun kT cL_set.data.toList 0 (List.flatten (iqC (iqr2 0 (iq25 4) (iqr1 2 iq42 (iqr1 3 iq27 (iqr1 4 iq28 (iqr1 5 iq29 (iqr3 6 (iq182 7) (iqr1 9 iq133 (iqr3 10 (iq181 13) (iqr3 13 (iq167 11) (iqr2 16 (iq58 5) iqE)))))))))) (iqC (iqr1 18 iq4 (iqr1 19 iq172 (iqr2 20 (iq58 5) (iqr1 22 iq5 (iqr1 23 iq172 (iqr1 24 iq3 (iqr1 25 iq172 iqE))))))) iqN))) = true := by decide +kernel
theorem dgL_go_0 : kRun kT cL_go.data.toList 0 (List.flatten (iqC (iqr2 0 (iq25 5) (iqr1 2 iq42 (iqr1 3 iq27 (iqr1 4 iq28 (iqr1 5 iq29 (iqr2 6 (iq21 4) (iqr3 8 (iq182 23) (iqr1 11 iq133 (iqr3 12 (iq181 13) (iqr3 15 (iq167 11) iqE)))))))))) (iqC (iqr2 18 (iq58 6) (iqr1 20 iq4 (iqr1 21 iq172 (iqr2 22 (iq58 6) (iqr1 24 iq5 (iqr1 25 iq172 (iqr1 26 iq3 (iqr1 27 iq172 iqE)))))))) iqN))) = true := by decide +kernel
theorem dgL_copy_0 : kRun kT cL_copy.data.toList 0 (List.flatten (iqC (iqr1 0 iq45 (iqr1 1 iq42 (iqr1 2 iq27 (iqr1 3 iq28 (iqr3 4 (iq182 27) (iqr1 7 iq133 (iqr3 8 (iq181 13) (iqr3 11 (iq167 7) (iqr2 14 (iq58 4) (iqr1 16 iq4 iqE)))))))))) (iqC (iqr1 17 iq172 (iqr1 18 iq3 (iqr1 19 iq172 iqE))) iqN))) = true := by decide +kernel
theorem dgL_swap_0 : kRun kT cL_swap.data.toList 0 (List.flatten (iqC (iqr1 0 iq45 (iqr1 1 iq42 (iqr1 2 iq27 (iqr1 3 iq28 (iqr3 4 (iq182 31) (iqr1 7 iq133 (iqr3 8 (iq181 13) (iqr3 11 (iq167 7) (iqr2 14 (iq58 4) (iqr1 16 iq4 iqE)))))))))) (iqC (iqr1 17 iq172 (iqr1 18 iq3 (iqr1 19 iq172 iqE))) iqN))) = true := by decide +kernel
theorem dgL_pick_0 : kRun kT cL_pick.data.toList 0 (List.flatten (iqC (iqr1 0 iq45 (iqr1 1 iq42 (iqr1 2 iq27 (iqr1 3 iq28 (iqr3 4 (iq182 34) (iqr1 7 iq133 (iqr3 8 (iq181 13) (iqr3 11 (iq167 7) (iqr2 14 (iq58 4) (iqr1 16 iq4 iqE)))))))))) (iqC (iqr1 17 iq172 (iqr1 18 iq3 (iqr1 19 iq172 iqE))) iqN))) = true := by decide +kernel
theorem dgL_shift_0 : kRun kT cL_shift.data.toList 0 (List.flatten (iqC (iqr1 0 iq45 (iqr1 1 iq42 (iqr1 2 iq27 (iqr1 3 iq28 (iqr3 4 (iq182 38) (iqr1 7 iq133 (iqr3 8 (iq181 13) (iqr3 11 (iq167 7) (iqr2 14 (iq58 4) (iqr1 16 iq4 iqE)))))))))) (iqC (iqr1 17 iq172 (iqr1 18 iq3 (iqr1 19 iq172 iqE))) iqN))) = true := by decide +kernel
theorem dgL_open_0 : kRun kT cL_open.data.toList 0 (List.flatten (iqC (iqr1 0 iq45 (iqr1 1 iq42 (iqr1 2 iq27 (iqr1 3 iq28 (iqr3 4 (iq182 41) (iqr1 7 iq133 (iqr3 8 (iq181 13) (iqr3 11 (iq167 7) (iqr2 14 (iq58 4) (iqr1 16 iq4 iqE)))))))))) (iqC (iqr1 17 iq172 (iqr1 18 iq3 (iqr1 19 iq172 iqE))) iqN))) = true := by decide +kernel
theorem dgL_book_0 : kRun kT cL_book.data.toList 0 (List.flatten (iqC (iqr2 0 (iq25 4) (iqr1 2 iq42 (iqr1 3 iq27 (iqr1 4 iq28 (iqr1 5 iq29 (iqr3 6 (iq182 44) (iqr1 9 iq133 (iqr3 10 (iq181 13) (iqr3 13 (iq167 7) (iqr2 16 (iq58 5) iqE)))))))))) (iqC (iqr1 18 iq4 (iqr1 19 iq172 (iqr1 20 iq3 (iqr1 21 iq172 iqE)))) iqN))) = true := by decide +kernel
theorem dgL_unbook_0 : kRun kT cL_unbook.data.toList 0 (List.flatten (iqC (iqr1 0 iq44 (iqr1 1 iq42 (iqr1 2 iq27 (iqr3 3 (iq182 48) (iqr1 6 iq133 (iqr3 7 (iq181 13) (iqr3 10 (iq167 6) (iqr1 13 iq78 (iqr1 14 iq4 (iqr1 15 iq172 iqE)))))))))) (iqC (iqr1 16 iq3 (iqr1 17 iq172 iqE)) iqN))) = true := by decide +kernel
theorem dgL_move_0 : kRun kT cL_move.data.toList 0 (List.flatten (iqC (iqr2 0 (iq25 4) (iqr1 2 iq42 (iqr1 3 iq27 (iqr1 4 iq28 (iqr1 5 iq29 (iqr3 6 (iq182 52) (iqr1 9 iq133 (iqr3 10 (iq181 13) (iqr3 13 (iq167 11) (iqr2 16 (iq58 5) iqE)))))))))) (iqC (iqr1 18 iq4 (iqr1 19 iq172 (iqr2 20 (iq58 5) (iqr1 22 iq5 (iqr1 23 iq172 (iqr1 24 iq3 (iqr1 25 iq172 iqE))))))) iqN))) = true := by decide +kernel
theorem dgL_stretch_0 : kRun kT cL_stretch.data.toList 0 (List.flatten (iqC (iqr2 0 (iq25 4) (iqr1 2 iq42 (iqr1 3 iq27 (iqr1 4 iq28 (iqr1 5 iq29 (iqr3 6 (iq182 55) (iqr1 9 iq133 (iqr3 10 (iq181 13) (iqr3 13 (iq167 11) (iqr2 16 (iq58 5) iqE)))))))))) (iqC (iqr1 18 iq4 (iqr1 19 iq172 (iqr2 20 (iq58 5) (iqr1 22 iq5 (iqr1 23 iq172 (iqr1 24 iq3 (iqr1 25 iq172 iqE))))))) iqN))) = true := by decide +kernel
theorem dgL_fit_0 : kRun kT cL_fit.data.toList 0 (List.flatten (iqC (iqr2 0 (iq25 5) (iqr1 2 iq42 (iqr1 3 iq27 (iqr1 4 iq28 (iqr1 5 iq29 (iqr2 6 (iq21 4) (iqr3 8 (iq182 58) (iqr1 11 iq133 (iqr3 12 (iq181 13) (iqr3 15 (iq167 11) iqE)))))))))) (iqC (iqr2 18 (iq58 6) (iqr1 20 iq4 (iqr1 21 iq172 (iqr2 22 (iq58 6) (iqr1 24 iq5 (iqr1 25 iq172 (iqr1 26 iq3 (iqr1 27 iq172 iqE)))))))) iqN))) = true := by decide +kernel
theorem dgL_wish_0 : kRun kT cL_wish.data.toList 0 (List.flatten (iqC (iqr1 0 iq45 (iqr1 1 iq42 (iqr1 2 iq27 (iqr1 3 iq28 (iqr3 4 (iq182 62) (iqr1 7 iq133 (iqr3 8 (iq181 13) (iqr3 11 (iq167 7) (iqr2 14 (iq58 4) (iqr1 16 iq4 iqE)))))))))) (iqC (iqr1 17 iq172 (iqr1 18 iq3 (iqr1 19 iq172 iqE))) iqN))) = true := by decide +kernel
theorem dgL_unwish_0 : kRun kT cL_unwish.data.toList 0 (List.flatten (iqC (iqr1 0 iq44 (iqr1 1 iq42 (iqr1 2 iq27 (iqr3 3 (iq182 65) (iqr1 6 iq133 (iqr3 7 (iq181 13) (iqr3 10 (iq167 6) (iqr1 13 iq78 (iqr1 14 iq4 (iqr1 15 iq172 iqE)))))))))) (iqC (iqr1 16 iq3 (iqr1 17 iq172 iqE)) iqN))) = true := by decide +kernel
theorem dgL_grant_0 : kRun kT cL_grant.data.toList 0 (List.flatten (iqC (iqr1 0 iq44 (iqr1 1 iq42 (iqr1 2 iq27 (iqr3 3 (iq182 68) (iqr1 6 iq133 (iqr3 7 (iq181 13) (iqr3 10 (iq167 6) (iqr1 13 iq78 (iqr1 14 iq4 (iqr1 15 iq172 iqE)))))))))) (iqC (iqr1 16 iq3 (iqr1 17 iq172 iqE)) iqN))) = true := by decide +kernel
theorem dgL_second_0 : kRun kT cL_second.data.toList 0 (List.flatten (iqC (iqr1 0 iq44 (iqr1 1 iq42 (iqr1 2 iq27 (iqr3 3 (iq182 71) (iqr1 6 iq133 (iqr3 7 (iq181 13) (iqr3 10 (iq167 6) (iqr1 13 iq78 (iqr1 14 iq4 (iqr1 15 iq172 iqE)))))))))) (iqC (iqr1 16 iq3 (iqr1 17 iq172 iqE)) iqN))) = true := by decide +kernel
theorem dgL_nano_0 : kRun kT cL_nano.data.toList 0 (List.flatten (iqC (iqr1 0 iq44 (iqr1 1 iq42 (iqr1 2 iq27 (iqr3 3 (iq182 74) (iqr1 6 iq133 (iqr3 7 (iq181 13) (iqr3 10 (iq167 6) (iqr1 13 iq78 (iqr1 14 iq4 (iqr1 15 iq172 iqE)))))))))) (iqC (iqr1 16 iq3 (iqr1 17 iq172 iqE)) iqN))) = true := by decide +kernel
theorem dgL_order_0 : kRun kT cL_order.data.toList 0 (List.flatten (iqC (iqr1 0 iq45 (iqr1 1 iq42 (iqr1 2 iq27 (iqr1 3 iq28 (iqr3 4 (iq182 85) (iqr1 7 iq133 (iqr3 8 (iq181 13) (iqr3 11 (iq167 7) (iqr2 14 (iq58 4) (iqr1 16 iq4 iqE)))))))))) (iqC (iqr1 17 iq172 (iqr1 18 iq3 (iqr1 19 iq172 iqE))) iqN))) = true := by decide +kernel
theorem dgL_isBefore_0 : kRun kT cL_isBefore.data.toList 0 (List.flatten (iqC (iqr1 0 iq45 (iqr1 1 iq42 (iqr1 2 iq27 (iqr1 3 iq28 (iqr3 4 (iq182 88) (iqr3 7 (iq153 7) (iqr1 10 iq10 (iqr3 11 (iq167 4) (iqr1 14 iq9 (iqr3 15 (iq181 13) iqE)))))))))) (iqC (iqr3 18 (iq167 7) (iqr2 21 (iq58 4) (iqr1 23 iq4 (iqr1 24 iq172 (iqr1 25 iq3 (iqr1 26 iq172 iqE)))))) iqN))) = true := by decide +kernel
theorem dgL_isAfter_0 : kRun kT cL_isAfter.data.toList 0 (List.flatten (iqC (iqr1 0 iq45 (iqr1 1 iq42 (iqr1 2 iq27 (iqr1 3 iq28 (iqr3 4 (iq182 92) (iqr3 7 (iq153 7) (iqr1 10 iq10 (iqr3 11 (iq167 4) (iqr1 14 iq9 (iqr3 15 (iq181 13) iqE)))))))))) (iqC (iqr3 18 (iq167 7) (iqr2 21 (iq58 4) (iqr1 23 iq4 (iqr1 24 iq172 (iqr1 25 iq3 (iqr1 26 iq172 iqE)))))) iqN))) = true := by decide +kernel
theorem dgL_same_0 : kRun kT cL_same.data.toList 0 (List.flatten (iqC (iqr2 0 (iq25 4) (iqr1 2 iq42 (iqr1 3 iq27 (iqr1 4 iq28 (iqr1 5 iq29 (iqr3 6 (iq182 95) (iqr3 9 (iq153 7) (iqr1 12 iq10 (iqr3 13 (iq167 4) (iqr1 16 iq9 iqE)))))))))) (iqC (iqr3 17 (iq181 13) (iqr3 20 (iq167 11) (iqr2 23 (iq58 5) (iqr1 25 iq4 (iqr1 26 iq172 (iqr2 27 (iq58 5) (iqr1 29 iq5 (iqr1 30 iq172 (iqr1 31 iq3 (iqr1 32 iq172 iqE)))))))))) iqN))) = true := by decide +kernel
theorem dgL_apart_0 : kRun kT cL_apart.data.toList 0 (List.flatten (iqC (iqr2 0 (iq25 4) (iqr1 2 iq42 (iqr1 3 iq27 (iqr1 4 iq28 (iqr1 5 iq29 (iqr3 6 (iq182 99) (iqr1 9 iq133 (iqr3 10 (iq181 13) (iqr3 13 (iq167 11) (iqr2 16 (iq58 5) iqE)))))))))) (iqC (iqr1 18 iq4 (iqr1 19 iq172 (iqr2 20 (iq58 5) (iqr1 22 iq5 (iqr1 23 iq172 (iqr1 24 iq3 (iqr1 25 iq172 iqE))))))) iqN))) = true := by decide +kernel
theorem dgL_calendar_0 : kRun kT cL_calendar.data.toList 0 (List.flatten (iqC (iqr1 0 iq44 (iqr1 1 iq42 (iqr1 2 iq27 (iqr3 3 (iq182 102) (iqr1 6 iq133 (iqr3 7 (iq181 13) (iqr3 10 (iq167 6) (iqr1 13 iq78 (iqr1 14 iq4 (iqr1 15 iq172 iqE)))))))))) (iqC (iqr1 16 iq3 (iqr1 17 iq172 iqE)) iqN))) = true := by decide +kernel
theorem dgL_ofSpan_0 : kRun kT cL_ofSpan.data.toList 0 (List.flatten (iqC (iqr1 0 iq45 (iqr1 1 iq42 (iqr1 2 iq27 (iqr1 3 iq28 (iqr3 4 (iq182 105) (iqr1 7 iq133 (iqr3 8 (iq181 13) (iqr3 11 (iq167 11) (iqr2 14 (iq58 4) (iqr1 16 iq4 iqE)))))))))) (iqC (iqr1 17 iq172 (iqr2 18 (iq58 4) (iqr1 20 iq5 (iqr1 21 iq172 (iqr1 22 iq3 (iqr1 23 iq172 iqE)))))) iqN))) = true := by decide +kernel
theorem dgL_meets_0 : kRun kT cL_meets.data.toList 0 (List.flatten (iqC (iqr1 0 iq45 (iqr1 1 iq42 (iqr1 2 iq27 (iqr1 3 iq28 (iqr3 4 (iq182 108) (iqr3 7 (iq153 7) (iqr1 10 iq10 (iqr3 11 (iq167 4) (iqr1 14 iq9 (iqr3 15 (iq181 13) iqE)))))))))) (iqC (iqr3 18 (iq167 7) (iqr2 21 (iq58 4) (iqr1 23 iq4 (iqr1 24 iq172 (iqr1 25 iq3 (iqr1 26 iq172 iqE)))))) iqN))) = true := by decide +kernel
theorem dgL_at_0 : kRun kT cL_at.data.toList 0 (List.flatten (iqC (iqr1 0 iq44 (iqr1 1 iq42 (iqr1 2 iq27 (iqr3 3 (iq182 111) (iqr1 6 iq133 (iqr3 7 (iq181 13) (iqr3 10 (iq167 6) (iqr1 13 iq78 (iqr1 14 iq4 (iqr1 15 iq172 iqE)))))))))) (iqC (iqr1 16 iq3 (iqr1 17 iq172 iqE)) iqN))) = true := by decide +kernel
theorem dgL_isFree_0 : kRun kT cL_isFree.data.toList 0 (List.flatten (iqC (iqr1 0 iq45 (iqr1 1 iq42 (iqr1 2 iq27 (iqr1 3 iq28 (iqr3 4 (iq182 114) (iqr3 7 (iq153 7) (iqr1 10 iq10 (iqr3 11 (iq167 4) (iqr1 14 iq9 (iqr3 15 (iq181 13) iqE)))))))))) (iqC (iqr3 18 (iq167 7) (iqr2 21 (iq58 4) (iqr1 23 iq4 (iqr1 24 iq172 (iqr1 25 iq3 (iqr1 26 iq172 iqE)))))) iqN))) = true := by decide +kernel
theorem dgL_ofFree_0 : kRun kT cL_ofFree.data.toList 0 (List.flatten (iqC (iqr1 0 iq45 (iqr1 1 iq42 (iqr1 2 iq27 (iqr1 3 iq28 (iqr3 4 (iq182 117) (iqr1 7 iq133 (iqr3 8 (iq181 13) (iqr3 11 (iq167 11) (iqr2 14 (iq58 4) (iqr1 16 iq4 iqE)))))))))) (iqC (iqr1 17 iq172 (iqr2 18 (iq58 4) (iqr1 20 iq5 (iqr1 21 iq172 (iqr1 22 iq3 (iqr1 23 iq172 iqE)))))) iqN))) = true := by decide +kernel
theorem dgL_freeAt_0 : kRun kT cL_freeAt.data.toList 0 (List.flatten (iqC (iqr1 0 iq44 (iqr1 1 iq42 (iqr1 2 iq27 (iqr3 3 (iq182 120) (iqr1 6 iq133 (iqr3 7 (iq181 13) (iqr3 10 (iq167 6) (iqr1 13 iq78 (iqr1 14 iq4 (iqr1 15 iq172 iqE)))))))))) (iqC (iqr1 16 iq3 (iqr1 17 iq172 iqE)) iqN))) = true := by decide +kernel
theorem dgL_length_0 : kRun kT cL_length.data.toList 0 (List.flatten (iqC (iqr1 0 iq44 (iqr1 1 iq42 (iqr1 2 iq27 (iqr3 3 (iq182 123) (iqr1 6 iq133 (iqr3 7 (iq181 13) (iqr3 10 (iq167 6) (iqr1 13 iq78 (iqr1 14 iq4 (iqr1 15 iq172 iqE)))))))))) (iqC (iqr1 16 iq3 (iqr1 17 iq172 iqE)) iqN))) = true := by decide +kernel
theorem dgL_ofWish_0 : kRun kT cL_ofWish.data.toList 0 (List.flatten (iqC (iqr1 0 iq45 (iqr1 1 iq42 (iqr1 2 iq27 (iqr1 3 iq28 (iqr3 4 (iq182 126) (iqr1 7 iq133 (iqr3 8 (iq181 13) (iqr3 11 (iq167 11) (iqr2 14 (iq58 4) (iqr1 16 iq4 iqE)))))))))) (iqC (iqr1 17 iq172 (iqr2 18 (iq58 4) (iqr1 20 iq5 (iqr1 21 iq172 (iqr1 22 iq3 (iqr1 23 iq172 iqE)))))) iqN))) = true := by decide +kernel
theorem dgL_isApart_0 : kRun kT cL_isApart.data.toList 0 (List.flatten (iqC (iqr1 0 iq44 (iqr1 1 iq42 (iqr1 2 iq27 (iqr3 3 (iq182 129) (iqr3 6 (iq153 7) (iqr1 9 iq10 (iqr3 10 (iq167 4) (iqr1 13 iq9 (iqr3 14 (iq181 13) (iqr3 17 (iq167 6) iqE)))))))))) (iqC (iqr1 20 iq78 (iqr1 21 iq4 (iqr1 22 iq172 (iqr1 23 iq3 (iqr1 24 iq172 iqE))))) iqN))) = true := by decide +kernel
theorem dgL_most_0 : kRun kT cL_most.data.toList 0 (List.flatten (iqC (iqr1 0 iq44 (iqr1 1 iq42 (iqr1 2 iq27 (iqr3 3 (iq182 133) (iqr1 6 iq133 (iqr3 7 (iq181 13) (iqr3 10 (iq167 6) (iqr1 13 iq78 (iqr1 14 iq4 (iqr1 15 iq172 iqE)))))))))) (iqC (iqr1 16 iq3 (iqr1 17 iq172 iqE)) iqN))) = true := by decide +kernel
theorem dgL_room_0 : kRun kT cL_room.data.toList 0 (List.flatten (iqC (iqr1 0 iq44 (iqr1 1 iq42 (iqr1 2 iq27 (iqr3 3 (iq182 136) (iqr1 6 iq133 (iqr3 7 (iq181 13) (iqr3 10 (iq167 6) (iqr1 13 iq78 (iqr1 14 iq4 (iqr1 15 iq172 iqE)))))))))) (iqC (iqr1 16 iq3 (iqr1 17 iq172 iqE)) iqN))) = true := by decide +kernel
theorem dgL_house_0 : kRun kT cL_house.data.toList 0 (List.flatten (iqC (iqr1 0 iq44 (iqr1 1 iq42 (iqr1 2 iq27 (iqr3 3 (iq182 139) (iqr1 6 iq133 (iqr3 7 (iq181 13) (iqr3 10 (iq167 6) (iqr1 13 iq78 (iqr1 14 iq4 (iqr1 15 iq172 iqE)))))))))) (iqC (iqr1 16 iq3 (iqr1 17 iq172 iqE)) iqN))) = true := by decide +kernel
theorem dgL_text_0 : kRun kT cL_text.data.toList 0 (List.flatten (iqC (iqr1 0 iq44 (iqr1 1 iq42 (iqr1 2 iq27 (iqr3 3 (iq182 77) (iqr3 6 (iq181 81) (iqr3 9 (iq167 6) (iqr1 12 iq78 (iqr1 13 iq4 (iqr1 14 iq172 (iqr1 15 iq3 iqE)))))))))) (iqC (iqr1 16 iq172 iqE) iqN))) = true := by decide +kernel
theorem dgL_law_0 : kRun kT cL_law.data.toList 0 (List.flatten (iqC (iqr3 0 (iq187 8) (iqr1 3 iq89 (iqr3 4 (iq183 142) (iqr1 7 iq76 (iqr3 8 (iq187 143) (iqr1 11 iq89 (iqr3 12 (iq183 145) (iqr1 15 iq77 (iqr3 16 (iq187 14) (iqr1 19 iq89 iqE)))))))))) (iqC (iqr3 20 (iq183 146) (iqr1 23 iq78 (iqr1 24 iq3 (iqr2 25 (iq54 4) (iqr2 27 (iq21 4) (iqr1 29 iq42 (iqr1 30 iq190 (iqr1 31 iq8 (iqr1 32 iq100 (iqr3 33 (iq163 1818) iqE)))))))))) (iqC (iqr1 36 iq42 (iqr2 37 (iq21 4) (iqr1 39 iq46 (iqr2 40 (iq16 63) (iqr1 42 iq126 iqE))))) iqN)))) = true := by decide +kernel
theorem dL_law_43 : decode cL_law 43 = .ok (.tableswitch 1802 0 47 #[205, 257, 337, 377, 417, 473, 513, 553, 621, 649, 662, 714, 766, 830, 870, 898, 926, 954, 982, 1010, 1050, 1090, 1130, 1182, 1234, 1262, 1275, 1315, 1355, 1368, 1396, 1409, 1449, 1462, 1502, 1530, 1558, 1571, 1611, 1639, 1652, 1680, 1693, 1721, 1734, 1762, 1775, 1788], 205) := by decide +kernel
theorem dgL_law_248 : kRun kT cL_law.data.toList 0 (List.flatten (iqC (iqr1 248 iq43 (iqr1 249 iq42 (iqr2 250 (iq21 4) (iqr1 252 iq4 (iqr1 253 iq96 (iqr1 254 iq46 (iqr1 255 iq42 (iqr2 256 (iq21 4) (iqr1 258 iq5 (iqr1 259 iq96 iqE)))))))))) (iqC (iqr1 260 iq46 (iqr1 261 iq42 (iqr2 262 (iq21 4) (iqr1 264 iq6 (iqr1 265 iq96 (iqr1 266 iq46 (iqr1 267 iq45 (iqr3 268 (iq184 147) (iqr2 271 (iq54 5) (iqr1 273 iq44 iqE)))))))))) (iqC (iqr1 274 iq42 (iqr2 275 (iq21 4) (iqr1 277 iq4 (iqr1 278 iq96 (iqr1 279 iq46 (iqr1 280 iq42 (iqr2 281 (iq21 4) (iqr1 283 iq5 (iqr1 284 iq96 (iqr1 285 iq46 iqE)))))))))) (iqC (iqr1 286 iq42 (iqr2 287 (iq21 4) (iqr1 289 iq6 (iqr1 290 iq96 (iqr1 291 iq46 (iqr3 292 (iq182 152) (iqr2 295 (iq54 6) (iqr3 297 (iq167 1548) (iqr1 300 iq43 (iqr1 301 iq42 iqE)))))))))) (iqC (iqr2 302 (iq21 4) (iqr1 304 iq4 (iqr1 305 iq96 (iqr1 306 iq46 (iqr1 307 iq42 (iqr2 308 (iq21 4) (iqr1 310 iq5 (iqr1 311 iq96 (iqr1 312 iq46 (iqr1 313 iq42 iqE)))))))))) (iqC (iqr2 314 (iq21 4) (iqr1 316 iq6 (iqr1 317 iq96 (iqr1 318 iq46 (iqr1 319 iq42 (iqr2 320 (iq21 4) (iqr1 322 iq7 (iqr1 323 iq96 (iqr1 324 iq46 (iqr3 325 (iq153 7) iqE)))))))))) (iqC (iqr1 328 iq4 (iqr3 329 (iq167 4) (iqr1 332 iq3 (iqr1 333 iq45 (iqr3 334 (iq184 153) (iqr2 337 (iq54 5) (iqr1 339 iq44 (iqr1 340 iq42 (iqr2 341 (iq21 4) (iqr1 343 iq4 iqE)))))))))) (iqC (iqr1 344 iq96 (iqr1 345 iq46 (iqr1 346 iq42 (iqr2 347 (iq21 4) (iqr1 349 iq5 (iqr1 350 iq96 (iqr1 351 iq46 (iqr1 352 iq42 (iqr2 353 (iq21 4) (iqr1 355 iq6 iqE)))))))))) (iqC (iqr1 356 iq96 (iqr1 357 iq46 (iqr1 358 iq42 (iqr2 359 (iq21 4) (iqr1 361 iq7 (iqr1 362 iq96 (iqr1 363 iq46 (iqr3 364 (iq153 7) (iqr1 367 iq4 (iqr3 368 (iq167 4) iqE)))))))))) (iqC (iqr1 371 iq3 (iqr3 372 (iq182 156) (iqr2 375 (iq54 6) (iqr3 377 (iq167 1468) (iqr1 380 iq43 (iqr1 381 iq42 (iqr2 382 (iq21 4) (iqr1 384 iq4 (iqr1 385 iq96 (iqr1 386 iq46 iqE)))))))))) iqN))))))))))) = true := by decide +kernel
theorem dgL_law_387 : kRun kT cL_law.data.toList 0 (List.flatten (iqC (iqr1 387 iq42 (iqr2 388 (iq21 4) (iqr1 390 iq5 (iqr1 391 iq96 (iqr1 392 iq46 (iqr1 393 iq45 (iqr3 394 (iq184 157) (iqr2 397 (iq54 5) (iqr1 399 iq44 (iqr1 400 iq42 iqE)))))))))) (iqC (iqr2 401 (iq21 4) (iqr1 403 iq4 (iqr1 404 iq96 (iqr1 405 iq46 (iqr1 406 iq42 (iqr2 407 (iq21 4) (iqr1 409 iq5 (iqr1 410 iq96 (iqr1 411 iq46 (iqr3 412 (iq182 160) iqE)))))))))) (iqC (iqr2 415 (iq54 6) (iqr3 417 (iq167 1428) (iqr1 420 iq43 (iqr1 421 iq42 (iqr2 422 (iq21 4) (iqr1 424 iq4 (iqr1 425 iq96 (iqr1 426 iq46 (iqr1 427 iq42 (iqr2 428 (iq21 4) iqE)))))))))) (iqC (iqr1 430 iq5 (iqr1 431 iq96 (iqr1 432 iq46 (iqr1 433 iq45 (iqr3 434 (iq184 161) (iqr2 437 (iq54 5) (iqr1 439 iq44 (iqr1 440 iq42 (iqr2 441 (iq21 4) (iqr1 443 iq4 iqE)))))))))) (iqC (iqr1 444 iq96 (iqr1 445 iq46 (iqr1 446 iq42 (iqr2 447 (iq21 4) (iqr1 449 iq5 (iqr1 450 iq96 (iqr1 451 iq46 (iqr3 452 (iq182 163) (iqr2 455 (iq54 6) (iqr3 457 (iq167 1388) iqE)))))))))) (iqC (iqr1 460 iq43 (iqr1 461 iq42 (iqr2 462 (iq21 4) (iqr1 464 iq4 (iqr1 465 iq96 (iqr1 466 iq46 (iqr3 467 (iq153 7) (iqr1 470 iq4 (iqr3 471 (iq167 4) (iqr1 474 iq3 iqE)))))))))) (iqC (iqr1 475 iq42 (iqr2 476 (iq21 4) (iqr1 478 iq5 (iqr1 479 iq96 (iqr1 480 iq46 (iqr1 481 iq45 (iqr3 482 (iq184 164) (iqr2 485 (iq54 5) (iqr1 487 iq44 (iqr1 488 iq42 iqE)))))))))) (iqC (iqr2 489 (iq21 4) (iqr1 491 iq4 (iqr1 492 iq96 (iqr1 493 iq46 (iqr3 494 (iq153 7) (iqr1 497 iq4 (iqr3 498 (iq167 4) (iqr1 501 iq3 (iqr1 502 iq42 (iqr2 503 (iq21 4) iqE)))))))))) (iqC (iqr1 505 iq5 (iqr1 506 iq96 (iqr1 507 iq46 (iqr3 508 (iq182 167) (iqr2 511 (iq54 6) (iqr3 513 (iq167 1332) (iqr1 516 iq43 (iqr1 517 iq42 (iqr2 518 (iq21 4) (iqr1 520 iq4 iqE)))))))))) (iqC (iqr1 521 iq96 (iqr1 522 iq46 (iqr1 523 iq42 (iqr2 524 (iq21 4) (iqr1 526 iq5 (iqr1 527 iq96 (iqr1 528 iq46 (iqr1 529 iq45 (iqr3 530 (iq184 168) (iqr2 533 (iq54 5) iqE)))))))))) iqN))))))))))) = true := by decide +kernel
theorem dgL_law_535 : kRun kT cL_law.data.toList 0 (List.flatten (iqC (iqr1 535 iq44 (iqr1 536 iq42 (iqr2 537 (iq21 4) (iqr1 539 iq4 (iqr1 540 iq96 (iqr1 541 iq46 (iqr1 542 iq42 (iqr2 543 (iq21 4) (iqr1 545 iq5 (iqr1 546 iq96 iqE)))))))))) (iqC (iqr1 547 iq46 (iqr3 548 (iq182 170) (iqr2 551 (iq54 6) (iqr3 553 (iq167 1292) (iqr1 556 iq43 (iqr1 557 iq42 (iqr2 558 (iq21 4) (iqr1 560 iq4 (iqr1 561 iq96 (iqr1 562 iq46 iqE)))))))))) (iqC (iqr1 563 iq42 (iqr2 564 (iq21 4) (iqr1 566 iq5 (iqr1 567 iq96 (iqr1 568 iq46 (iqr1 569 iq45 (iqr3 570 (iq184 171) (iqr2 573 (iq54 5) (iqr1 575 iq44 (iqr1 576 iq42 iqE)))))))))) (iqC (iqr2 577 (iq21 4) (iqr1 579 iq4 (iqr1 580 iq96 (iqr1 581 iq46 (iqr1 582 iq42 (iqr2 583 (iq21 4) (iqr1 585 iq5 (iqr1 586 iq96 (iqr1 587 iq46 (iqr3 588 (iq182 173) iqE)))))))))) (iqC (iqr2 591 (iq54 6) (iqr3 593 (iq167 1252) (iqr1 596 iq43 (iqr1 597 iq42 (iqr2 598 (iq21 4) (iqr1 600 iq4 (iqr1 601 iq96 (iqr1 602 iq46 (iqr1 603 iq42 (iqr2 604 (iq21 4) iqE)))))))))) (iqC (iqr1 606 iq5 (iqr1 607 iq96 (iqr1 608 iq46 (iqr1 609 iq42 (iqr2 610 (iq21 4) (iqr1 612 iq6 (iqr1 613 iq96 (iqr1 614 iq46 (iqr3 615 (iq153 7) (iqr1 618 iq4 iqE)))))))))) (iqC (iqr3 619 (iq167 4) (iqr1 622 iq3 (iqr1 623 iq45 (iqr3 624 (iq184 174) (iqr2 627 (iq54 5) (iqr1 629 iq44 (iqr1 630 iq42 (iqr2 631 (iq21 4) (iqr1 633 iq4 (iqr1 634 iq96 iqE)))))))))) (iqC (iqr1 635 iq46 (iqr1 636 iq42 (iqr2 637 (iq21 4) (iqr1 639 iq5 (iqr1 640 iq96 (iqr1 641 iq46 (iqr1 642 iq42 (iqr2 643 (iq21 4) (iqr1 645 iq6 (iqr1 646 iq96 iqE)))))))))) (iqC (iqr1 647 iq46 (iqr3 648 (iq153 7) (iqr1 651 iq4 (iqr3 652 (iq167 4) (iqr1 655 iq3 (iqr3 656 (iq182 177) (iqr2 659 (iq54 6) (iqr3 661 (iq167 1184) (iqr1 664 iq43 (iqr1 665 iq42 iqE)))))))))) (iqC (iqr2 666 (iq21 4) (iqr1 668 iq4 (iqr1 669 iq96 (iqr1 670 iq46 (iqr1 671 iq45 (iqr3 672 (iq184 178) (iqr2 675 (iq54 5) (iqr1 677 iq44 (iqr1 678 iq42 (iqr2 679 (iq21 4) iqE)))))))))) iqN))))))))))) = true := by decide +kernel
theorem dgL_law_681 : kRun kT cL_law.data.toList 0 (List.flatten (iqC (iqr1 681 iq4 (iqr1 682 iq96 (iqr1 683 iq46 (iqr3 684 (iq182 181) (iqr2 687 (iq54 6) (iqr3 689 (iq167 1156) (iqr1 692 iq43 (iqr3 693 (iq182 182) (iqr1 696 iq87 (iqr1 697 iq44 iqE)))))))))) (iqC (iqr3 698 (iq182 186) (iqr1 701 iq87 (iqr3 702 (iq167 1143) (iqr1 705 iq43 (iqr1 706 iq42 (iqr2 707 (iq21 4) (iqr1 709 iq4 (iqr1 710 iq96 (iqr1 711 iq46 (iqr1 712 iq42 iqE)))))))))) (iqC (iqr2 713 (iq21 4) (iqr1 715 iq5 (iqr1 716 iq96 (iqr1 717 iq46 (iqr1 718 iq42 (iqr2 719 (iq21 4) (iqr1 721 iq6 (iqr1 722 iq96 (iqr1 723 iq46 (iqr1 724 iq45 iqE)))))))))) (iqC (iqr3 725 (iq184 187) (iqr2 728 (iq54 5) (iqr1 730 iq44 (iqr1 731 iq42 (iqr2 732 (iq21 4) (iqr1 734 iq4 (iqr1 735 iq96 (iqr1 736 iq46 (iqr1 737 iq42 (iqr2 738 (iq21 4) iqE)))))))))) (iqC (iqr1 740 iq5 (iqr1 741 iq96 (iqr1 742 iq46 (iqr1 743 iq42 (iqr2 744 (iq21 4) (iqr1 746 iq6 (iqr1 747 iq96 (iqr1 748 iq46 (iqr3 749 (iq182 189) (iqr2 752 (iq54 6) iqE)))))))))) (iqC (iqr3 754 (iq167 1091) (iqr1 757 iq43 (iqr1 758 iq42 (iqr2 759 (iq21 4) (iqr1 761 iq4 (iqr1 762 iq96 (iqr1 763 iq46 (iqr1 764 iq42 (iqr2 765 (iq21 4) (iqr1 767 iq5 iqE)))))))))) (iqC (iqr1 768 iq96 (iqr1 769 iq46 (iqr1 770 iq42 (iqr2 771 (iq21 4) (iqr1 773 iq6 (iqr1 774 iq96 (iqr1 775 iq46 (iqr1 776 iq45 (iqr3 777 (iq184 190) (iqr2 780 (iq54 5) iqE)))))))))) (iqC (iqr1 782 iq44 (iqr1 783 iq42 (iqr2 784 (iq21 4) (iqr1 786 iq4 (iqr1 787 iq96 (iqr1 788 iq46 (iqr1 789 iq42 (iqr2 790 (iq21 4) (iqr1 792 iq5 (iqr1 793 iq96 iqE)))))))))) (iqC (iqr1 794 iq46 (iqr1 795 iq42 (iqr2 796 (iq21 4) (iqr1 798 iq6 (iqr1 799 iq96 (iqr1 800 iq46 (iqr3 801 (iq182 192) (iqr2 804 (iq54 6) (iqr3 806 (iq167 1039) (iqr1 809 iq43 iqE)))))))))) (iqC (iqr1 810 iq42 (iqr2 811 (iq21 4) (iqr1 813 iq4 (iqr1 814 iq96 (iqr1 815 iq46 (iqr1 816 iq42 (iqr2 817 (iq21 4) (iqr1 819 iq5 (iqr1 820 iq96 (iqr1 821 iq46 iqE)))))))))) iqN))))))))))) = true := by decide +kernel
theorem dgL_law_822 : kRun kT cL_law.data.toList 0 (List.flatten (iqC (iqr1 822 iq42 (iqr2 823 (iq21 4) (iqr1 825 iq6 (iqr1 826 iq96 (iqr1 827 iq46 (iqr1 828 iq42 (iqr2 829 (iq21 4) (iqr1 831 iq7 (iqr1 832 iq96 (iqr1 833 iq46 iqE)))))))))) (iqC (iqr1 834 iq45 (iqr3 835 (iq184 193) (iqr2 838 (iq54 5) (iqr1 840 iq44 (iqr1 841 iq42 (iqr2 842 (iq21 4) (iqr1 844 iq4 (iqr1 845 iq96 (iqr1 846 iq46 (iqr1 847 iq42 iqE)))))))))) (iqC (iqr2 848 (iq21 4) (iqr1 850 iq5 (iqr1 851 iq96 (iqr1 852 iq46 (iqr1 853 iq42 (iqr2 854 (iq21 4) (iqr1 856 iq6 (iqr1 857 iq96 (iqr1 858 iq46 (iqr1 859 iq42 iqE)))))))))) (iqC (iqr2 860 (iq21 4) (iqr1 862 iq7 (iqr1 863 iq96 (iqr1 864 iq46 (iqr3 865 (iq182 196) (iqr2 868 (iq54 6) (iqr3 870 (iq167 975) (iqr1 873 iq43 (iqr1 874 iq42 (iqr2 875 (iq21 4) iqE)))))))))) (iqC (iqr1 877 iq4 (iqr1 878 iq96 (iqr1 879 iq46 (iqr1 880 iq42 (iqr2 881 (iq21 4) (iqr1 883 iq5 (iqr1 884 iq96 (iqr1 885 iq46 (iqr1 886 iq45 (iqr3 887 (iq184 197) iqE)))))))))) (iqC (iqr2 890 (iq54 5) (iqr1 892 iq44 (iqr1 893 iq42 (iqr2 894 (iq21 4) (iqr1 896 iq4 (iqr1 897 iq96 (iqr1 898 iq46 (iqr1 899 iq42 (iqr2 900 (iq21 4) (iqr1 902 iq5 iqE)))))))))) (iqC (iqr1 903 iq96 (iqr1 904 iq46 (iqr3 905 (iq182 199) (iqr2 908 (iq54 6) (iqr3 910 (iq167 935) (iqr1 913 iq43 (iqr1 914 iq42 (iqr2 915 (iq21 4) (iqr1 917 iq4 (iqr1 918 iq96 iqE)))))))))) (iqC (iqr1 919 iq46 (iqr1 920 iq45 (iqr3 921 (iq184 200) (iqr2 924 (iq54 5) (iqr1 926 iq44 (iqr1 927 iq42 (iqr2 928 (iq21 4) (iqr1 930 iq4 (iqr1 931 iq96 (iqr1 932 iq46 iqE)))))))))) (iqC (iqr3 933 (iq182 202) (iqr2 936 (iq54 6) (iqr3 938 (iq167 907) (iqr1 941 iq43 (iqr1 942 iq42 (iqr2 943 (iq21 4) (iqr1 945 iq4 (iqr1 946 iq96 (iqr1 947 iq46 (iqr1 948 iq45 iqE)))))))))) (iqC (iqr3 949 (iq184 203) (iqr2 952 (iq54 5) (iqr1 954 iq44 (iqr1 955 iq42 (iqr2 956 (iq21 4) (iqr1 958 iq4 (iqr1 959 iq96 (iqr1 960 iq46 (iqr3 961 (iq182 205) (iqr2 964 (iq54 6) iqE)))))))))) iqN))))))))))) = true := by decide +kernel
theorem dgL_law_966 : kRun kT cL_law.data.toList 0 (List.flatten (iqC (iqr3 966 (iq167 879) (iqr1 969 iq43 (iqr1 970 iq42 (iqr2 971 (iq21 4) (iqr1 973 iq4 (iqr1 974 iq96 (iqr1 975 iq46 (iqr1 976 iq45 (iqr3 977 (iq184 206) (iqr2 980 (iq54 5) iqE)))))))))) (iqC (iqr1 982 iq44 (iqr1 983 iq42 (iqr2 984 (iq21 4) (iqr1 986 iq4 (iqr1 987 iq96 (iqr1 988 iq46 (iqr3 989 (iq182 208) (iqr2 992 (iq54 6) (iqr3 994 (iq167 851) (iqr1 997 iq43 iqE)))))))))) (iqC (iqr1 998 iq42 (iqr2 999 (iq21 4) (iqr1 1001 iq4 (iqr1 1002 iq96 (iqr1 1003 iq46 (iqr1 1004 iq45 (iqr3 1005 (iq184 209) (iqr2 1008 (iq54 5) (iqr1 1010 iq44 (iqr1 1011 iq42 iqE)))))))))) (iqC (iqr2 1012 (iq21 4) (iqr1 1014 iq4 (iqr1 1015 iq96 (iqr1 1016 iq46 (iqr3 1017 (iq182 211) (iqr2 1020 (iq54 6) (iqr3 1022 (iq167 823) (iqr1 1025 iq43 (iqr1 1026 iq42 (iqr2 1027 (iq21 4) iqE)))))))))) (iqC (iqr1 1029 iq4 (iqr1 1030 iq96 (iqr1 1031 iq46 (iqr1 1032 iq45 (iqr3 1033 (iq184 212) (iqr2 1036 (iq54 5) (iqr1 1038 iq44 (iqr1 1039 iq42 (iqr2 1040 (iq21 4) (iqr1 1042 iq4 iqE)))))))))) (iqC (iqr1 1043 iq96 (iqr1 1044 iq46 (iqr3 1045 (iq182 214) (iqr2 1048 (iq58 6) (iqr3 1050 (iq167 795) (iqr1 1053 iq43 (iqr1 1054 iq42 (iqr2 1055 (iq21 4) (iqr1 1057 iq4 (iqr1 1058 iq96 iqE)))))))))) (iqC (iqr1 1059 iq46 (iqr1 1060 iq42 (iqr2 1061 (iq21 4) (iqr1 1063 iq5 (iqr1 1064 iq96 (iqr1 1065 iq46 (iqr1 1066 iq45 (iqr3 1067 (iq184 215) (iqr2 1070 (iq54 5) (iqr1 1072 iq44 iqE)))))))))) (iqC (iqr1 1073 iq42 (iqr2 1074 (iq21 4) (iqr1 1076 iq4 (iqr1 1077 iq96 (iqr1 1078 iq46 (iqr1 1079 iq42 (iqr2 1080 (iq21 4) (iqr1 1082 iq5 (iqr1 1083 iq96 (iqr1 1084 iq46 iqE)))))))))) (iqC (iqr3 1085 (iq182 217) (iqr2 1088 (iq54 6) (iqr3 1090 (iq167 755) (iqr1 1093 iq43 (iqr1 1094 iq42 (iqr2 1095 (iq21 4) (iqr1 1097 iq4 (iqr1 1098 iq96 (iqr1 1099 iq46 (iqr1 1100 iq42 iqE)))))))))) (iqC (iqr2 1101 (iq21 4) (iqr1 1103 iq5 (iqr1 1104 iq96 (iqr1 1105 iq46 (iqr1 1106 iq45 (iqr3 1107 (iq184 218) (iqr2 1110 (iq54 5) (iqr1 1112 iq44 (iqr1 1113 iq42 (iqr2 1114 (iq21 4) iqE)))))))))) iqN))))))))))) = true := by decide +kernel
theorem dgL_law_1116 : kRun kT cL_law.data.toList 0 (List.flatten (iqC (iqr1 1116 iq4 (iqr1 1117 iq96 (iqr1 1118 iq46 (iqr1 1119 iq42 (iqr2 1120 (iq21 4) (iqr1 1122 iq5 (iqr1 1123 iq96 (iqr1 1124 iq46 (iqr3 1125 (iq182 220) (iqr2 1128 (iq54 6) iqE)))))))))) (iqC (iqr3 1130 (iq167 715) (iqr1 1133 iq43 (iqr1 1134 iq42 (iqr2 1135 (iq21 4) (iqr1 1137 iq4 (iqr1 1138 iq96 (iqr1 1139 iq46 (iqr1 1140 iq42 (iqr2 1141 (iq21 4) (iqr1 1143 iq5 iqE)))))))))) (iqC (iqr1 1144 iq96 (iqr1 1145 iq46 (iqr1 1146 iq45 (iqr3 1147 (iq184 221) (iqr2 1150 (iq54 5) (iqr1 1152 iq44 (iqr1 1153 iq42 (iqr2 1154 (iq21 4) (iqr1 1156 iq4 (iqr1 1157 iq96 iqE)))))))))) (iqC (iqr1 1158 iq46 (iqr1 1159 iq42 (iqr2 1160 (iq21 4) (iqr1 1162 iq5 (iqr1 1163 iq96 (iqr1 1164 iq46 (iqr3 1165 (iq182 223) (iqr2 1168 (iq54 6) (iqr3 1170 (iq167 675) (iqr1 1173 iq43 iqE)))))))))) (iqC (iqr1 1174 iq42 (iqr2 1175 (iq21 4) (iqr1 1177 iq4 (iqr1 1178 iq96 (iqr1 1179 iq46 (iqr1 1180 iq42 (iqr2 1181 (iq21 4) (iqr1 1183 iq5 (iqr1 1184 iq96 (iqr1 1185 iq46 iqE)))))))))) (iqC (iqr1 1186 iq42 (iqr2 1187 (iq21 4) (iqr1 1189 iq6 (iqr1 1190 iq96 (iqr1 1191 iq46 (iqr1 1192 iq45 (iqr3 1193 (iq184 224) (iqr2 1196 (iq54 5) (iqr1 1198 iq44 (iqr1 1199 iq42 iqE)))))))))) (iqC (iqr2 1200 (iq21 4) (iqr1 1202 iq4 (iqr1 1203 iq96 (iqr1 1204 iq46 (iqr1 1205 iq42 (iqr2 1206 (iq21 4) (iqr1 1208 iq5 (iqr1 1209 iq96 (iqr1 1210 iq46 (iqr1 1211 iq42 iqE)))))))))) (iqC (iqr2 1212 (iq21 4) (iqr1 1214 iq6 (iqr1 1215 iq96 (iqr1 1216 iq46 (iqr3 1217 (iq182 226) (iqr2 1220 (iq54 6) (iqr3 1222 (iq167 623) (iqr1 1225 iq43 (iqr1 1226 iq42 (iqr2 1227 (iq21 4) iqE)))))))))) (iqC (iqr1 1229 iq4 (iqr1 1230 iq96 (iqr1 1231 iq46 (iqr1 1232 iq42 (iqr2 1233 (iq21 4) (iqr1 1235 iq5 (iqr1 1236 iq96 (iqr1 1237 iq46 (iqr1 1238 iq42 (iqr2 1239 (iq21 4) iqE)))))))))) (iqC (iqr1 1241 iq6 (iqr1 1242 iq96 (iqr1 1243 iq46 (iqr1 1244 iq45 (iqr3 1245 (iq184 227) (iqr2 1248 (iq54 5) (iqr1 1250 iq44 (iqr1 1251 iq42 (iqr2 1252 (iq21 4) (iqr1 1254 iq4 iqE)))))))))) iqN))))))))))) = true := by decide +kernel
theorem dgL_law_1255 : kRun kT cL_law.data.toList 0 (List.flatten (iqC (iqr1 1255 iq96 (iqr1 1256 iq46 (iqr1 1257 iq42 (iqr2 1258 (iq21 4) (iqr1 1260 iq5 (iqr1 1261 iq96 (iqr1 1262 iq46 (iqr1 1263 iq42 (iqr2 1264 (iq21 4) (iqr1 1266 iq6 iqE)))))))))) (iqC (iqr1 1267 iq96 (iqr1 1268 iq46 (iqr3 1269 (iq182 229) (iqr2 1272 (iq54 6) (iqr3 1274 (iq167 571) (iqr1 1277 iq43 (iqr1 1278 iq42 (iqr2 1279 (iq21 4) (iqr1 1281 iq4 (iqr1 1282 iq96 iqE)))))))))) (iqC (iqr1 1283 iq46 (iqr1 1284 iq45 (iqr3 1285 (iq184 230) (iqr2 1288 (iq54 5) (iqr1 1290 iq44 (iqr1 1291 iq42 (iqr2 1292 (iq21 4) (iqr1 1294 iq4 (iqr1 1295 iq96 (iqr1 1296 iq46 iqE)))))))))) (iqC (iqr3 1297 (iq182 232) (iqr2 1300 (iq54 6) (iqr3 1302 (iq167 543) (iqr1 1305 iq43 (iqr3 1306 (iq182 233) (iqr1 1309 iq87 (iqr1 1310 iq44 (iqr3 1311 (iq182 236) (iqr1 1314 iq87 (iqr3 1315 (iq167 530) iqE)))))))))) (iqC (iqr1 1318 iq43 (iqr1 1319 iq42 (iqr2 1320 (iq21 4) (iqr1 1322 iq4 (iqr1 1323 iq96 (iqr1 1324 iq46 (iqr1 1325 iq42 (iqr2 1326 (iq21 4) (iqr1 1328 iq5 (iqr1 1329 iq96 iqE)))))))))) (iqC (iqr1 1330 iq46 (iqr1 1331 iq45 (iqr3 1332 (iq184 237) (iqr2 1335 (iq54 5) (iqr1 1337 iq44 (iqr1 1338 iq42 (iqr2 1339 (iq21 4) (iqr1 1341 iq4 (iqr1 1342 iq96 (iqr1 1343 iq46 iqE)))))))))) (iqC (iqr1 1344 iq42 (iqr2 1345 (iq21 4) (iqr1 1347 iq5 (iqr1 1348 iq96 (iqr1 1349 iq46 (iqr3 1350 (iq182 239) (iqr2 1353 (iq54 6) (iqr3 1355 (iq167 490) (iqr1 1358 iq43 (iqr1 1359 iq42 iqE)))))))))) (iqC (iqr2 1360 (iq21 4) (iqr1 1362 iq4 (iqr1 1363 iq96 (iqr1 1364 iq46 (iqr1 1365 iq42 (iqr2 1366 (iq21 4) (iqr1 1368 iq5 (iqr1 1369 iq96 (iqr1 1370 iq46 (iqr1 1371 iq45 iqE)))))))))) (iqC (iqr3 1372 (iq184 240) (iqr2 1375 (iq54 5) (iqr1 1377 iq44 (iqr1 1378 iq42 (iqr2 1379 (iq21 4) (iqr1 1381 iq4 (iqr1 1382 iq96 (iqr1 1383 iq46 (iqr1 1384 iq42 (iqr2 1385 (iq21 4) iqE)))))))))) (iqC (iqr1 1387 iq5 (iqr1 1388 iq96 (iqr1 1389 iq46 (iqr3 1390 (iq182 242) (iqr2 1393 (iq54 6) (iqr3 1395 (iq167 450) (iqr1 1398 iq43 (iqr3 1399 (iq182 243) (iqr1 1402 iq87 (iqr1 1403 iq44 iqE)))))))))) iqN))))))))))) = true := by decide +kernel
theorem dgL_law_1404 : kRun kT cL_law.data.toList 0 (List.flatten (iqC (iqr3 1404 (iq182 246) (iqr1 1407 iq87 (iqr3 1408 (iq167 437) (iqr1 1411 iq43 (iqr1 1412 iq42 (iqr2 1413 (iq21 4) (iqr1 1415 iq4 (iqr1 1416 iq96 (iqr1 1417 iq46 (iqr1 1418 iq45 iqE)))))))))) (iqC (iqr3 1419 (iq184 247) (iqr2 1422 (iq54 5) (iqr1 1424 iq44 (iqr1 1425 iq42 (iqr2 1426 (iq21 4) (iqr1 1428 iq4 (iqr1 1429 iq96 (iqr1 1430 iq46 (iqr3 1431 (iq182 249) (iqr2 1434 (iq54 6) iqE)))))))))) (iqC (iqr3 1436 (iq167 409) (iqr1 1439 iq43 (iqr3 1440 (iq182 250) (iqr1 1443 iq87 (iqr1 1444 iq44 (iqr3 1445 (iq182 253) (iqr1 1448 iq87 (iqr3 1449 (iq167 396) (iqr1 1452 iq43 (iqr1 1453 iq42 iqE)))))))))) (iqC (iqr2 1454 (iq21 4) (iqr1 1456 iq4 (iqr1 1457 iq96 (iqr1 1458 iq46 (iqr1 1459 iq42 (iqr2 1460 (iq21 4) (iqr1 1462 iq5 (iqr1 1463 iq96 (iqr1 1464 iq46 (iqr1 1465 iq45 iqE)))))))))) (iqC (iqr3 1466 (iq184 254) (iqr2 1469 (iq54 5) (iqr1 1471 iq44 (iqr1 1472 iq42 (iqr2 1473 (iq21 4) (iqr1 1475 iq4 (iqr1 1476 iq96 (iqr1 1477 iq46 (iqr1 1478 iq42 (iqr2 1479 (iq21 4) iqE)))))))))) (iqC (iqr1 1481 iq5 (iqr1 1482 iq96 (iqr1 1483 iq46 (iqr3 1484 (iq182 256) (iqr2 1487 (iq54 6) (iqr3 1489 (iq167 356) (iqr1 1492 iq43 (iqr3 1493 (iq182 257) (iqr1 1496 iq87 (iqr1 1497 iq44 iqE)))))))))) (iqC (iqr3 1498 (iq182 260) (iqr1 1501 iq87 (iqr3 1502 (iq167 343) (iqr1 1505 iq43 (iqr1 1506 iq42 (iqr2 1507 (iq21 4) (iqr1 1509 iq4 (iqr1 1510 iq96 (iqr1 1511 iq46 (iqr1 1512 iq42 iqE)))))))))) (iqC (iqr2 1513 (iq21 4) (iqr1 1515 iq5 (iqr1 1516 iq96 (iqr1 1517 iq46 (iqr1 1518 iq45 (iqr3 1519 (iq184 261) (iqr2 1522 (iq54 5) (iqr1 1524 iq44 (iqr1 1525 iq42 (iqr2 1526 (iq21 4) iqE)))))))))) (iqC (iqr1 1528 iq4 (iqr1 1529 iq96 (iqr1 1530 iq46 (iqr1 1531 iq42 (iqr2 1532 (iq21 4) (iqr1 1534 iq5 (iqr1 1535 iq96 (iqr1 1536 iq46 (iqr3 1537 (iq182 263) (iqr2 1540 (iq54 6) iqE)))))))))) (iqC (iqr3 1542 (iq167 303) (iqr1 1545 iq43 (iqr1 1546 iq42 (iqr2 1547 (iq21 4) (iqr1 1549 iq4 (iqr1 1550 iq96 (iqr1 1551 iq46 (iqr1 1552 iq45 (iqr3 1553 (iq184 264) (iqr2 1556 (iq54 5) iqE)))))))))) iqN))))))))))) = true := by decide +kernel
theorem dgL_law_1558 : kRun kT cL_law.data.toList 0 (List.flatten (iqC (iqr1 1558 iq44 (iqr1 1559 iq42 (iqr2 1560 (iq21 4) (iqr1 1562 iq4 (iqr1 1563 iq96 (iqr1 1564 iq46 (iqr3 1565 (iq182 266) (iqr2 1568 (iq54 6) (iqr3 1570 (iq167 275) (iqr1 1573 iq43 iqE)))))))))) (iqC (iqr1 1574 iq42 (iqr2 1575 (iq21 4) (iqr1 1577 iq4 (iqr1 1578 iq96 (iqr1 1579 iq46 (iqr1 1580 iq45 (iqr3 1581 (iq184 267) (iqr2 1584 (iq54 5) (iqr1 1586 iq44 (iqr1 1587 iq42 iqE)))))))))) (iqC (iqr2 1588 (iq21 4) (iqr1 1590 iq4 (iqr1 1591 iq96 (iqr1 1592 iq46 (iqr3 1593 (iq182 269) (iqr2 1596 (iq54 6) (iqr3 1598 (iq167 247) (iqr1 1601 iq43 (iqr3 1602 (iq182 270) (iqr1 1605 iq87 iqE)))))))))) (iqC (iqr1 1606 iq44 (iqr3 1607 (iq182 273) (iqr1 1610 iq87 (iqr3 1611 (iq167 234) (iqr1 1614 iq43 (iqr1 1615 iq42 (iqr2 1616 (iq21 4) (iqr1 1618 iq4 (iqr1 1619 iq96 (iqr1 1620 iq46 iqE)))))))))) (iqC (iqr1 1621 iq42 (iqr2 1622 (iq21 4) (iqr1 1624 iq5 (iqr1 1625 iq96 (iqr1 1626 iq46 (iqr1 1627 iq45 (iqr3 1628 (iq184 274) (iqr2 1631 (iq54 5) (iqr1 1633 iq44 (iqr1 1634 iq42 iqE)))))))))) (iqC (iqr2 1635 (iq21 4) (iqr1 1637 iq4 (iqr1 1638 iq96 (iqr1 1639 iq46 (iqr1 1640 iq42 (iqr2 1641 (iq21 4) (iqr1 1643 iq5 (iqr1 1644 iq96 (iqr1 1645 iq46 (iqr3 1646 (iq182 276) iqE)))))))))) (iqC (iqr2 1649 (iq54 6) (iqr3 1651 (iq167 194) (iqr1 1654 iq43 (iqr1 1655 iq42 (iqr2 1656 (iq21 4) (iqr1 1658 iq4 (iqr1 1659 iq96 (iqr1 1660 iq46 (iqr1 1661 iq45 (iqr3 1662 (iq184 277) iqE)))))))))) (iqC (iqr2 1665 (iq54 5) (iqr1 1667 iq44 (iqr1 1668 iq42 (iqr2 1669 (iq21 4) (iqr1 1671 iq4 (iqr1 1672 iq96 (iqr1 1673 iq46 (iqr3 1674 (iq182 279) (iqr2 1677 (iq54 6) (iqr3 1679 (iq167 166) iqE)))))))))) (iqC (iqr1 1682 iq43 (iqr3 1683 (iq182 280) (iqr1 1686 iq87 (iqr1 1687 iq44 (iqr3 1688 (iq182 283) (iqr1 1691 iq87 (iqr3 1692 (iq167 153) (iqr1 1695 iq43 (iqr1 1696 iq42 (iqr2 1697 (iq21 4) iqE)))))))))) (iqC (iqr1 1699 iq4 (iqr1 1700 iq96 (iqr1 1701 iq46 (iqr1 1702 iq45 (iqr3 1703 (iq184 284) (iqr2 1706 (iq54 5) (iqr1 1708 iq44 (iqr1 1709 iq42 (iqr2 1710 (iq21 4) (iqr1 1712 iq4 iqE)))))))))) iqN))))))))))) = true := by decide +kernel
theorem dgL_law_1713 : kRun kT cL_law.data.toList 0 (List.flatten (iqC (iqr1 1713 iq96 (iqr1 1714 iq46 (iqr3 1715 (iq182 286) (iqr2 1718 (iq54 6) (iqr3 1720 (iq167 125) (iqr1 1723 iq43 (iqr3 1724 (iq182 287) (iqr1 1727 iq87 (iqr1 1728 iq44 (iqr3 1729 (iq182 290) iqE)))))))))) (iqC (iqr1 1732 iq87 (iqr3 1733 (iq167 112) (iqr1 1736 iq43 (iqr1 1737 iq42 (iqr2 1738 (iq21 4) (iqr1 1740 iq4 (iqr1 1741 iq96 (iqr1 1742 iq46 (iqr1 1743 iq45 (iqr3 1744 (iq184 291) iqE)))))))))) (iqC (iqr2 1747 (iq54 5) (iqr1 1749 iq44 (iqr1 1750 iq42 (iqr2 1751 (iq21 4) (iqr1 1753 iq4 (iqr1 1754 iq96 (iqr1 1755 iq46 (iqr3 1756 (iq182 293) (iqr2 1759 (iq54 6) (iqr3 1761 (iq167 84) iqE)))))))))) (iqC (iqr1 1764 iq43 (iqr3 1765 (iq182 294) (iqr1 1768 iq87 (iqr1 1769 iq44 (iqr3 1770 (iq182 297) (iqr1 1773 iq87 (iqr3 1774 (iq167 71) (iqr1 1777 iq43 (iqr1 1778 iq42 (iqr2 1779 (iq21 4) iqE)))))))))) (iqC (iqr1 1781 iq4 (iqr1 1782 iq96 (iqr1 1783 iq46 (iqr1 1784 iq45 (iqr3 1785 (iq184 298) (iqr2 1788 (iq54 5) (iqr1 1790 iq44 (iqr1 1791 iq42 (iqr2 1792 (iq21 4) (iqr1 1794 iq4 iqE)))))))))) (iqC (iqr1 1795 iq96 (iqr1 1796 iq46 (iqr3 1797 (iq182 300) (iqr2 1800 (iq54 6) (iqr3 1802 (iq167 43) (iqr1 1805 iq43 (iqr3 1806 (iq182 301) (iqr1 1809 iq87 (iqr1 1810 iq44 (iqr3 1811 (iq182 304) iqE)))))))))) (iqC (iqr1 1814 iq87 (iqr3 1815 (iq167 30) (iqr1 1818 iq43 (iqr3 1819 (iq182 305) (iqr1 1822 iq87 (iqr1 1823 iq44 (iqr3 1824 (iq182 309) (iqr1 1827 iq87 (iqr3 1828 (iq167 17) (iqr1 1831 iq43 iqE)))))))))) (iqC (iqr3 1832 (iq182 310) (iqr1 1835 iq44 (iqr3 1836 (iq182 314) (iqr1 1839 iq148 (iqr3 1840 (iq153 5) (iqr1 1843 iq3 (iqr1 1844 iq172 (iqr3 1845 (iq132 4 5) (iqr3 1848 (iq167 (-1821)) (iqr1 1851 iq4 iqE)))))))))) (iqC (iqr1 1852 iq172 iqE) iqN)))))))))) = true := by decide +kernel
end
-- 18.lawbase.lean.txt
section
/-! THE CLAIM OUT OF ONE WALK OF THE LAW'S BODY. Your part is whole_start (and what it stands on); all else here is the same for every law, but numbers. -/
noncomputable def R_law : String := "SpanbookerLaw"
noncomputable def lw_P (b : Addr) (xs : List Int32) (args : Array Value) (s : State) : Prop := args = #[.ref b] ∧ s.IntsAt b xs ∧ xs.length ≤ 320 ∧ (Jvm.Cond.and given_1 narrow_1).before args s = true
noncomputable def lw_Q (_ : Array Value) (s : State) (o : Outcome) (t : State) : Prop := o = .returned (some (.int 1)) ∧ Framed s o t [] 600128 7301098
noncomputable def lw_Z (below : List Frame) (a : Array Value) (s : State) : State → Prop := fun t => ∃ o, t.status = .running ∧ Ended t below o ∧ lw_Q a s o t
/-- the law's own end, with 1 on the stack, nothing written that was there before, its room as the claim has it -/
theorem pd_59 : (parseMethodDescriptor "(LSpanbooker;IIILSpanbookerLaw$Out;)I").map (fun d => d.parameters.length) = some 5 := by decide +kernel
theorem pd_60 : (parseMethodDescriptor "(LSpanbooker;ILSpanbookerLaw$Out;)I").map (fun d => d.parameters.length) = some 3 := by decide +kernel
theorem pd_61 : (parseMethodDescriptor "(LSpanbooker;IIZLSpanbookerLaw$Out;)I").map (fun d => d.parameters.length) = some 5 := by decide +kernel
theorem pd_62 : (parseMethodDescriptor "(LSpanbooker;IILSpanbookerLaw$Out;)I").map (fun d => d.parameters.length) = some 4 := by decide +kernel
theorem pd_63 : (parseMethodDescriptor "(LSpanbooker;IIIILSpanbookerLaw$Out;)I").map (fun d => d.parameters.length) = some 6 := by decide +kernel
theorem pd_64 : (parseMethodDescriptor "(LSpanbooker;IIIZLSpanbookerLaw$Out;)I").map (fun d => d.parameters.length) = some 6 := by decide +kernel
theorem pd_65 : (parseMethodDescriptor "(LSpanbooker;ZILSpanbookerLaw$Out;)I").map (fun d => d.parameters.length) = some 4 := by decide +kernel
theorem pd_66 : (parseMethodDescriptor "(IIZ)I").map (fun d => d.parameters.length) = some 3 := by decide +kernel
theorem pd_67 : (parseMethodDescriptor "(IIII)I").map (fun d => d.parameters.length) = some 4 := by decide +kernel
theorem pd_68 : (parseMethodDescriptor "(IIIZ)I").map (fun d => d.parameters.length) = some 4 := by decide +kernel
theorem pd_69 : (parseMethodDescriptor "(ZI)I").map (fun d => d.parameters.length) = some 2 := by decide +kernel
theorem pd_70 : (parseMethodDescriptor "(I)Ljava/lang/String;").map (fun d => d.parameters.length) = some 1 := by decide +kernel
theorem lw_ret {p : Program} {l : Launch} {e : Env} {s : State} {m : MethodId} {below : List Frame} {meth : Method} {c : Code} {b : Nat} (hx : p.tables.exec = Jvm.exec) (hb : c.code = code) (hr : meth.sig.returnType = ret) (hlocks : meth.locks = false) {pc : Nat} {H : Heap} {ls : Array Slot} (hdg : decode code pc = .ok (.ireturn, 1)) : W p l e room_1 s m #[Value.ref b] below meth c H [] 600128 7301098 (lw_Z below #[Value.ref b] s) (F0 m pc ls [.int 1]) := by
  intro T hT X
  obtain ⟨fs, hret, hrun, hended, hW, hframe⟩ := X.leave (v := some (.int 1)) (hlocks := hlocks) (fun h => by rw [hr] at h; cases h)
  have hmeth' : T.vm.method? m = some meth := X.method'
  refine ⟨T.setFrames fs, ?_, .returned (some (.int 1)), hrun, hended, rfl, ⟨_, rfl⟩, hW, hframe⟩
  jvm_step X.here [X.here.top, hx, hb, hdg, hmeth', hr, ret, narrow_b1]
  (try refine ⟨rfl, ?_⟩); (try refine ⟨rfl, ?_⟩)
  first | (intro acts; rw [hret _ acts rfl rfl rfl]) | rw [hret _ _ rfl rfl rfl]
  exact Steps.refl _
/-- what holds at the law's entry: the machine, the code, the tables' words (any of lw_tbl by 'hts w (by decide +kernel)'), the script of L ints xs at the cell b, what the Statement gives of the start (any of its parts by flat_of_before) -/
noncomputable def lw_At (p : Program) (s : State) (m : MethodId) (meth : Method) (c : Code) (b L : Nat) (xs : Nat → Int32) : Prop :=
  p.tables.exec = Jvm.exec ∧ c.code = code ∧ meth.sig.returnType = ret ∧ c.maxLocals = 7 ∧ s.vm.findClass R_law = some m.cls ∧ (∀ w ∈ lw_tbl, w.before #[Value.ref b] s = true) ∧ va_X b L xs s s.heap ∧ b < s.heap.size ∧ meth.locks = false ∧ (Jvm.Cond.and given_1 narrow_1).before #[Value.ref b] s = true
/-! the law's own: a call in 'try', a call that moves the reference's arrays -/
theorem kEx_1 {k : Nat} (h : k = 1) : kEx k = "java/lang/IndexOutOfBoundsException" := by rw [kEx, if_pos h]
theorem kEx_2 {k : Nat} (h : ¬ k = 1) : kEx k = "java/lang/IllegalArgumentException" := by rw [kEx, if_neg h]
noncomputable abbrev kWt (y : MethodName) (cc : ByteArray) (maxL : Nat) (ret : Option FieldType) (hh : List (Nat × Nat × Nat × Nat)) (n : Nat) : Prop := Cond.codeWith y cc maxL ret hh ∈ kBIG ∧ Cond.static y ∈ kBIG ∧ Cond.initialized y.cls ∈ kBIG ∧ y.cls ≠ "java/lang/invoke/MethodHandle" ∧ y.cls ≠ "java/lang/invoke/VarHandle" ∧ (parseMethodDescriptor y.desc).map (fun d => d.parameters.length) = some n
theorem kcwSW {R : Room} {s : State} {args : Array Value} {c0 : Cond} {own : String} {index maxL mc ms n : Nat} {y : MethodName} {cc : ByteArray} {ret : Option FieldType} {hh : List (Nat × Nat × Nat × Nat)} {rm : Room} (ht : ∀ w ∈ c0 :: kBIG, w.before args s = true) (hl : Cond.methodLink own index y ∈ kBIG) (q : kWt y cc maxL ret hh n) (hrc : rm.cells = mc) (hrs : rm.slots = ms) (hR : rm.frames + 1 ≤ R.frames ∧ 8 + (maxL + 11) + rm.locals ≤ R.locals) : vx_CSW R s args own index y cc maxL ret hh (Cond.codeWith y cc maxL ret hh :: kBIG) rm mc ms n := by
  have hG : GoodIn (c0 :: kBIG) (Cond.codeWith y cc maxL ret hh :: kBIG) := fun w hw => by
    rcases List.mem_cons.mp hw with e | hw
    · rw [e]; exact ⟨List.mem_cons_of_mem _ q.1, good_of_word (kBIG_good q.1)⟩
    · exact ⟨List.mem_cons_of_mem _ hw, good_of_word (kBIG_good hw)⟩
  refine ⟨⟨hrc, hrs, hR.1, hR.2, pay_in ht hG, List.mem_cons_self⟩, ht _ (List.mem_cons_of_mem _ q.1), ht _ (List.mem_cons_of_mem _ q.2.2.1), ⟨q.2.2.2.1, q.2.2.2.2.1⟩, fun sig h => ?_, ht _ (List.mem_cons_of_mem _ hl), ht _ (List.mem_cons_of_mem _ q.2.1)⟩
  have h2 := q.2.2.2.2.2
  rw [h] at h2
  exact (Option.some.inj h2).symm
section KL
variable {p : Program} {l : Launch} {e0 : Env} {R : Room} {s : State} {m : MethodId} {args : Array Value} {below : List Frame} {meth : Method} {c : Code} {H : Heap} {locs : List Loc} {cells slots : Nat} {Q : State → Prop}
variable {cc : ByteArray} {pc : Nat} {ls : Array Slot} {rest st0 : List Value} {D : va_G} {A0 : Nat → Prop} {ws wc ws' w1 : va_W} {H0 : Heap} {a : Array Value} {mc ms : Nat}
theorem kcall_xh {k : Nat} (ws' : va_W) (hr : vx_Run p l e0 R s m args below meth c H locs cells slots mc ms (F0 m pc ls st0) rest (kNo a) (kX D k w1 (va_A wc H.size)) (va_A wc H.size)) (hP : va_P D vwCl ws H) (hD : va_D A0 ws) (hS : va_S A0 H0 H locs) (hA : ∀ q, H0.size ≤ q → A0 q) (isC isR : List Nat) (hC : isC.map (fun i => ws[i]?) = wc.map some) (hC' : isC.map (fun i => ws'[i]?) = w1.map some) (wr : va_W) (hR0 : isR.map (fun i => ws[i]?) = wr.map some) (hR1 : isR.map (fun i => ws'[i]?) = wr.map some) (hcov : (List.range ws'.length).all (fun i => isC.contains i || isR.contains i) = true) (hdis : ∀ i ∈ isR, i ∉ isC) (had : ws'.map (·.1) = ws.map (·.1))
    (kk : ∀ (q : Nat) (ce : Cell) (H1 : Heap) (locs1 : List Loc), va_P D vwCl ws' H1 → va_D A0 ws' → va_S A0 H0 H1 locs1 → H1[q]? = some ce → ce.vm = .none → s.vm.findClass (kEx k) = some ce.cls → vx_W p l e0 R s m args below meth c H1 locs1 (cells + mc) (slots + ms) Q (F0 m pc ls rest) q) : W p l e0 R s m args below meth c H locs cells slots Q (F0 m pc ls st0) := by
  have hF := va_free (wc := wc) hD hS hA isC hC
  intro T hT X
  rcases hr T hT X with ⟨v, st₀, t, T', L, h0, X', hL, e1, e2, hq, st⟩ | ⟨q, st₀, t, T', L, E, ce, h0, X', hL, e1, e2, ⟨hE, hB, hFr⟩, hce, hcv, hcl, st⟩
  · exact hq.elim
  · obtain ⟨k1, k2, k3⟩ := vx_keep h0 e1 hS (fun q _ h => hF q h) hF hL hFr
    rw [← e1] at hB hce
    rw [hE] at hcl
    obtain ⟨hP1, hD1⟩ := kjoin hP hD isC isR hC hC' wr hR0 hR1 hcov hdis had k2 hB
    obtain ⟨t2, a1, b1⟩ := kk q ce T'.heap (locs ++ L) hP1 hD1 k3 hce hcv hcl T' rfl X'
    exact ⟨t2, st.trans a1, b1⟩
theorem kcall_sh {r : Int32} {b0 : Nat} (F : (Nat → Nat) → va_W) (hr : va_Run p l e0 R s m args below meth c H locs cells slots mc ms (F0 m pc ls st0) rest (kSh D r b0 F (va_A wc H.size) a) (va_A wc H.size)) (hP : va_P D vwCl ws H) (hD : va_D A0 ws) (hS : va_S A0 H0 H locs) (hA : ∀ q, H0.size ≤ q → A0 q) (isC isR : List Nat) (hC : isC.map (fun i => ws[i]?) = wc.map some) (wr : va_W) (hR0 : isR.map (fun i => ws[i]?) = wr.map some) (hn : va_nd isR = true) (hdis : ∀ i ∈ isR, i ∉ isC)
    (kk : ∀ (u : Nat → Nat) (H1 : Heap) (locs1 : List Loc), u 0 = b0 → va_P D vwCl (wr ++ F u) H1 → va_D A0 (wr ++ F u) → va_S A0 H0 H1 locs1 → W p l e0 R s m args below meth c H1 locs1 (cells + mc) (slots + ms) Q (F0 m (pc + 3) ls (.int r :: rest))) : W p l e0 R s m args below meth c H locs cells slots Q (F0 m pc ls st0) := by
  have hF := va_free (wc := wc) hD hS hA isC hC
  refine va_calli hr hS (fun q _ h => hF q h) hF (fun r' u t H1 locs1 ht hvm hw hB hz hk hS1 => ?_)
  obtain ⟨rfl, hu⟩ := hw
  obtain ⟨hB, hDB⟩ := hB
  rw [ht] at hB
  obtain ⟨hP1, hD1⟩ := va_join hP hD isC isR hC hR0 hn hdis hk hF hB hDB
  exact kk u H1 locs1 hu hP1 hD1 hS1
/-- one number of the script comes on the stack: five instructions -/
theorem kld {A : Nat → Prop} {b L : Nat} {xs : Nat → Int32} {k : Fin 4} {i0 i4 : Nat} {x v : Int32} {n : Int} (hx : p.tables.exec = Jvm.exec) (hb : c.code = cc) (d0 : decode cc pc = .ok (.aload_n k, 1)) (hi : (k : Nat) = i0) (l0 : ls[i0]? = some (.val (.ref b))) (d1 : decode cc (pc + 1) = .ok (.iload i4, 2)) (l4 : ls[i4]? = some (.val (.int x))) (d2 : decode cc (pc + 3) = .ok (.iconst n, 1)) (hv : Int32.ofInt n = v) (d3 : decode cc (pc + 4) = .ok (.iadd, 1)) (hX : va_X b L xs s H0) (hbl : b < H0.size) (hbA : ¬ A b) (hS : va_S A H0 H locs) (hin : vp_in (x + v) L) (d4 : decode cc (pc + 5) = .ok (.iaload, 1))
    (kk : W p l e0 R s m args below meth c H locs cells slots Q (F0 m (pc + 6) ls (.int (xs (x + v).toNatClampNeg) :: rest))) : W p l e0 R s m args below meth c H locs cells slots Q (F0 m pc ls rest) :=
  lv_aload_n hx hb d0 hi l0 (lv_iload hx hb d1 l4 (lv_iconst hx hb d2 hv (lv_iadd hx hb d3 (va_sld hx hb hX hbl hbA hS hin d4 kk))))
end KL
noncomputable def kLw (p : Program) (s : State) (m : MethodId) (c : Code) (b L : Nat) (xs : Nat → Int32) (A : Nat → Prop) : Prop := p.tables.exec = Jvm.exec ∧ c.code = cL_law ∧ c.maxLocals = 7 ∧ s.vm.findClass RL = some m.cls ∧ (∀ w ∈ Cond.initialized RL :: kBIG, w.before #[Value.ref b] s = true) ∧ va_X b L xs s s.heap ∧ b < s.heap.size ∧ (∀ q : Nat, s.heap.size ≤ q → A q) ∧ ¬ A b ∧ kG s ∧ kZ A s s.heap
theorem kcwIN {R : Room} {s : State} {args : Array Value} {c0 : Cond} {own host : String} {index maxL mc ms n : Nat} {y : MethodName} {cc : ByteArray} {rm : Room} (ht : ∀ w ∈ c0 :: kBIG, w.before args s = true) (hl : va_Nw (.methodLinkNest own index y host) s) (q : kIt y cc maxL n) (hrc : rm.cells = mc) (hrs : rm.slots = ms) (hR : rm.frames + 1 ≤ R.frames ∧ 8 + (maxL + 11) + rm.locals ≤ R.locals) : va_CN R s args own index y host cc maxL none (kWs y cc maxL none) rm mc ms n ∧ y.name = "<init>" ∧ (Cond.instanceMethod y).before args s = true :=
  ⟨va_cnB n ht (kgood q.1) rfl hrc hrs hl (ht _ (List.mem_cons_of_mem _ q.2.2.1)) q.2.2.2.2 hR, q.2.2.2.1, ht _ (List.mem_cons_of_mem _ q.2.1)⟩
set_option maxRecDepth 100000 in
theorem kS18_1 : kPg (gpC 0 (gpC 0 (gpC 1 (gpC 79 (gpC 0 (gpC 0 (gpC 0 (gpC 8 (gpC 0 (gpC 0 (gpC 0 (gpC 4 (gpC 7 (gpC 10 (gpC 0 (gpC 0 (gpC 0 (gpC 37 (gpC 0 (gpC 0 (gpC 0 (gpC 0 (gpC 11 (gpC 3 (gpC 0 (gpC 0 (gpC 0 (gpC 21 (gpC 0 (gpC 0 (gpC 0 (gpC 0 gpE)))))))))))))))))))))))))))))))) tables_1_1 = List.flatten (wpL (wpC (Cond.initialized yL_apart.cls) (wpC (Cond.initialized yX1_apart.cls) (wpC (Cond.initialized yX3_apart.cls) (wpC (Cond.methodLink RL 182 yX1_empty) (wpC (Cond.instanceMethod yX1_empty) (wpC (Cond.selects yX1_empty.cls yX1_empty yX1_empty) (wpC (Cond.code yX1_empty cX1_empty 1 (some .int)) (wpC (Cond.methodLink RL 233 yX1_spans) (wpC (Cond.instanceMethod yX1_spans) (wpC (Cond.selects yX1_spans.cls yX1_spans yX1_spans) (wpC (Cond.code yX1_spans cX1_spans 1 (some .int)) (wpC (Cond.methodLink RL 243 yX1_clashes) wpE)))))))))))) (wpL (wpC (Cond.methodLink RL 250 yX1_deepest) (wpC (Cond.methodLink RL 257 yX1_frees) (wpC (Cond.instanceMethod yX1_frees) (wpC (Cond.selects yX1_frees.cls yX1_frees yX1_frees) (wpC (Cond.code yX1_frees cX1_frees 1 (some .int)) (wpC (Cond.methodLink RL 270 yX1_wishes) (wpC (Cond.instanceMethod yX1_wishes) (wpC (Cond.selects yX1_wishes.cls yX1_wishes yX1_wishes) (wpC (Cond.code yX1_wishes cX1_wishes 1 (some .int)) (wpC (Cond.methodLink RL 280 yX1_chosen) (wpC (Cond.methodLink RL 287 yX1_crowd) (wpC (Cond.methodLink RL 294 yX1_rooms) wpE)))))))))))) (wpL (wpC (Cond.instanceMethod yX1_rooms) (wpC (Cond.selects yX1_rooms.cls yX1_rooms yX1_rooms) (wpC (Cond.code yX1_rooms cX1_rooms 1 (some .int)) (wpC (Cond.methodLink RL 301 yX1_knock) (wpC (Cond.instanceMethod yX1_knock) (wpC (Cond.selects yX1_knock.cls yX1_knock yX1_knock) (wpC (Cond.code yX1_knock cX1_knock 1 (some .int)) (wpC (Cond.methodLink RL 305 yX1_isSound) wpE)))))))) wpN))) := rfl
theorem kS18_1g : (kPg (gpC 0 (gpC 0 (gpC 1 (gpC 79 (gpC 0 (gpC 0 (gpC 0 (gpC 8 (gpC 0 (gpC 0 (gpC 0 (gpC 4 (gpC 7 (gpC 10 (gpC 0 (gpC 0 (gpC 0 (gpC 37 (gpC 0 (gpC 0 (gpC 0 (gpC 0 (gpC 11 (gpC 3 (gpC 0 (gpC 0 (gpC 0 (gpC 21 (gpC 0 (gpC 0 (gpC 0 (gpC 0 gpE)))))))))))))))))))))))))))))))) tables_1_1).all goodWord = true := by decide +kernel
set_option maxRecDepth 100000 in
theorem kS18_2 : kPg (gpC 24 (gpC 0 (gpC 0 (gpC 0 (gpC 140 (gpC 0 (gpC 0 (gpC 0 (gpC 0 (gpC 0 (gpC 0 (gpC 0 (gpC 0 (gpC 32 (gpC 0 (gpC 0 (gpC 0 (gpC 0 (gpC 0 (gpC 0 (gpC 10 (gpC 0 (gpC 0 (gpC 0 (gpC 0 (gpC 0 (gpC 0 (gpC 4 (gpC 0 (gpC 0 gpE)))))))))))))))))))))))))))))) tables_1_2 = List.flatten (wpL (wpC (Cond.methodLink RL 310 yX1_digest) (wpC (Cond.instanceMethod yX1_digest) (wpC (Cond.selects yX1_digest.cls yX1_digest yX1_digest) (wpC (Cond.code yX1_digest cX1_digest 3 (some .long)) (wpC (Cond.methodLink RL 147 yL_set) (wpC (Cond.static yL_set) (wpC (Cond.codeWith yL_set cL_set 6 (some .int) [(0, 13, 16, 19), (0, 13, 20, 21)]) (wpC (Cond.classLink RL 19 "java/lang/IndexOutOfBoundsException") (wpC (Cond.classLink RL 21 "java/lang/IllegalArgumentException") (wpC (Cond.methodLink RL 7 yX1_set) (wpC (Cond.instanceMethod yX1_set) (wpC (Cond.selects yX1_set.cls yX1_set yX1_set) wpE)))))))))))) (wpL (wpC (Cond.code yX1_set cX1_set 6 (some .int)) (wpC (Cond.methodLink RL 153 yL_go) (wpC (Cond.static yL_go) (wpC (Cond.codeWith yL_go cL_go 7 (some .int) [(0, 15, 18, 19), (0, 15, 22, 21)]) (wpC (Cond.methodLink RL 23 yX1_go) (wpC (Cond.instanceMethod yX1_go) (wpC (Cond.selects yX1_go.cls yX1_go yX1_go) (wpC (Cond.code yX1_go cX1_go 10 (some .int)) (wpC (Cond.methodLink RL 157 yL_copy) (wpC (Cond.static yL_copy) (wpC (Cond.codeWith yL_copy cL_copy 5 (some .int) [(0, 11, 14, 19)]) (wpC (Cond.methodLink RL 27 yX1_copy) wpE)))))))))))) (wpL (wpC (Cond.instanceMethod yX1_copy) (wpC (Cond.selects yX1_copy.cls yX1_copy yX1_copy) (wpC (Cond.code yX1_copy cX1_copy 3 (some .int)) (wpC (Cond.methodLink RL 161 yL_swap) (wpC (Cond.static yL_swap) (wpC (Cond.codeWith yL_swap cL_swap 5 (some .int) [(0, 11, 14, 19)]) wpE)))))) wpN))) := rfl
theorem kS18_2g : (kPg (gpC 24 (gpC 0 (gpC 0 (gpC 0 (gpC 140 (gpC 0 (gpC 0 (gpC 0 (gpC 0 (gpC 0 (gpC 0 (gpC 0 (gpC 0 (gpC 32 (gpC 0 (gpC 0 (gpC 0 (gpC 0 (gpC 0 (gpC 0 (gpC 10 (gpC 0 (gpC 0 (gpC 0 (gpC 0 (gpC 0 (gpC 0 (gpC 4 (gpC 0 (gpC 0 gpE)))))))))))))))))))))))))))))) tables_1_2).all goodWord = true := by decide +kernel
set_option maxRecDepth 100000 in
theorem kS18_3 : kPg (gpC 0 (gpC 0 (gpC 0 (gpC 0 (gpC 0 (gpC 0 (gpC 0 (gpC 0 (gpC 0 (gpC 0 (gpC 0 (gpC 0 (gpC 0 (gpC 0 (gpC 0 (gpC 0 (gpC 0 (gpC 0 (gpC 13 (gpC 0 (gpC 0 (gpC 0 (gpC 0 (gpC 0 (gpC 0 (gpC 0 (gpC 0 (gpC 0 (gpC 0 (gpC 0 (gpC 0 (gpC 0 (gpC 4 (gpC 0 (gpC 0 (gpC 0 (gpC 0 (gpC 0 (gpC 0 (gpC 8 (gpC 0 (gpC 0 (gpC 0 (gpC 0 (gpC 0 (gpC 0 (gpC 12 (gpC 0 (gpC 0 (gpC 0 (gpC 0 (gpC 0 (gpC 0 (gpC 4 (gpC 0 (gpC 0 (gpC 0 (gpC 0 (gpC 0 (gpC 0 (gpC 3 (gpC 0 (gpC 0 (gpC 0 (gpC 0 (gpC 0 (gpC 0 (gpC 0 (gpC 0 (gpC 0 (gpC 0 (gpC 0 (gpC 0 (gpC 0 (gpC 0 (gpC 0 (gpC 0 (gpC 0 (gpC 0 (gpC 0 (gpC 0 (gpC 0 (gpC 0 (gpC 0 (gpC 0 (gpC 0 (gpC 0 (gpC 0 (gpC 0 (gpC 0 (gpC 0 (gpC 0 (gpC 0 (gpC 0 (gpC 0 (gpC 0 (gpC 0 (gpC 0 (gpC 0 (gpC 0 (gpC 0 (gpC 0 gpE)))))))))))))))))))))))))))))))))))))))))))))))))))))))))))))))))))))))))))))))))))))))))))))))))))))) tables_1_3 = List.flatten (wpL (wpC (Cond.methodLink RL 31 yX1_swap) (wpC (Cond.instanceMethod yX1_swap) (wpC (Cond.selects yX1_swap.cls yX1_swap yX1_swap) (wpC (Cond.code yX1_swap cX1_swap 6 (some .int)) (wpC (Cond.methodLink RL 164 yL_pick) (wpC (Cond.static yL_pick) (wpC (Cond.codeWith yL_pick cL_pick 5 (some .int) [(0, 11, 14, 19)]) (wpC (Cond.methodLink RL 34 yX1_pick) (wpC (Cond.instanceMethod yX1_pick) (wpC (Cond.selects yX1_pick.cls yX1_pick yX1_pick) (wpC (Cond.code yX1_pick cX1_pick 6 (some .int)) (wpC (Cond.methodLink RL 168 yL_shift) wpE)))))))))))) (wpL (wpC (Cond.static yL_shift) (wpC (Cond.codeWith yL_shift cL_shift 5 (some .int) [(0, 11, 14, 21)]) (wpC (Cond.methodLink RL 38 yX1_shift) (wpC (Cond.instanceMethod yX1_shift) (wpC (Cond.selects yX1_shift.cls yX1_shift yX1_shift) (wpC (Cond.code yX1_shift cX1_shift 6 (some .int)) (wpC (Cond.methodLink RL 171 yL_open) (wpC (Cond.static yL_open) (wpC (Cond.codeWith yL_open cL_open 5 (some .int) [(0, 11, 14, 19)]) (wpC (Cond.methodLink RL 41 yX1_open) (wpC (Cond.instanceMethod yX1_open) (wpC (Cond.selects yX1_open.cls yX1_open yX1_open) wpE)))))))))))) (wpL (wpC (Cond.code yX1_open cX1_open 3 (some .int)) (wpC (Cond.methodLink RL 174 yL_book) (wpC (Cond.static yL_book) (wpC (Cond.codeWith yL_book cL_book 6 (some .int) [(0, 13, 16, 19)]) (wpC (Cond.methodLink RL 44 yX1_book) (wpC (Cond.instanceMethod yX1_book) (wpC (Cond.selects yX1_book.cls yX1_book yX1_book) (wpC (Cond.code yX1_book cX1_book 5 (some .int)) (wpC (Cond.methodLink RL 178 yL_unbook) (wpC (Cond.static yL_unbook) (wpC (Cond.codeWith yL_unbook cL_unbook 4 (some .int) [(0, 10, 13, 19)]) (wpC (Cond.methodLink RL 48 yX1_unbook) wpE)))))))))))) (wpL (wpC (Cond.instanceMethod yX1_unbook) (wpC (Cond.selects yX1_unbook.cls yX1_unbook yX1_unbook) (wpC (Cond.code yX1_unbook cX1_unbook 2 (some .int)) (wpC (Cond.methodLink RL 187 yL_move) (wpC (Cond.static yL_move) (wpC (Cond.codeWith yL_move cL_move 6 (some .int) [(0, 13, 16, 19), (0, 13, 20, 21)]) (wpC (Cond.methodLink RL 52 yX1_move) (wpC (Cond.instanceMethod yX1_move) (wpC (Cond.selects yX1_move.cls yX1_move yX1_move) (wpC (Cond.code yX1_move cX1_move 6 (some .int)) (wpC (Cond.methodLink RL 190 yL_stretch) (wpC (Cond.static yL_stretch) wpE)))))))))))) (wpL (wpC (Cond.codeWith yL_stretch cL_stretch 6 (some .int) [(0, 13, 16, 19), (0, 13, 20, 21)]) (wpC (Cond.methodLink RL 55 yX1_stretch) (wpC (Cond.instanceMethod yX1_stretch) (wpC (Cond.selects yX1_stretch.cls yX1_stretch yX1_stretch) (wpC (Cond.code yX1_stretch cX1_stretch 4 (some .int)) (wpC (Cond.methodLink RL 193 yL_fit) (wpC (Cond.static yL_fit) (wpC (Cond.codeWith yL_fit cL_fit 7 (some .int) [(0, 15, 18, 19), (0, 15, 22, 21)]) (wpC (Cond.methodLink RL 58 yX1_fit) (wpC (Cond.instanceMethod yX1_fit) (wpC (Cond.selects yX1_fit.cls yX1_fit yX1_fit) (wpC (Cond.code yX1_fit cX1_fit 9 (some .int)) wpE)))))))))))) (wpL (wpC (Cond.methodLink RL 197 yL_wish) (wpC (Cond.static yL_wish) (wpC (Cond.codeWith yL_wish cL_wish 5 (some .int) [(0, 11, 14, 19)]) (wpC (Cond.methodLink RL 62 yX1_wish) (wpC (Cond.instanceMethod yX1_wish) (wpC (Cond.selects yX1_wish.cls yX1_wish yX1_wish) (wpC (Cond.code yX1_wish cX1_wish 3 (some .int)) (wpC (Cond.methodLink RL 200 yL_unwish) (wpC (Cond.static yL_unwish) (wpC (Cond.codeWith yL_unwish cL_unwish 4 (some .int) [(0, 10, 13, 19)]) (wpC (Cond.methodLink RL 65 yX1_unwish) (wpC (Cond.instanceMethod yX1_unwish) wpE)))))))))))) (wpL (wpC (Cond.selects yX1_unwish.cls yX1_unwish yX1_unwish) (wpC (Cond.code yX1_unwish cX1_unwish 2 (some .int)) (wpC (Cond.methodLink RL 203 yL_grant) (wpC (Cond.static yL_grant) (wpC (Cond.codeWith yL_grant cL_grant 4 (some .int) [(0, 10, 13, 19)]) (wpC (Cond.methodLink RL 68 yX1_grant) (wpC (Cond.instanceMethod yX1_grant) (wpC (Cond.selects yX1_grant.cls yX1_grant yX1_grant) (wpC (Cond.code yX1_grant cX1_grant 3 (some .int)) (wpC (Cond.methodLink RL 206 yL_second) (wpC (Cond.static yL_second) (wpC (Cond.codeWith yL_second cL_second 4 (some .int) [(0, 10, 13, 19)]) wpE)))))))))))) (wpL (wpC (Cond.methodLink RL 71 yX1_second) (wpC (Cond.instanceMethod yX1_second) (wpC (Cond.selects yX1_second.cls yX1_second yX1_second) (wpC (Cond.code yX1_second cX1_second 2 (some .int)) (wpC (Cond.methodLink RL 209 yL_nano) (wpC (Cond.static yL_nano) (wpC (Cond.codeWith yL_nano cL_nano 4 (some .int) [(0, 10, 13, 19)]) (wpC (Cond.methodLink RL 74 yX1_nano) (wpC (Cond.instanceMethod yX1_nano) (wpC (Cond.selects yX1_nano.cls yX1_nano yX1_nano) (wpC (Cond.code yX1_nano cX1_nano 2 (some .int)) (wpC (Cond.methodLink RL 212 yL_text) wpE)))))))))))) (wpL (wpC (Cond.static yL_text) (wpC (Cond.codeWith yL_text cL_text 4 (some .int) [(0, 9, 12, 19)]) (wpC (Cond.methodLink RL 77 yX1_text) (wpC (Cond.instanceMethod yX1_text) (wpC (Cond.selects yX1_text.cls yX1_text yX1_text) (wpC (Cond.code yX1_text cX1_text 3 (some (.object "java/lang/String"))) wpE)))))) wpN))))))))) := rfl
theorem kS18_3g : (kPg (gpC 0 (gpC 0 (gpC 0 (gpC 0 (gpC 0 (gpC 0 (gpC 0 (gpC 0 (gpC 0 (gpC 0 (gpC 0 (gpC 0 (gpC 0 (gpC 0 (gpC 0 (gpC 0 (gpC 0 (gpC 0 (gpC 13 (gpC 0 (gpC 0 (gpC 0 (gpC 0 (gpC 0 (gpC 0 (gpC 0 (gpC 0 (gpC 0 (gpC 0 (gpC 0 (gpC 0 (gpC 0 (gpC 4 (gpC 0 (gpC 0 (gpC 0 (gpC 0 (gpC 0 (gpC 0 (gpC 8 (gpC 0 (gpC 0 (gpC 0 (gpC 0 (gpC 0 (gpC 0 (gpC 12 (gpC 0 (gpC 0 (gpC 0 (gpC 0 (gpC 0 (gpC 0 (gpC 4 (gpC 0 (gpC 0 (gpC 0 (gpC 0 (gpC 0 (gpC 0 (gpC 3 (gpC 0 (gpC 0 (gpC 0 (gpC 0 (gpC 0 (gpC 0 (gpC 0 (gpC 0 (gpC 0 (gpC 0 (gpC 0 (gpC 0 (gpC 0 (gpC 0 (gpC 0 (gpC 0 (gpC 0 (gpC 0 (gpC 0 (gpC 0 (gpC 0 (gpC 0 (gpC 0 (gpC 0 (gpC 0 (gpC 0 (gpC 0 (gpC 0 (gpC 0 (gpC 0 (gpC 0 (gpC 0 (gpC 0 (gpC 0 (gpC 0 (gpC 0 (gpC 0 (gpC 0 (gpC 0 (gpC 0 (gpC 0 gpE)))))))))))))))))))))))))))))))))))))))))))))))))))))))))))))))))))))))))))))))))))))))))))))))))))))) tables_1_3).all goodWord = true := by decide +kernel
set_option maxRecDepth 100000 in
theorem kS18_4 : kPg (gpC 169 (gpC 0 (gpC 0 (gpC 0 (gpC 0 (gpC 0 (gpC 0 (gpC 0 (gpC 0 (gpC 0 (gpC 0 (gpC 0 (gpC 0 (gpC 0 (gpC 0 (gpC 0 (gpC 0 (gpC 0 (gpC 0 (gpC 0 (gpC 0 (gpC 0 (gpC 0 (gpC 0 (gpC 0 (gpC 0 (gpC 0 (gpC 0 (gpC 0 (gpC 0 (gpC 0 (gpC 0 (gpC 0 (gpC 0 (gpC 0 (gpC 0 (gpC 0 (gpC 0 (gpC 0 (gpC 0 (gpC 0 (gpC 0 (gpC 0 (gpC 0 (gpC 0 (gpC 0 (gpC 0 (gpC 0 (gpC 0 (gpC 0 (gpC 0 (gpC 0 (gpC 0 (gpC 0 (gpC 0 (gpC 0 (gpC 0 (gpC 0 (gpC 0 (gpC 0 (gpC 0 (gpC 0 (gpC 0 (gpC 0 (gpC 0 (gpC 0 (gpC 0 (gpC 0 (gpC 0 (gpC 0 (gpC 0 gpE))))))))))))))))))))))))))))))))))))))))))))))))))))))))))))))))))))))) tables_1_4 = List.flatten (wpL (wpC (Cond.methodLink RL 215 yL_order) (wpC (Cond.static yL_order) (wpC (Cond.codeWith yL_order cL_order 5 (some .int) [(0, 11, 14, 19)]) (wpC (Cond.methodLink RL 85 yX1_order) (wpC (Cond.instanceMethod yX1_order) (wpC (Cond.selects yX1_order.cls yX1_order yX1_order) (wpC (Cond.code yX1_order cX1_order 3 (some .int)) (wpC (Cond.methodLink RL 218 yL_isBefore) (wpC (Cond.static yL_isBefore) (wpC (Cond.codeWith yL_isBefore cL_isBefore 5 (some .int) [(0, 18, 21, 19)]) (wpC (Cond.methodLink RL 88 yX1_isBefore) (wpC (Cond.instanceMethod yX1_isBefore) wpE)))))))))))) (wpL (wpC (Cond.selects yX1_isBefore.cls yX1_isBefore yX1_isBefore) (wpC (Cond.code yX1_isBefore cX1_isBefore 3 (some .boolean)) (wpC (Cond.methodLink RL 221 yL_isAfter) (wpC (Cond.static yL_isAfter) (wpC (Cond.codeWith yL_isAfter cL_isAfter 5 (some .int) [(0, 18, 21, 19)]) (wpC (Cond.methodLink RL 92 yX1_isAfter) (wpC (Cond.instanceMethod yX1_isAfter) (wpC (Cond.selects yX1_isAfter.cls yX1_isAfter yX1_isAfter) (wpC (Cond.code yX1_isAfter cX1_isAfter 3 (some .boolean)) (wpC (Cond.methodLink RL 224 yL_same) (wpC (Cond.static yL_same) (wpC (Cond.codeWith yL_same cL_same 6 (some .int) [(0, 20, 23, 19), (0, 20, 27, 21)]) wpE)))))))))))) (wpL (wpC (Cond.methodLink RL 95 yX1_same) (wpC (Cond.instanceMethod yX1_same) (wpC (Cond.selects yX1_same.cls yX1_same yX1_same) (wpC (Cond.code yX1_same cX1_same 4 (some .boolean)) (wpC (Cond.methodLink RL 227 yL_apart) (wpC (Cond.static yL_apart) (wpC (Cond.codeWith yL_apart cL_apart 6 (some .int) [(0, 13, 16, 19), (0, 13, 20, 21)]) (wpC (Cond.methodLink RL 99 yX1_apart) (wpC (Cond.instanceMethod yX1_apart) (wpC (Cond.selects yX1_apart.cls yX1_apart yX1_apart) (wpC (Cond.code yX1_apart cX1_apart 4 (some .int)) (wpC (Cond.methodLink RL 230 yL_calendar) wpE)))))))))))) (wpL (wpC (Cond.static yL_calendar) (wpC (Cond.codeWith yL_calendar cL_calendar 4 (some .int) [(0, 10, 13, 21)]) (wpC (Cond.methodLink RL 102 yX1_calendar) (wpC (Cond.methodLink RL 237 yL_ofSpan) (wpC (Cond.static yL_ofSpan) (wpC (Cond.codeWith yL_ofSpan cL_ofSpan 5 (some .int) [(0, 11, 14, 19), (0, 11, 18, 21)]) (wpC (Cond.methodLink RL 105 yX1_ofSpan) (wpC (Cond.instanceMethod yX1_ofSpan) (wpC (Cond.selects yX1_ofSpan.cls yX1_ofSpan yX1_ofSpan) (wpC (Cond.code yX1_ofSpan cX1_ofSpan 3 (some .int)) (wpC (Cond.methodLink RL 240 yL_meets) (wpC (Cond.static yL_meets) wpE)))))))))))) (wpL (wpC (Cond.codeWith yL_meets cL_meets 5 (some .int) [(0, 18, 21, 19)]) (wpC (Cond.methodLink RL 108 yX1_meets) (wpC (Cond.instanceMethod yX1_meets) (wpC (Cond.selects yX1_meets.cls yX1_meets yX1_meets) (wpC (Cond.code yX1_meets cX1_meets 3 (some .boolean)) (wpC (Cond.methodLink RL 247 yL_at) (wpC (Cond.static yL_at) (wpC (Cond.codeWith yL_at cL_at 4 (some .int) [(0, 10, 13, 19)]) (wpC (Cond.methodLink RL 111 yX1_at) (wpC (Cond.instanceMethod yX1_at) (wpC (Cond.selects yX1_at.cls yX1_at yX1_at) (wpC (Cond.code yX1_at cX1_at 2 (some .int)) wpE)))))))))))) (wpL (wpC (Cond.methodLink RL 254 yL_isFree) (wpC (Cond.static yL_isFree) (wpC (Cond.codeWith yL_isFree cL_isFree 5 (some .int) [(0, 18, 21, 19)]) (wpC (Cond.methodLink RL 114 yX1_isFree) (wpC (Cond.instanceMethod yX1_isFree) (wpC (Cond.selects yX1_isFree.cls yX1_isFree yX1_isFree) (wpC (Cond.code yX1_isFree cX1_isFree 7 (some .boolean)) (wpC (Cond.methodLink RL 261 yL_ofFree) (wpC (Cond.static yL_ofFree) (wpC (Cond.codeWith yL_ofFree cL_ofFree 5 (some .int) [(0, 11, 14, 19), (0, 11, 18, 21)]) (wpC (Cond.methodLink RL 117 yX1_ofFree) wpE))))))))))) wpN)))))) := rfl
theorem kS18_4g : (kPg (gpC 169 (gpC 0 (gpC 0 (gpC 0 (gpC 0 (gpC 0 (gpC 0 (gpC 0 (gpC 0 (gpC 0 (gpC 0 (gpC 0 (gpC 0 (gpC 0 (gpC 0 (gpC 0 (gpC 0 (gpC 0 (gpC 0 (gpC 0 (gpC 0 (gpC 0 (gpC 0 (gpC 0 (gpC 0 (gpC 0 (gpC 0 (gpC 0 (gpC 0 (gpC 0 (gpC 0 (gpC 0 (gpC 0 (gpC 0 (gpC 0 (gpC 0 (gpC 0 (gpC 0 (gpC 0 (gpC 0 (gpC 0 (gpC 0 (gpC 0 (gpC 0 (gpC 0 (gpC 0 (gpC 0 (gpC 0 (gpC 0 (gpC 0 (gpC 0 (gpC 0 (gpC 0 (gpC 0 (gpC 0 (gpC 0 (gpC 0 (gpC 0 (gpC 0 (gpC 0 (gpC 0 (gpC 0 (gpC 0 (gpC 0 (gpC 0 (gpC 0 (gpC 0 (gpC 0 (gpC 0 (gpC 0 (gpC 0 gpE))))))))))))))))))))))))))))))))))))))))))))))))))))))))))))))))))))))) tables_1_4).all goodWord = true := by decide +kernel
set_option maxRecDepth 100000 in
theorem kS18_5 : kPg (gpC 0 (gpC 0 (gpC 0 (gpC 0 (gpC 0 (gpC 0 (gpC 0 (gpC 0 (gpC 0 (gpC 0 (gpC 0 (gpC 0 (gpC 0 (gpC 0 (gpC 0 (gpC 0 (gpC 0 (gpC 0 (gpC 0 (gpC 0 (gpC 0 (gpC 0 (gpC 0 (gpC 0 (gpC 0 (gpC 0 (gpC 0 (gpC 0 (gpC 0 (gpC 0 (gpC 0 (gpC 0 (gpC 0 (gpC 0 (gpC 0 (gpC 0 (gpC 0 (gpC 0 (gpC 0 (gpC 0 (gpC 0 (gpC 0 (gpC 0 (gpC 0 (gpC 0 (gpC 0 (gpC 0 (gpC 0 (gpC 0 (gpC 50 (gpC 0 (gpC 0 (gpC 0 (gpC 29 (gpC 0 (gpC 0 (gpC 0 (gpC 10 (gpC 0 (gpC 0 (gpC 0 (gpC 4 (gpC 0 (gpC 0 (gpC 0 (gpC 0 (gpC 0 (gpC 0 (gpC 0 (gpC 0 (gpC 0 (gpC 0 (gpC 0 (gpC 6 (gpC 0 (gpC 0 (gpC 0 (gpC 0 (gpC 0 (gpC 0 (gpC 0 (gpC 19 (gpC 0 (gpC 0 (gpC 0 (gpC 4 (gpC 0 (gpC 0 (gpC 0 (gpC 0 (gpC 0 (gpC 0 (gpC 0 (gpC 3 (gpC 0 (gpC 0 (gpC 0 (gpC 0 (gpC 0 (gpC 0 (gpC 0 (gpC 5 (gpC 0 (gpC 0 (gpC 0 (gpC 0 (gpC 0 (gpC 0 (gpC 0 gpE))))))))))))))))))))))))))))))))))))))))))))))))))))))))))))))))))))))))))))))))))))))))))))))))))))))))))))) tables_1_5 = List.flatten (wpL (wpC (Cond.instanceMethod yX1_ofFree) (wpC (Cond.selects yX1_ofFree.cls yX1_ofFree yX1_ofFree) (wpC (Cond.code yX1_ofFree cX1_ofFree 3 (some .int)) (wpC (Cond.methodLink RL 264 yL_freeAt) (wpC (Cond.static yL_freeAt) (wpC (Cond.codeWith yL_freeAt cL_freeAt 4 (some .int) [(0, 10, 13, 19)]) (wpC (Cond.methodLink RL 120 yX1_freeAt) (wpC (Cond.instanceMethod yX1_freeAt) (wpC (Cond.selects yX1_freeAt.cls yX1_freeAt yX1_freeAt) (wpC (Cond.code yX1_freeAt cX1_freeAt 2 (some .int)) (wpC (Cond.methodLink RL 267 yL_length) (wpC (Cond.static yL_length) wpE)))))))))))) (wpL (wpC (Cond.codeWith yL_length cL_length 4 (some .int) [(0, 10, 13, 21)]) (wpC (Cond.methodLink RL 123 yX1_length) (wpC (Cond.methodLink RL 274 yL_ofWish) (wpC (Cond.static yL_ofWish) (wpC (Cond.codeWith yL_ofWish cL_ofWish 5 (some .int) [(0, 11, 14, 19), (0, 11, 18, 21)]) (wpC (Cond.methodLink RL 126 yX1_ofWish) (wpC (Cond.instanceMethod yX1_ofWish) (wpC (Cond.selects yX1_ofWish.cls yX1_ofWish yX1_ofWish) (wpC (Cond.code yX1_ofWish cX1_ofWish 3 (some .int)) (wpC (Cond.methodLink RL 277 yL_isApart) (wpC (Cond.static yL_isApart) (wpC (Cond.codeWith yL_isApart cL_isApart 4 (some .int) [(0, 17, 20, 21)]) wpE)))))))))))) (wpL (wpC (Cond.methodLink RL 129 yX1_isApart) (wpC (Cond.instanceMethod yX1_isApart) (wpC (Cond.selects yX1_isApart.cls yX1_isApart yX1_isApart) (wpC (Cond.code yX1_isApart cX1_isApart 2 (some .boolean)) (wpC (Cond.methodLink RL 284 yL_most) (wpC (Cond.static yL_most) (wpC (Cond.codeWith yL_most cL_most 4 (some .int) [(0, 10, 13, 21)]) (wpC (Cond.methodLink RL 133 yX1_most) (wpC (Cond.instanceMethod yX1_most) (wpC (Cond.selects yX1_most.cls yX1_most yX1_most) (wpC (Cond.code yX1_most cX1_most 2 (some .int)) (wpC (Cond.methodLink RL 291 yL_room) wpE)))))))))))) (wpL (wpC (Cond.static yL_room) (wpC (Cond.codeWith yL_room cL_room 4 (some .int) [(0, 10, 13, 19)]) (wpC (Cond.methodLink RL 136 yX1_room) (wpC (Cond.instanceMethod yX1_room) (wpC (Cond.selects yX1_room.cls yX1_room yX1_room) (wpC (Cond.code yX1_room cX1_room 2 (some .int)) (wpC (Cond.methodLink RL 298 yL_house) (wpC (Cond.static yL_house) (wpC (Cond.codeWith yL_house cL_house 4 (some .int) [(0, 10, 13, 21)]) (wpC (Cond.methodLink RL 139 yX1_house) (wpC (Cond.instanceMethod yX1_house) (wpC (Cond.selects yX1_house.cls yX1_house yX1_house) wpE)))))))))))) (wpL (wpC (Cond.code yX1_house cX1_house 2 (some .int)) (wpC (Cond.methodLink RL 152 yX3_set) (wpC (Cond.instanceMethod yX3_set) (wpC (Cond.selects yX3_set.cls yX3_set yX3_set) (wpC (Cond.code yX3_set cX3_set 6 (some .int)) (wpC (Cond.methodLink RL 156 yX3_go) (wpC (Cond.instanceMethod yX3_go) (wpC (Cond.selects yX3_go.cls yX3_go yX3_go) (wpC (Cond.code yX3_go cX3_go 7 (some .int)) (wpC (Cond.methodLink RL 160 yX3_copy) (wpC (Cond.instanceMethod yX3_copy) (wpC (Cond.selects yX3_copy.cls yX3_copy yX3_copy) wpE)))))))))))) (wpL (wpC (Cond.code yX3_copy cX3_copy 4 (some .int)) (wpC (Cond.methodLink RL 163 yX3_swap) (wpC (Cond.instanceMethod yX3_swap) (wpC (Cond.selects yX3_swap.cls yX3_swap yX3_swap) (wpC (Cond.code yX3_swap cX3_swap 5 (some .int)) (wpC (Cond.methodLink RL 167 yX3_pick) (wpC (Cond.instanceMethod yX3_pick) (wpC (Cond.selects yX3_pick.cls yX3_pick yX3_pick) (wpC (Cond.code yX3_pick cX3_pick 5 (some .int)) (wpC (Cond.methodLink RL 170 yX3_shift) (wpC (Cond.instanceMethod yX3_shift) (wpC (Cond.selects yX3_shift.cls yX3_shift yX3_shift) wpE)))))))))))) (wpL (wpC (Cond.code yX3_shift cX3_shift 6 (some .int)) (wpC (Cond.methodLink RL 173 yX3_open) (wpC (Cond.instanceMethod yX3_open) (wpC (Cond.selects yX3_open.cls yX3_open yX3_open) (wpC (Cond.code yX3_open cX3_open 4 (some .int)) (wpC (Cond.methodLink RL 177 yX3_book) (wpC (Cond.instanceMethod yX3_book) (wpC (Cond.selects yX3_book.cls yX3_book yX3_book) (wpC (Cond.code yX3_book cX3_book 4 (some .int)) (wpC (Cond.methodLink RL 181 yX3_unbook) (wpC (Cond.instanceMethod yX3_unbook) (wpC (Cond.selects yX3_unbook.cls yX3_unbook yX3_unbook) wpE)))))))))))) (wpL (wpC (Cond.code yX3_unbook cX3_unbook 3 (some .int)) (wpC (Cond.methodLink RL 186 yX3_empty) (wpC (Cond.instanceMethod yX3_empty) (wpC (Cond.selects yX3_empty.cls yX3_empty yX3_empty) (wpC (Cond.code yX3_empty cX3_empty 2 (some .int)) (wpC (Cond.methodLink RL 189 yX3_move) (wpC (Cond.instanceMethod yX3_move) (wpC (Cond.selects yX3_move.cls yX3_move yX3_move) (wpC (Cond.code yX3_move cX3_move 8 (some .int)) (wpC (Cond.methodLink RL 192 yX3_stretch) (wpC (Cond.instanceMethod yX3_stretch) (wpC (Cond.selects yX3_stretch.cls yX3_stretch yX3_stretch) wpE)))))))))))) (wpL (wpC (Cond.code yX3_stretch cX3_stretch 6 (some .int)) (wpC (Cond.methodLink RL 196 yX3_fit) (wpC (Cond.instanceMethod yX3_fit) (wpC (Cond.selects yX3_fit.cls yX3_fit yX3_fit) (wpC (Cond.code yX3_fit cX3_fit 13 (some .int)) (wpC (Cond.methodLink RL 199 yX3_wish) (wpC (Cond.instanceMethod yX3_wish) (wpC (Cond.selects yX3_wish.cls yX3_wish yX3_wish) (wpC (Cond.code yX3_wish cX3_wish 3 (some .int)) (wpC (Cond.methodLink RL 202 yX3_unwish) (wpC (Cond.instanceMethod yX3_unwish) (wpC (Cond.selects yX3_unwish.cls yX3_unwish yX3_unwish) wpE)))))))))))) (wpL (wpC (Cond.code yX3_unwish cX3_unwish 2 (some .int)) wpE) wpN)))))))))) := rfl
theorem kS18_5g : (kPg (gpC 0 (gpC 0 (gpC 0 (gpC 0 (gpC 0 (gpC 0 (gpC 0 (gpC 0 (gpC 0 (gpC 0 (gpC 0 (gpC 0 (gpC 0 (gpC 0 (gpC 0 (gpC 0 (gpC 0 (gpC 0 (gpC 0 (gpC 0 (gpC 0 (gpC 0 (gpC 0 (gpC 0 (gpC 0 (gpC 0 (gpC 0 (gpC 0 (gpC 0 (gpC 0 (gpC 0 (gpC 0 (gpC 0 (gpC 0 (gpC 0 (gpC 0 (gpC 0 (gpC 0 (gpC 0 (gpC 0 (gpC 0 (gpC 0 (gpC 0 (gpC 0 (gpC 0 (gpC 0 (gpC 0 (gpC 0 (gpC 0 (gpC 50 (gpC 0 (gpC 0 (gpC 0 (gpC 29 (gpC 0 (gpC 0 (gpC 0 (gpC 10 (gpC 0 (gpC 0 (gpC 0 (gpC 4 (gpC 0 (gpC 0 (gpC 0 (gpC 0 (gpC 0 (gpC 0 (gpC 0 (gpC 0 (gpC 0 (gpC 0 (gpC 0 (gpC 6 (gpC 0 (gpC 0 (gpC 0 (gpC 0 (gpC 0 (gpC 0 (gpC 0 (gpC 19 (gpC 0 (gpC 0 (gpC 0 (gpC 4 (gpC 0 (gpC 0 (gpC 0 (gpC 0 (gpC 0 (gpC 0 (gpC 0 (gpC 3 (gpC 0 (gpC 0 (gpC 0 (gpC 0 (gpC 0 (gpC 0 (gpC 0 (gpC 5 (gpC 0 (gpC 0 (gpC 0 (gpC 0 (gpC 0 (gpC 0 (gpC 0 gpE))))))))))))))))))))))))))))))))))))))))))))))))))))))))))))))))))))))))))))))))))))))))))))))))))))))))))))) tables_1_5).all goodWord = true := by decide +kernel
set_option maxRecDepth 100000 in
theorem kS18_6 : kPg (gpC 7 (gpC 0 (gpC 0 (gpC 0 (gpC 0 (gpC 3 (gpC 6 (gpC 0 (gpC 0 (gpC 0 (gpC 7 (gpC 0 (gpC 0 (gpC 0 (gpC 4 (gpC 0 (gpC 0 (gpC 0 (gpC 0 (gpC 0 (gpC 0 (gpC 0 (gpC 0 (gpC 0 (gpC 0 (gpC 0 (gpC 0 (gpC 0 (gpC 0 (gpC 0 (gpC 3 (gpC 3 (gpC 0 (gpC 0 (gpC 0 (gpC 0 (gpC 0 (gpC 0 (gpC 0 (gpC 0 (gpC 0 (gpC 0 (gpC 0 (gpC 0 (gpC 3 (gpC 7 (gpC 7 (gpC 0 (gpC 0 (gpC 0 (gpC 0 (gpC 10 (gpC 3 (gpC 3 (gpC 11 (gpC 0 (gpC 0 (gpC 0 (gpC 0 (gpC 0 (gpC 0 (gpC 0 (gpC 0 (gpC 0 (gpC 0 (gpC 0 (gpC 8 (gpC 0 (gpC 0 (gpC 0 (gpC 4 (gpC 0 (gpC 0 (gpC 0 (gpC 7 (gpC 3 (gpC 0 (gpC 0 (gpC 0 (gpC 8 (gpC 0 (gpC 0 (gpC 0 (gpC 4 (gpC 3 (gpC 0 (gpC 0 (gpC 0 (gpC 0 (gpC 7 (gpC 0 (gpC 0 (gpC 0 gpE))))))))))))))))))))))))))))))))))))))))))))))))))))))))))))))))))))))))))))))))))))))))))))) tables_1_6 = List.flatten (wpL (wpC (Cond.methodLink RL 205 yX3_grant) (wpC (Cond.instanceMethod yX3_grant) (wpC (Cond.selects yX3_grant.cls yX3_grant yX3_grant) (wpC (Cond.code yX3_grant cX3_grant 3 (some .int)) (wpC (Cond.methodLink RL 208 yX3_second) (wpC (Cond.methodLink RL 211 yX3_nano) (wpC (Cond.methodLink RL 214 yX3_text) (wpC (Cond.instanceMethod yX3_text) (wpC (Cond.selects yX3_text.cls yX3_text yX3_text) (wpC (Cond.code yX3_text cX3_text 2 (some (.object "java/lang/String"))) (wpC (Cond.methodLink RL 217 yX3_order) (wpC (Cond.instanceMethod yX3_order) wpE)))))))))))) (wpL (wpC (Cond.selects yX3_order.cls yX3_order yX3_order) (wpC (Cond.code yX3_order cX3_order 3 (some .int)) (wpC (Cond.methodLink RL 220 yX3_isBefore) (wpC (Cond.instanceMethod yX3_isBefore) (wpC (Cond.selects yX3_isBefore.cls yX3_isBefore yX3_isBefore) (wpC (Cond.code yX3_isBefore cX3_isBefore 3 (some .boolean)) (wpC (Cond.methodLink RL 223 yX3_isAfter) (wpC (Cond.instanceMethod yX3_isAfter) (wpC (Cond.selects yX3_isAfter.cls yX3_isAfter yX3_isAfter) (wpC (Cond.code yX3_isAfter cX3_isAfter 3 (some .boolean)) (wpC (Cond.methodLink RL 226 yX3_same) (wpC (Cond.instanceMethod yX3_same) wpE)))))))))))) (wpL (wpC (Cond.selects yX3_same.cls yX3_same yX3_same) (wpC (Cond.code yX3_same cX3_same 4 (some .boolean)) (wpC (Cond.methodLink RL 229 yX3_apart) (wpC (Cond.instanceMethod yX3_apart) (wpC (Cond.selects yX3_apart.cls yX3_apart yX3_apart) (wpC (Cond.code yX3_apart cX3_apart 4 (some .int)) (wpC (Cond.methodLink RL 232 yX3_calendar) (wpC (Cond.methodLink RL 236 yX3_spans) (wpC (Cond.instanceMethod yX3_spans) (wpC (Cond.selects yX3_spans.cls yX3_spans yX3_spans) (wpC (Cond.code yX3_spans cX3_spans 1 (some .int)) (wpC (Cond.methodLink RL 239 yX3_ofSpan) wpE)))))))))))) (wpL (wpC (Cond.instanceMethod yX3_ofSpan) (wpC (Cond.selects yX3_ofSpan.cls yX3_ofSpan yX3_ofSpan) (wpC (Cond.code yX3_ofSpan cX3_ofSpan 3 (some .int)) (wpC (Cond.methodLink RL 242 yX3_meets) (wpC (Cond.instanceMethod yX3_meets) (wpC (Cond.selects yX3_meets.cls yX3_meets yX3_meets) (wpC (Cond.code yX3_meets cX3_meets 3 (some .boolean)) (wpC (Cond.methodLink RL 246 yX3_clashes) (wpC (Cond.methodLink RL 249 yX3_at) (wpC (Cond.methodLink RL 253 yX3_deepest_) (wpC (Cond.methodLink RL 256 yX3_isFree) (wpC (Cond.instanceMethod yX3_isFree) wpE)))))))))))) (wpL (wpC (Cond.selects yX3_isFree.cls yX3_isFree yX3_isFree) (wpC (Cond.code yX3_isFree cX3_isFree 3 (some .boolean)) (wpC (Cond.methodLink RL 260 yX3_frees) (wpC (Cond.methodLink RL 263 yX3_ofFree) (wpC (Cond.methodLink RL 266 yX3_freeAt) (wpC (Cond.methodLink RL 269 yX3_length) (wpC (Cond.methodLink RL 273 yX3_wishes) (wpC (Cond.instanceMethod yX3_wishes) (wpC (Cond.selects yX3_wishes.cls yX3_wishes yX3_wishes) (wpC (Cond.code yX3_wishes cX3_wishes 1 (some .int)) (wpC (Cond.methodLink RL 276 yX3_ofWish) (wpC (Cond.instanceMethod yX3_ofWish) wpE)))))))))))) (wpL (wpC (Cond.selects yX3_ofWish.cls yX3_ofWish yX3_ofWish) (wpC (Cond.code yX3_ofWish cX3_ofWish 3 (some .int)) (wpC (Cond.methodLink RL 279 yX3_isApart) (wpC (Cond.instanceMethod yX3_isApart) (wpC (Cond.selects yX3_isApart.cls yX3_isApart yX3_isApart) (wpC (Cond.code yX3_isApart cX3_isApart 2 (some .boolean)) (wpC (Cond.methodLink RL 283 yX3_chosen) (wpC (Cond.instanceMethod yX3_chosen) (wpC (Cond.selects yX3_chosen.cls yX3_chosen yX3_chosen) (wpC (Cond.code yX3_chosen cX3_chosen 1 (some .int)) (wpC (Cond.methodLink RL 286 yX3_most) (wpC (Cond.instanceMethod yX3_most) wpE)))))))))))) (wpL (wpC (Cond.selects yX3_most.cls yX3_most yX3_most) (wpC (Cond.code yX3_most cX3_most 2 (some .int)) (wpC (Cond.methodLink RL 290 yX3_crowd) (wpC (Cond.methodLink RL 293 yX3_room) (wpC (Cond.instanceMethod yX3_room) (wpC (Cond.selects yX3_room.cls yX3_room yX3_room) (wpC (Cond.code yX3_room cX3_room 2 (some .int)) (wpC (Cond.methodLink RL 297 yX3_rooms) (wpC (Cond.instanceMethod yX3_rooms) (wpC (Cond.selects yX3_rooms.cls yX3_rooms yX3_rooms) (wpC (Cond.code yX3_rooms cX3_rooms 1 (some .int)) (wpC (Cond.methodLink RL 300 yX3_house) wpE)))))))))))) (wpL (wpC (Cond.methodLink RL 304 yX3_knock) (wpC (Cond.instanceMethod yX3_knock) (wpC (Cond.selects yX3_knock.cls yX3_knock yX3_knock) (wpC (Cond.code yX3_knock cX3_knock 1 (some .int)) (wpC (Cond.methodLink RL 309 yX3_isSound) (wpC (Cond.methodLink RL 314 yX3_digest) (wpC (Cond.instanceMethod yX3_digest) (wpC (Cond.selects yX3_digest.cls yX3_digest yX3_digest) (wpC (Cond.code yX3_digest cX3_digest 5 (some .long)) wpE))))))))) wpN)))))))) := rfl
theorem kS18_6g : (kPg (gpC 7 (gpC 0 (gpC 0 (gpC 0 (gpC 0 (gpC 3 (gpC 6 (gpC 0 (gpC 0 (gpC 0 (gpC 7 (gpC 0 (gpC 0 (gpC 0 (gpC 4 (gpC 0 (gpC 0 (gpC 0 (gpC 0 (gpC 0 (gpC 0 (gpC 0 (gpC 0 (gpC 0 (gpC 0 (gpC 0 (gpC 0 (gpC 0 (gpC 0 (gpC 0 (gpC 3 (gpC 3 (gpC 0 (gpC 0 (gpC 0 (gpC 0 (gpC 0 (gpC 0 (gpC 0 (gpC 0 (gpC 0 (gpC 0 (gpC 0 (gpC 0 (gpC 3 (gpC 7 (gpC 7 (gpC 0 (gpC 0 (gpC 0 (gpC 0 (gpC 10 (gpC 3 (gpC 3 (gpC 11 (gpC 0 (gpC 0 (gpC 0 (gpC 0 (gpC 0 (gpC 0 (gpC 0 (gpC 0 (gpC 0 (gpC 0 (gpC 0 (gpC 8 (gpC 0 (gpC 0 (gpC 0 (gpC 4 (gpC 0 (gpC 0 (gpC 0 (gpC 7 (gpC 3 (gpC 0 (gpC 0 (gpC 0 (gpC 8 (gpC 0 (gpC 0 (gpC 0 (gpC 4 (gpC 3 (gpC 0 (gpC 0 (gpC 0 (gpC 0 (gpC 7 (gpC 0 (gpC 0 (gpC 0 gpE))))))))))))))))))))))))))))))))))))))))))))))))))))))))))))))))))))))))))))))))))))))))))))) tables_1_6).all goodWord = true := by decide +kernel
theorem kw_139 : Cond.methodLink RL 182 yX1_empty ∈ kBIG := (kb_g1 kS18_1 kS18_1g 0 3 rfl rfl)
theorem kw_151 : Cond.methodLink RL 233 yX1_spans ∈ kBIG := (kb_g1 kS18_1 kS18_1g 0 7 rfl rfl)
theorem kw_159 : Cond.methodLink RL 243 yX1_clashes ∈ kBIG := (kb_g1 kS18_1 kS18_1g 0 11 rfl rfl)
theorem kw_167 : Cond.methodLink RL 250 yX1_deepest ∈ kBIG := (kb_g1 kS18_1 kS18_1g 1 0 rfl rfl)
theorem kw_178 : Cond.methodLink RL 257 yX1_frees ∈ kBIG := (kb_g1 kS18_1 kS18_1g 1 1 rfl rfl)
theorem kw_219 : Cond.methodLink RL 270 yX1_wishes ∈ kBIG := (kb_g1 kS18_1 kS18_1g 1 5 rfl rfl)
theorem kw_223 : Cond.methodLink RL 280 yX1_chosen ∈ kBIG := (kb_g1 kS18_1 kS18_1g 1 9 rfl rfl)
theorem kw_235 : Cond.methodLink RL 287 yX1_crowd ∈ kBIG := (kb_g1 kS18_1 kS18_1g 1 10 rfl rfl)
theorem kw_239 : Cond.methodLink RL 294 yX1_rooms ∈ kBIG := (kb_g1 kS18_1 kS18_1g 1 11 rfl rfl)
theorem kw_264 : Cond.methodLink RL 301 yX1_knock ∈ kBIG := (kb_g1 kS18_1 kS18_1g 2 3 rfl rfl)
theorem kw_268 : Cond.methodLink RL 305 yX1_isSound ∈ kBIG := (kb_g1 kS18_1 kS18_1g 2 7 rfl rfl)
theorem kw_320 : Cond.methodLink RL 310 yX1_digest ∈ kBIG := (kb_g2 kS18_2 kS18_2g 0 0 rfl rfl)
theorem kw_464 : Cond.methodLink RL 147 yL_set ∈ kBIG := (kb_g2 kS18_2 kS18_2g 0 4 rfl rfl)
theorem kw_467 : Cond.classLink RL 19 "java/lang/IndexOutOfBoundsException" ∈ kBIG := (kb_g2 kS18_2 kS18_2g 0 7 rfl rfl)
theorem kw_468 : Cond.classLink RL 21 "java/lang/IllegalArgumentException" ∈ kBIG := (kb_g2 kS18_2 kS18_2g 0 8 rfl rfl)
theorem kw_469 : Cond.methodLink RL 7 yX1_set ∈ kBIG := (kb_g2 kS18_2 kS18_2g 0 9 rfl rfl)
theorem kw_505 : Cond.methodLink RL 153 yL_go ∈ kBIG := (kb_g2 kS18_2 kS18_2g 1 1 rfl rfl)
theorem kw_508 : Cond.methodLink RL 23 yX1_go ∈ kBIG := (kb_g2 kS18_2 kS18_2g 1 4 rfl rfl)
theorem kw_522 : Cond.methodLink RL 157 yL_copy ∈ kBIG := (kb_g2 kS18_2 kS18_2g 1 8 rfl rfl)
theorem kw_525 : Cond.methodLink RL 27 yX1_copy ∈ kBIG := (kb_g2 kS18_2 kS18_2g 1 11 rfl rfl)
theorem kw_533 : Cond.methodLink RL 161 yL_swap ∈ kBIG := (kb_g2 kS18_2 kS18_2g 2 3 rfl rfl)
theorem kw_536 : Cond.methodLink RL 31 yX1_swap ∈ kBIG := (kb_g3 kS18_3 kS18_3g 0 0 rfl rfl)
theorem kw_540 : Cond.methodLink RL 164 yL_pick ∈ kBIG := (kb_g3 kS18_3 kS18_3g 0 4 rfl rfl)
theorem kw_543 : Cond.methodLink RL 34 yX1_pick ∈ kBIG := (kb_g3 kS18_3 kS18_3g 0 7 rfl rfl)
theorem kw_547 : Cond.methodLink RL 168 yL_shift ∈ kBIG := (kb_g3 kS18_3 kS18_3g 0 11 rfl rfl)
theorem kw_550 : Cond.methodLink RL 38 yX1_shift ∈ kBIG := (kb_g3 kS18_3 kS18_3g 1 2 rfl rfl)
theorem kw_567 : Cond.methodLink RL 171 yL_open ∈ kBIG := (kb_g3 kS18_3 kS18_3g 1 6 rfl rfl)
theorem kw_570 : Cond.methodLink RL 41 yX1_open ∈ kBIG := (kb_g3 kS18_3 kS18_3g 1 9 rfl rfl)
theorem kw_574 : Cond.methodLink RL 174 yL_book ∈ kBIG := (kb_g3 kS18_3 kS18_3g 2 1 rfl rfl)
theorem kw_577 : Cond.methodLink RL 44 yX1_book ∈ kBIG := (kb_g3 kS18_3 kS18_3g 2 4 rfl rfl)
theorem kw_585 : Cond.methodLink RL 178 yL_unbook ∈ kBIG := (kb_g3 kS18_3 kS18_3g 2 8 rfl rfl)
theorem kw_588 : Cond.methodLink RL 48 yX1_unbook ∈ kBIG := (kb_g3 kS18_3 kS18_3g 2 11 rfl rfl)
theorem kw_600 : Cond.methodLink RL 187 yL_move ∈ kBIG := (kb_g3 kS18_3 kS18_3g 3 3 rfl rfl)
theorem kw_603 : Cond.methodLink RL 52 yX1_move ∈ kBIG := (kb_g3 kS18_3 kS18_3g 3 6 rfl rfl)
theorem kw_619 : Cond.methodLink RL 190 yL_stretch ∈ kBIG := (kb_g3 kS18_3 kS18_3g 3 10 rfl rfl)
theorem kw_622 : Cond.methodLink RL 55 yX1_stretch ∈ kBIG := (kb_g3 kS18_3 kS18_3g 4 1 rfl rfl)
theorem kw_630 : Cond.methodLink RL 193 yL_fit ∈ kBIG := (kb_g3 kS18_3 kS18_3g 4 5 rfl rfl)
theorem kw_633 : Cond.methodLink RL 58 yX1_fit ∈ kBIG := (kb_g3 kS18_3 kS18_3g 4 8 rfl rfl)
theorem kw_640 : Cond.methodLink RL 197 yL_wish ∈ kBIG := (kb_g3 kS18_3 kS18_3g 5 0 rfl rfl)
theorem kw_643 : Cond.methodLink RL 62 yX1_wish ∈ kBIG := (kb_g3 kS18_3 kS18_3g 5 3 rfl rfl)
theorem kw_647 : Cond.methodLink RL 200 yL_unwish ∈ kBIG := (kb_g3 kS18_3 kS18_3g 5 7 rfl rfl)
theorem kw_650 : Cond.methodLink RL 65 yX1_unwish ∈ kBIG := (kb_g3 kS18_3 kS18_3g 5 10 rfl rfl)
theorem kw_654 : Cond.methodLink RL 203 yL_grant ∈ kBIG := (kb_g3 kS18_3 kS18_3g 6 2 rfl rfl)
theorem kw_657 : Cond.methodLink RL 68 yX1_grant ∈ kBIG := (kb_g3 kS18_3 kS18_3g 6 5 rfl rfl)
theorem kw_661 : Cond.methodLink RL 206 yL_second ∈ kBIG := (kb_g3 kS18_3 kS18_3g 6 9 rfl rfl)
theorem kw_664 : Cond.methodLink RL 71 yX1_second ∈ kBIG := (kb_g3 kS18_3 kS18_3g 7 0 rfl rfl)
theorem kw_668 : Cond.methodLink RL 209 yL_nano ∈ kBIG := (kb_g3 kS18_3 kS18_3g 7 4 rfl rfl)
theorem kw_671 : Cond.methodLink RL 74 yX1_nano ∈ kBIG := (kb_g3 kS18_3 kS18_3g 7 7 rfl rfl)
theorem kw_675 : Cond.methodLink RL 212 yL_text ∈ kBIG := (kb_g3 kS18_3 kS18_3g 7 11 rfl rfl)
theorem kw_678 : Cond.methodLink RL 77 yX1_text ∈ kBIG := (kb_g3 kS18_3 kS18_3g 8 2 rfl rfl)
theorem kw_945 : Cond.methodLink RL 215 yL_order ∈ kBIG := (kb_g4 kS18_4 kS18_4g 0 0 rfl rfl)
theorem kw_948 : Cond.methodLink RL 85 yX1_order ∈ kBIG := (kb_g4 kS18_4 kS18_4g 0 3 rfl rfl)
theorem kw_952 : Cond.methodLink RL 218 yL_isBefore ∈ kBIG := (kb_g4 kS18_4 kS18_4g 0 7 rfl rfl)
theorem kw_955 : Cond.methodLink RL 88 yX1_isBefore ∈ kBIG := (kb_g4 kS18_4 kS18_4g 0 10 rfl rfl)
theorem kw_959 : Cond.methodLink RL 221 yL_isAfter ∈ kBIG := (kb_g4 kS18_4 kS18_4g 1 2 rfl rfl)
theorem kw_962 : Cond.methodLink RL 92 yX1_isAfter ∈ kBIG := (kb_g4 kS18_4 kS18_4g 1 5 rfl rfl)
theorem kw_966 : Cond.methodLink RL 224 yL_same ∈ kBIG := (kb_g4 kS18_4 kS18_4g 1 9 rfl rfl)
theorem kw_969 : Cond.methodLink RL 95 yX1_same ∈ kBIG := (kb_g4 kS18_4 kS18_4g 2 0 rfl rfl)
theorem kw_973 : Cond.methodLink RL 227 yL_apart ∈ kBIG := (kb_g4 kS18_4 kS18_4g 2 4 rfl rfl)
theorem kw_976 : Cond.methodLink RL 99 yX1_apart ∈ kBIG := (kb_g4 kS18_4 kS18_4g 2 7 rfl rfl)
theorem kw_980 : Cond.methodLink RL 230 yL_calendar ∈ kBIG := (kb_g4 kS18_4 kS18_4g 2 11 rfl rfl)
theorem kw_983 : Cond.methodLink RL 102 yX1_calendar ∈ kBIG := (kb_g4 kS18_4 kS18_4g 3 2 rfl rfl)
theorem kw_984 : Cond.methodLink RL 237 yL_ofSpan ∈ kBIG := (kb_g4 kS18_4 kS18_4g 3 3 rfl rfl)
theorem kw_987 : Cond.methodLink RL 105 yX1_ofSpan ∈ kBIG := (kb_g4 kS18_4 kS18_4g 3 6 rfl rfl)
theorem kw_991 : Cond.methodLink RL 240 yL_meets ∈ kBIG := (kb_g4 kS18_4 kS18_4g 3 10 rfl rfl)
theorem kw_994 : Cond.methodLink RL 108 yX1_meets ∈ kBIG := (kb_g4 kS18_4 kS18_4g 4 1 rfl rfl)
theorem kw_998 : Cond.methodLink RL 247 yL_at ∈ kBIG := (kb_g4 kS18_4 kS18_4g 4 5 rfl rfl)
theorem kw_1001 : Cond.methodLink RL 111 yX1_at ∈ kBIG := (kb_g4 kS18_4 kS18_4g 4 8 rfl rfl)
theorem kw_1005 : Cond.methodLink RL 254 yL_isFree ∈ kBIG := (kb_g4 kS18_4 kS18_4g 5 0 rfl rfl)
theorem kw_1008 : Cond.methodLink RL 114 yX1_isFree ∈ kBIG := (kb_g4 kS18_4 kS18_4g 5 3 rfl rfl)
theorem kw_1012 : Cond.methodLink RL 261 yL_ofFree ∈ kBIG := (kb_g4 kS18_4 kS18_4g 5 7 rfl rfl)
theorem kw_1015 : Cond.methodLink RL 117 yX1_ofFree ∈ kBIG := (kb_g4 kS18_4 kS18_4g 5 10 rfl rfl)
theorem kw_1019 : Cond.methodLink RL 264 yL_freeAt ∈ kBIG := (kb_g5 kS18_5 kS18_5g 0 3 rfl rfl)
theorem kw_1022 : Cond.methodLink RL 120 yX1_freeAt ∈ kBIG := (kb_g5 kS18_5 kS18_5g 0 6 rfl rfl)
theorem kw_1026 : Cond.methodLink RL 267 yL_length ∈ kBIG := (kb_g5 kS18_5 kS18_5g 0 10 rfl rfl)
theorem kw_1029 : Cond.methodLink RL 123 yX1_length ∈ kBIG := (kb_g5 kS18_5 kS18_5g 1 1 rfl rfl)
theorem kw_1030 : Cond.methodLink RL 274 yL_ofWish ∈ kBIG := (kb_g5 kS18_5 kS18_5g 1 2 rfl rfl)
theorem kw_1033 : Cond.methodLink RL 126 yX1_ofWish ∈ kBIG := (kb_g5 kS18_5 kS18_5g 1 5 rfl rfl)
theorem kw_1037 : Cond.methodLink RL 277 yL_isApart ∈ kBIG := (kb_g5 kS18_5 kS18_5g 1 9 rfl rfl)
theorem kw_1040 : Cond.methodLink RL 129 yX1_isApart ∈ kBIG := (kb_g5 kS18_5 kS18_5g 2 0 rfl rfl)
theorem kw_1044 : Cond.methodLink RL 284 yL_most ∈ kBIG := (kb_g5 kS18_5 kS18_5g 2 4 rfl rfl)
theorem kw_1047 : Cond.methodLink RL 133 yX1_most ∈ kBIG := (kb_g5 kS18_5 kS18_5g 2 7 rfl rfl)
theorem kw_1051 : Cond.methodLink RL 291 yL_room ∈ kBIG := (kb_g5 kS18_5 kS18_5g 2 11 rfl rfl)
theorem kw_1054 : Cond.methodLink RL 136 yX1_room ∈ kBIG := (kb_g5 kS18_5 kS18_5g 3 2 rfl rfl)
theorem kw_1058 : Cond.methodLink RL 298 yL_house ∈ kBIG := (kb_g5 kS18_5 kS18_5g 3 6 rfl rfl)
theorem kw_1061 : Cond.methodLink RL 139 yX1_house ∈ kBIG := (kb_g5 kS18_5 kS18_5g 3 9 rfl rfl)
theorem kw_1115 : Cond.methodLink RL 152 yX3_set ∈ kBIG := (kb_g5 kS18_5 kS18_5g 4 1 rfl rfl)
theorem kw_1148 : Cond.methodLink RL 156 yX3_go ∈ kBIG := (kb_g5 kS18_5 kS18_5g 4 5 rfl rfl)
theorem kw_1162 : Cond.methodLink RL 160 yX3_copy ∈ kBIG := (kb_g5 kS18_5 kS18_5g 4 9 rfl rfl)
theorem kw_1170 : Cond.methodLink RL 163 yX3_swap ∈ kBIG := (kb_g5 kS18_5 kS18_5g 5 1 rfl rfl)
theorem kw_1174 : Cond.methodLink RL 167 yX3_pick ∈ kBIG := (kb_g5 kS18_5 kS18_5g 5 5 rfl rfl)
theorem kw_1178 : Cond.methodLink RL 170 yX3_shift ∈ kBIG := (kb_g5 kS18_5 kS18_5g 5 9 rfl rfl)
theorem kw_1188 : Cond.methodLink RL 173 yX3_open ∈ kBIG := (kb_g5 kS18_5 kS18_5g 6 1 rfl rfl)
theorem kw_1192 : Cond.methodLink RL 177 yX3_book ∈ kBIG := (kb_g5 kS18_5 kS18_5g 6 5 rfl rfl)
theorem kw_1215 : Cond.methodLink RL 181 yX3_unbook ∈ kBIG := (kb_g5 kS18_5 kS18_5g 6 9 rfl rfl)
theorem kw_1223 : Cond.methodLink RL 186 yX3_empty ∈ kBIG := (kb_g5 kS18_5 kS18_5g 7 1 rfl rfl)
theorem kw_1227 : Cond.methodLink RL 189 yX3_move ∈ kBIG := (kb_g5 kS18_5 kS18_5g 7 5 rfl rfl)
theorem kw_1234 : Cond.methodLink RL 192 yX3_stretch ∈ kBIG := (kb_g5 kS18_5 kS18_5g 7 9 rfl rfl)
theorem kw_1238 : Cond.methodLink RL 196 yX3_fit ∈ kBIG := (kb_g5 kS18_5 kS18_5g 8 1 rfl rfl)
theorem kw_1247 : Cond.methodLink RL 199 yX3_wish ∈ kBIG := (kb_g5 kS18_5 kS18_5g 8 5 rfl rfl)
theorem kw_1251 : Cond.methodLink RL 202 yX3_unwish ∈ kBIG := (kb_g5 kS18_5 kS18_5g 8 9 rfl rfl)
theorem kw_1263 : Cond.methodLink RL 205 yX3_grant ∈ kBIG := (kb_g6 kS18_6 kS18_6g 0 0 rfl rfl)
theorem kw_1267 : Cond.methodLink RL 208 yX3_second ∈ kBIG := (kb_g6 kS18_6 kS18_6g 0 4 rfl rfl)
theorem kw_1271 : Cond.methodLink RL 211 yX3_nano ∈ kBIG := (kb_g6 kS18_6 kS18_6g 0 5 rfl rfl)
theorem kw_1278 : Cond.methodLink RL 214 yX3_text ∈ kBIG := (kb_g6 kS18_6 kS18_6g 0 6 rfl rfl)
theorem kw_1289 : Cond.methodLink RL 217 yX3_order ∈ kBIG := (kb_g6 kS18_6 kS18_6g 0 10 rfl rfl)
theorem kw_1297 : Cond.methodLink RL 220 yX3_isBefore ∈ kBIG := (kb_g6 kS18_6 kS18_6g 1 2 rfl rfl)
theorem kw_1301 : Cond.methodLink RL 223 yX3_isAfter ∈ kBIG := (kb_g6 kS18_6 kS18_6g 1 6 rfl rfl)
theorem kw_1305 : Cond.methodLink RL 226 yX3_same ∈ kBIG := (kb_g6 kS18_6 kS18_6g 1 10 rfl rfl)
theorem kw_1309 : Cond.methodLink RL 229 yX3_apart ∈ kBIG := (kb_g6 kS18_6 kS18_6g 2 2 rfl rfl)
theorem kw_1316 : Cond.methodLink RL 232 yX3_calendar ∈ kBIG := (kb_g6 kS18_6 kS18_6g 2 6 rfl rfl)
theorem kw_1320 : Cond.methodLink RL 236 yX3_spans ∈ kBIG := (kb_g6 kS18_6 kS18_6g 2 7 rfl rfl)
theorem kw_1324 : Cond.methodLink RL 239 yX3_ofSpan ∈ kBIG := (kb_g6 kS18_6 kS18_6g 2 11 rfl rfl)
theorem kw_1328 : Cond.methodLink RL 242 yX3_meets ∈ kBIG := (kb_g6 kS18_6 kS18_6g 3 3 rfl rfl)
theorem kw_1332 : Cond.methodLink RL 246 yX3_clashes ∈ kBIG := (kb_g6 kS18_6 kS18_6g 3 7 rfl rfl)
theorem kw_1336 : Cond.methodLink RL 249 yX3_at ∈ kBIG := (kb_g6 kS18_6 kS18_6g 3 8 rfl rfl)
theorem kw_1344 : Cond.methodLink RL 253 yX3_deepest_ ∈ kBIG := (kb_g6 kS18_6 kS18_6g 3 9 rfl rfl)
theorem kw_1352 : Cond.methodLink RL 256 yX3_isFree ∈ kBIG := (kb_g6 kS18_6 kS18_6g 3 10 rfl rfl)
theorem kw_1356 : Cond.methodLink RL 260 yX3_frees ∈ kBIG := (kb_g6 kS18_6 kS18_6g 4 2 rfl rfl)
theorem kw_1367 : Cond.methodLink RL 263 yX3_ofFree ∈ kBIG := (kb_g6 kS18_6 kS18_6g 4 3 rfl rfl)
theorem kw_1371 : Cond.methodLink RL 266 yX3_freeAt ∈ kBIG := (kb_g6 kS18_6 kS18_6g 4 4 rfl rfl)
theorem kw_1375 : Cond.methodLink RL 269 yX3_length ∈ kBIG := (kb_g6 kS18_6 kS18_6g 4 5 rfl rfl)
theorem kw_1387 : Cond.methodLink RL 273 yX3_wishes ∈ kBIG := (kb_g6 kS18_6 kS18_6g 4 6 rfl rfl)
theorem kw_1391 : Cond.methodLink RL 276 yX3_ofWish ∈ kBIG := (kb_g6 kS18_6 kS18_6g 4 10 rfl rfl)
theorem kw_1395 : Cond.methodLink RL 279 yX3_isApart ∈ kBIG := (kb_g6 kS18_6 kS18_6g 5 2 rfl rfl)
theorem kw_1407 : Cond.methodLink RL 283 yX3_chosen ∈ kBIG := (kb_g6 kS18_6 kS18_6g 5 6 rfl rfl)
theorem kw_1415 : Cond.methodLink RL 286 yX3_most ∈ kBIG := (kb_g6 kS18_6 kS18_6g 5 10 rfl rfl)
theorem kw_1426 : Cond.methodLink RL 290 yX3_crowd ∈ kBIG := (kb_g6 kS18_6 kS18_6g 6 2 rfl rfl)
theorem kw_1430 : Cond.methodLink RL 293 yX3_room ∈ kBIG := (kb_g6 kS18_6 kS18_6g 6 3 rfl rfl)
theorem kw_1442 : Cond.methodLink RL 297 yX3_rooms ∈ kBIG := (kb_g6 kS18_6 kS18_6g 6 7 rfl rfl)
theorem kw_1450 : Cond.methodLink RL 300 yX3_house ∈ kBIG := (kb_g6 kS18_6 kS18_6g 6 11 rfl rfl)
theorem kw_1454 : Cond.methodLink RL 304 yX3_knock ∈ kBIG := (kb_g6 kS18_6 kS18_6g 7 0 rfl rfl)
theorem kw_1458 : Cond.methodLink RL 309 yX3_isSound ∈ kBIG := (kb_g6 kS18_6 kS18_6g 7 4 rfl rfl)
theorem kw_1466 : Cond.methodLink RL 314 yX3_digest ∈ kBIG := (kb_g6 kS18_6 kS18_6g 7 5 rfl rfl)
theorem kv_L_apart : kWt yL_apart cL_apart 6 (some .int) [(0, 13, 16, 19), (0, 13, 20, 21)] 5 := ⟨(kb_g4 kS18_4 kS18_4g 2 6 rfl rfl), (kb_g4 kS18_4 kS18_4g 2 5 rfl rfl), (kb_g1 kS18_1 kS18_1g 0 0 rfl rfl), kmh_RL, kvh_RL, pd_59⟩
theorem kv_L_at : kWt yL_at cL_at 4 (some .int) [(0, 10, 13, 19)] 3 := ⟨(kb_g4 kS18_4 kS18_4g 4 7 rfl rfl), (kb_g4 kS18_4 kS18_4g 4 6 rfl rfl), (kb_g1 kS18_1 kS18_1g 0 0 rfl rfl), kmh_RL, kvh_RL, pd_60⟩
theorem kv_L_book : kWt yL_book cL_book 6 (some .int) [(0, 13, 16, 19)] 5 := ⟨(kb_g3 kS18_3 kS18_3g 2 3 rfl rfl), (kb_g3 kS18_3 kS18_3g 2 2 rfl rfl), (kb_g1 kS18_1 kS18_1g 0 0 rfl rfl), kmh_RL, kvh_RL, pd_61⟩
theorem kv_L_calendar : kWt yL_calendar cL_calendar 4 (some .int) [(0, 10, 13, 21)] 3 := ⟨(kb_g4 kS18_4 kS18_4g 3 1 rfl rfl), (kb_g4 kS18_4 kS18_4g 3 0 rfl rfl), (kb_g1 kS18_1 kS18_1g 0 0 rfl rfl), kmh_RL, kvh_RL, pd_60⟩
theorem kv_L_copy : kWt yL_copy cL_copy 5 (some .int) [(0, 11, 14, 19)] 4 := ⟨(kb_g2 kS18_2 kS18_2g 1 10 rfl rfl), (kb_g2 kS18_2 kS18_2g 1 9 rfl rfl), (kb_g1 kS18_1 kS18_1g 0 0 rfl rfl), kmh_RL, kvh_RL, pd_62⟩
theorem kv_L_fit : kWt yL_fit cL_fit 7 (some .int) [(0, 15, 18, 19), (0, 15, 22, 21)] 6 := ⟨(kb_g3 kS18_3 kS18_3g 4 7 rfl rfl), (kb_g3 kS18_3 kS18_3g 4 6 rfl rfl), (kb_g1 kS18_1 kS18_1g 0 0 rfl rfl), kmh_RL, kvh_RL, pd_63⟩
theorem kv_L_freeAt : kWt yL_freeAt cL_freeAt 4 (some .int) [(0, 10, 13, 19)] 3 := ⟨(kb_g5 kS18_5 kS18_5g 0 5 rfl rfl), (kb_g5 kS18_5 kS18_5g 0 4 rfl rfl), (kb_g1 kS18_1 kS18_1g 0 0 rfl rfl), kmh_RL, kvh_RL, pd_60⟩
theorem kv_L_go : kWt yL_go cL_go 7 (some .int) [(0, 15, 18, 19), (0, 15, 22, 21)] 6 := ⟨(kb_g2 kS18_2 kS18_2g 1 3 rfl rfl), (kb_g2 kS18_2 kS18_2g 1 2 rfl rfl), (kb_g1 kS18_1 kS18_1g 0 0 rfl rfl), kmh_RL, kvh_RL, pd_64⟩
theorem kv_L_grant : kWt yL_grant cL_grant 4 (some .int) [(0, 10, 13, 19)] 3 := ⟨(kb_g3 kS18_3 kS18_3g 6 4 rfl rfl), (kb_g3 kS18_3 kS18_3g 6 3 rfl rfl), (kb_g1 kS18_1 kS18_1g 0 0 rfl rfl), kmh_RL, kvh_RL, pd_60⟩
theorem kv_L_house : kWt yL_house cL_house 4 (some .int) [(0, 10, 13, 21)] 3 := ⟨(kb_g5 kS18_5 kS18_5g 3 8 rfl rfl), (kb_g5 kS18_5 kS18_5g 3 7 rfl rfl), (kb_g1 kS18_1 kS18_1g 0 0 rfl rfl), kmh_RL, kvh_RL, pd_60⟩
theorem kv_L_isAfter : kWt yL_isAfter cL_isAfter 5 (some .int) [(0, 18, 21, 19)] 4 := ⟨(kb_g4 kS18_4 kS18_4g 1 4 rfl rfl), (kb_g4 kS18_4 kS18_4g 1 3 rfl rfl), (kb_g1 kS18_1 kS18_1g 0 0 rfl rfl), kmh_RL, kvh_RL, pd_62⟩
theorem kv_L_isApart : kWt yL_isApart cL_isApart 4 (some .int) [(0, 17, 20, 21)] 3 := ⟨(kb_g5 kS18_5 kS18_5g 1 11 rfl rfl), (kb_g5 kS18_5 kS18_5g 1 10 rfl rfl), (kb_g1 kS18_1 kS18_1g 0 0 rfl rfl), kmh_RL, kvh_RL, pd_60⟩
theorem kv_L_isBefore : kWt yL_isBefore cL_isBefore 5 (some .int) [(0, 18, 21, 19)] 4 := ⟨(kb_g4 kS18_4 kS18_4g 0 9 rfl rfl), (kb_g4 kS18_4 kS18_4g 0 8 rfl rfl), (kb_g1 kS18_1 kS18_1g 0 0 rfl rfl), kmh_RL, kvh_RL, pd_62⟩
theorem kv_L_isFree : kWt yL_isFree cL_isFree 5 (some .int) [(0, 18, 21, 19)] 4 := ⟨(kb_g4 kS18_4 kS18_4g 5 2 rfl rfl), (kb_g4 kS18_4 kS18_4g 5 1 rfl rfl), (kb_g1 kS18_1 kS18_1g 0 0 rfl rfl), kmh_RL, kvh_RL, pd_62⟩
theorem kv_L_length : kWt yL_length cL_length 4 (some .int) [(0, 10, 13, 21)] 3 := ⟨(kb_g5 kS18_5 kS18_5g 1 0 rfl rfl), (kb_g5 kS18_5 kS18_5g 0 11 rfl rfl), (kb_g1 kS18_1 kS18_1g 0 0 rfl rfl), kmh_RL, kvh_RL, pd_60⟩
theorem kv_L_meets : kWt yL_meets cL_meets 5 (some .int) [(0, 18, 21, 19)] 4 := ⟨(kb_g4 kS18_4 kS18_4g 4 0 rfl rfl), (kb_g4 kS18_4 kS18_4g 3 11 rfl rfl), (kb_g1 kS18_1 kS18_1g 0 0 rfl rfl), kmh_RL, kvh_RL, pd_62⟩
theorem kv_L_most : kWt yL_most cL_most 4 (some .int) [(0, 10, 13, 21)] 3 := ⟨(kb_g5 kS18_5 kS18_5g 2 6 rfl rfl), (kb_g5 kS18_5 kS18_5g 2 5 rfl rfl), (kb_g1 kS18_1 kS18_1g 0 0 rfl rfl), kmh_RL, kvh_RL, pd_60⟩
theorem kv_L_move : kWt yL_move cL_move 6 (some .int) [(0, 13, 16, 19), (0, 13, 20, 21)] 5 := ⟨(kb_g3 kS18_3 kS18_3g 3 5 rfl rfl), (kb_g3 kS18_3 kS18_3g 3 4 rfl rfl), (kb_g1 kS18_1 kS18_1g 0 0 rfl rfl), kmh_RL, kvh_RL, pd_59⟩
theorem kv_L_nano : kWt yL_nano cL_nano 4 (some .int) [(0, 10, 13, 19)] 3 := ⟨(kb_g3 kS18_3 kS18_3g 7 6 rfl rfl), (kb_g3 kS18_3 kS18_3g 7 5 rfl rfl), (kb_g1 kS18_1 kS18_1g 0 0 rfl rfl), kmh_RL, kvh_RL, pd_60⟩
theorem kv_L_ofFree : kWt yL_ofFree cL_ofFree 5 (some .int) [(0, 11, 14, 19), (0, 11, 18, 21)] 4 := ⟨(kb_g4 kS18_4 kS18_4g 5 9 rfl rfl), (kb_g4 kS18_4 kS18_4g 5 8 rfl rfl), (kb_g1 kS18_1 kS18_1g 0 0 rfl rfl), kmh_RL, kvh_RL, pd_62⟩
theorem kv_L_ofSpan : kWt yL_ofSpan cL_ofSpan 5 (some .int) [(0, 11, 14, 19), (0, 11, 18, 21)] 4 := ⟨(kb_g4 kS18_4 kS18_4g 3 5 rfl rfl), (kb_g4 kS18_4 kS18_4g 3 4 rfl rfl), (kb_g1 kS18_1 kS18_1g 0 0 rfl rfl), kmh_RL, kvh_RL, pd_62⟩
theorem kv_L_ofWish : kWt yL_ofWish cL_ofWish 5 (some .int) [(0, 11, 14, 19), (0, 11, 18, 21)] 4 := ⟨(kb_g5 kS18_5 kS18_5g 1 4 rfl rfl), (kb_g5 kS18_5 kS18_5g 1 3 rfl rfl), (kb_g1 kS18_1 kS18_1g 0 0 rfl rfl), kmh_RL, kvh_RL, pd_62⟩
theorem kv_L_open : kWt yL_open cL_open 5 (some .int) [(0, 11, 14, 19)] 4 := ⟨(kb_g3 kS18_3 kS18_3g 1 8 rfl rfl), (kb_g3 kS18_3 kS18_3g 1 7 rfl rfl), (kb_g1 kS18_1 kS18_1g 0 0 rfl rfl), kmh_RL, kvh_RL, pd_62⟩
theorem kv_L_order : kWt yL_order cL_order 5 (some .int) [(0, 11, 14, 19)] 4 := ⟨(kb_g4 kS18_4 kS18_4g 0 2 rfl rfl), (kb_g4 kS18_4 kS18_4g 0 1 rfl rfl), (kb_g1 kS18_1 kS18_1g 0 0 rfl rfl), kmh_RL, kvh_RL, pd_62⟩
theorem kv_L_pick : kWt yL_pick cL_pick 5 (some .int) [(0, 11, 14, 19)] 4 := ⟨(kb_g3 kS18_3 kS18_3g 0 6 rfl rfl), (kb_g3 kS18_3 kS18_3g 0 5 rfl rfl), (kb_g1 kS18_1 kS18_1g 0 0 rfl rfl), kmh_RL, kvh_RL, pd_65⟩
theorem kv_L_room : kWt yL_room cL_room 4 (some .int) [(0, 10, 13, 19)] 3 := ⟨(kb_g5 kS18_5 kS18_5g 3 1 rfl rfl), (kb_g5 kS18_5 kS18_5g 3 0 rfl rfl), (kb_g1 kS18_1 kS18_1g 0 0 rfl rfl), kmh_RL, kvh_RL, pd_60⟩
theorem kv_L_same : kWt yL_same cL_same 6 (some .int) [(0, 20, 23, 19), (0, 20, 27, 21)] 5 := ⟨(kb_g4 kS18_4 kS18_4g 1 11 rfl rfl), (kb_g4 kS18_4 kS18_4g 1 10 rfl rfl), (kb_g1 kS18_1 kS18_1g 0 0 rfl rfl), kmh_RL, kvh_RL, pd_59⟩
theorem kv_L_second : kWt yL_second cL_second 4 (some .int) [(0, 10, 13, 19)] 3 := ⟨(kb_g3 kS18_3 kS18_3g 6 11 rfl rfl), (kb_g3 kS18_3 kS18_3g 6 10 rfl rfl), (kb_g1 kS18_1 kS18_1g 0 0 rfl rfl), kmh_RL, kvh_RL, pd_60⟩
theorem kv_L_set : kWt yL_set cL_set 6 (some .int) [(0, 13, 16, 19), (0, 13, 20, 21)] 5 := ⟨(kb_g2 kS18_2 kS18_2g 0 6 rfl rfl), (kb_g2 kS18_2 kS18_2g 0 5 rfl rfl), (kb_g1 kS18_1 kS18_1g 0 0 rfl rfl), kmh_RL, kvh_RL, pd_59⟩
theorem kv_L_shift : kWt yL_shift cL_shift 5 (some .int) [(0, 11, 14, 21)] 4 := ⟨(kb_g3 kS18_3 kS18_3g 1 1 rfl rfl), (kb_g3 kS18_3 kS18_3g 1 0 rfl rfl), (kb_g1 kS18_1 kS18_1g 0 0 rfl rfl), kmh_RL, kvh_RL, pd_62⟩
theorem kv_L_stretch : kWt yL_stretch cL_stretch 6 (some .int) [(0, 13, 16, 19), (0, 13, 20, 21)] 5 := ⟨(kb_g3 kS18_3 kS18_3g 4 0 rfl rfl), (kb_g3 kS18_3 kS18_3g 3 11 rfl rfl), (kb_g1 kS18_1 kS18_1g 0 0 rfl rfl), kmh_RL, kvh_RL, pd_59⟩
theorem kv_L_swap : kWt yL_swap cL_swap 5 (some .int) [(0, 11, 14, 19)] 4 := ⟨(kb_g2 kS18_2 kS18_2g 2 5 rfl rfl), (kb_g2 kS18_2 kS18_2g 2 4 rfl rfl), (kb_g1 kS18_1 kS18_1g 0 0 rfl rfl), kmh_RL, kvh_RL, pd_62⟩
theorem kv_L_text : kWt yL_text cL_text 4 (some .int) [(0, 9, 12, 19)] 3 := ⟨(kb_g3 kS18_3 kS18_3g 8 1 rfl rfl), (kb_g3 kS18_3 kS18_3g 8 0 rfl rfl), (kb_g1 kS18_1 kS18_1g 0 0 rfl rfl), kmh_RL, kvh_RL, pd_60⟩
theorem kv_L_unbook : kWt yL_unbook cL_unbook 4 (some .int) [(0, 10, 13, 19)] 3 := ⟨(kb_g3 kS18_3 kS18_3g 2 10 rfl rfl), (kb_g3 kS18_3 kS18_3g 2 9 rfl rfl), (kb_g1 kS18_1 kS18_1g 0 0 rfl rfl), kmh_RL, kvh_RL, pd_60⟩
theorem kv_L_unwish : kWt yL_unwish cL_unwish 4 (some .int) [(0, 10, 13, 19)] 3 := ⟨(kb_g3 kS18_3 kS18_3g 5 9 rfl rfl), (kb_g3 kS18_3 kS18_3g 5 8 rfl rfl), (kb_g1 kS18_1 kS18_1g 0 0 rfl rfl), kmh_RL, kvh_RL, pd_60⟩
theorem kv_L_wish : kWt yL_wish cL_wish 5 (some .int) [(0, 11, 14, 19)] 4 := ⟨(kb_g3 kS18_3 kS18_3g 5 2 rfl rfl), (kb_g3 kS18_3 kS18_3g 5 1 rfl rfl), (kb_g1 kS18_1 kS18_1g 0 0 rfl rfl), kmh_RL, kvh_RL, pd_62⟩
theorem kv_X1_apart : kVt yX1_apart cX1_apart 4 (some .int) 3 := ⟨(kb_g4 kS18_4 kS18_4g 2 10 rfl rfl), (kb_g4 kS18_4 kS18_4g 2 8 rfl rfl), (kb_g4 kS18_4 kS18_4g 2 9 rfl rfl), (kb_g1 kS18_1 kS18_1g 0 1 rfl rfl), kmh_RX1, kvh_RX1, pd_17⟩
theorem kv_X1_at : kVt yX1_at cX1_at 2 (some .int) 1 := ⟨(kb_g4 kS18_4 kS18_4g 4 11 rfl rfl), (kb_g4 kS18_4 kS18_4g 4 9 rfl rfl), (kb_g4 kS18_4 kS18_4g 4 10 rfl rfl), (kb_g1 kS18_1 kS18_1g 0 1 rfl rfl), kmh_RX1, kvh_RX1, pd_11⟩
theorem kv_X1_book : kVt yX1_book cX1_book 5 (some .int) 3 := ⟨(kb_g3 kS18_3 kS18_3g 2 7 rfl rfl), (kb_g3 kS18_3 kS18_3g 2 5 rfl rfl), (kb_g3 kS18_3 kS18_3g 2 6 rfl rfl), (kb_g1 kS18_1 kS18_1g 0 1 rfl rfl), kmh_RX1, kvh_RX1, pd_66⟩
theorem kv_X1_copy : kVt yX1_copy cX1_copy 3 (some .int) 2 := ⟨(kb_g2 kS18_2 kS18_2g 2 2 rfl rfl), (kb_g2 kS18_2 kS18_2g 2 0 rfl rfl), (kb_g2 kS18_2 kS18_2g 2 1 rfl rfl), (kb_g1 kS18_1 kS18_1g 0 1 rfl rfl), kmh_RX1, kvh_RX1, pd_56⟩
theorem kv_X1_digest : kVt yX1_digest cX1_digest 3 (some .long) 0 := ⟨(kb_g2 kS18_2 kS18_2g 0 3 rfl rfl), (kb_g2 kS18_2 kS18_2g 0 1 rfl rfl), (kb_g2 kS18_2 kS18_2g 0 2 rfl rfl), (kb_g1 kS18_1 kS18_1g 0 1 rfl rfl), kmh_RX1, kvh_RX1, pd_32⟩
theorem kv_X1_empty : kVt yX1_empty cX1_empty 1 (some .int) 0 := ⟨(kb_g1 kS18_1 kS18_1g 0 6 rfl rfl), (kb_g1 kS18_1 kS18_1g 0 4 rfl rfl), (kb_g1 kS18_1 kS18_1g 0 5 rfl rfl), (kb_g1 kS18_1 kS18_1g 0 1 rfl rfl), kmh_RX1, kvh_RX1, pd_2⟩
theorem kv_X1_fit : kVt yX1_fit cX1_fit 9 (some .int) 4 := ⟨(kb_g3 kS18_3 kS18_3g 4 11 rfl rfl), (kb_g3 kS18_3 kS18_3g 4 9 rfl rfl), (kb_g3 kS18_3 kS18_3g 4 10 rfl rfl), (kb_g1 kS18_1 kS18_1g 0 1 rfl rfl), kmh_RX1, kvh_RX1, pd_67⟩
theorem kv_X1_freeAt : kVt yX1_freeAt cX1_freeAt 2 (some .int) 1 := ⟨(kb_g5 kS18_5 kS18_5g 0 9 rfl rfl), (kb_g5 kS18_5 kS18_5g 0 7 rfl rfl), (kb_g5 kS18_5 kS18_5g 0 8 rfl rfl), (kb_g1 kS18_1 kS18_1g 0 1 rfl rfl), kmh_RX1, kvh_RX1, pd_11⟩
theorem kv_X1_frees : kVt yX1_frees cX1_frees 1 (some .int) 0 := ⟨(kb_g1 kS18_1 kS18_1g 1 4 rfl rfl), (kb_g1 kS18_1 kS18_1g 1 2 rfl rfl), (kb_g1 kS18_1 kS18_1g 1 3 rfl rfl), (kb_g1 kS18_1 kS18_1g 0 1 rfl rfl), kmh_RX1, kvh_RX1, pd_2⟩
theorem kv_X1_go : kVt yX1_go cX1_go 10 (some .int) 4 := ⟨(kb_g2 kS18_2 kS18_2g 1 7 rfl rfl), (kb_g2 kS18_2 kS18_2g 1 5 rfl rfl), (kb_g2 kS18_2 kS18_2g 1 6 rfl rfl), (kb_g1 kS18_1 kS18_1g 0 1 rfl rfl), kmh_RX1, kvh_RX1, pd_68⟩
theorem kv_X1_grant : kVt yX1_grant cX1_grant 3 (some .int) 1 := ⟨(kb_g3 kS18_3 kS18_3g 6 8 rfl rfl), (kb_g3 kS18_3 kS18_3g 6 6 rfl rfl), (kb_g3 kS18_3 kS18_3g 6 7 rfl rfl), (kb_g1 kS18_1 kS18_1g 0 1 rfl rfl), kmh_RX1, kvh_RX1, pd_11⟩
theorem kv_X1_house : kVt yX1_house cX1_house 2 (some .int) 1 := ⟨(kb_g5 kS18_5 kS18_5g 4 0 rfl rfl), (kb_g5 kS18_5 kS18_5g 3 10 rfl rfl), (kb_g5 kS18_5 kS18_5g 3 11 rfl rfl), (kb_g1 kS18_1 kS18_1g 0 1 rfl rfl), kmh_RX1, kvh_RX1, pd_11⟩
theorem kv_X1_isAfter : kVt yX1_isAfter cX1_isAfter 3 (some .boolean) 2 := ⟨(kb_g4 kS18_4 kS18_4g 1 8 rfl rfl), (kb_g4 kS18_4 kS18_4g 1 6 rfl rfl), (kb_g4 kS18_4 kS18_4g 1 7 rfl rfl), (kb_g1 kS18_1 kS18_1g 0 1 rfl rfl), kmh_RX1, kvh_RX1, pd_22⟩
theorem kv_X1_isApart : kVt yX1_isApart cX1_isApart 2 (some .boolean) 1 := ⟨(kb_g5 kS18_5 kS18_5g 2 3 rfl rfl), (kb_g5 kS18_5 kS18_5g 2 1 rfl rfl), (kb_g5 kS18_5 kS18_5g 2 2 rfl rfl), (kb_g1 kS18_1 kS18_1g 0 1 rfl rfl), kmh_RX1, kvh_RX1, pd_25⟩
theorem kv_X1_isBefore : kVt yX1_isBefore cX1_isBefore 3 (some .boolean) 2 := ⟨(kb_g4 kS18_4 kS18_4g 1 1 rfl rfl), (kb_g4 kS18_4 kS18_4g 0 11 rfl rfl), (kb_g4 kS18_4 kS18_4g 1 0 rfl rfl), (kb_g1 kS18_1 kS18_1g 0 1 rfl rfl), kmh_RX1, kvh_RX1, pd_22⟩
theorem kv_X1_isFree : kVt yX1_isFree cX1_isFree 7 (some .boolean) 2 := ⟨(kb_g4 kS18_4 kS18_4g 5 6 rfl rfl), (kb_g4 kS18_4 kS18_4g 5 4 rfl rfl), (kb_g4 kS18_4 kS18_4g 5 5 rfl rfl), (kb_g1 kS18_1 kS18_1g 0 1 rfl rfl), kmh_RX1, kvh_RX1, pd_22⟩
theorem kv_X1_knock : kVt yX1_knock cX1_knock 1 (some .int) 0 := ⟨(kb_g1 kS18_1 kS18_1g 2 6 rfl rfl), (kb_g1 kS18_1 kS18_1g 2 4 rfl rfl), (kb_g1 kS18_1 kS18_1g 2 5 rfl rfl), (kb_g1 kS18_1 kS18_1g 0 1 rfl rfl), kmh_RX1, kvh_RX1, pd_2⟩
theorem kv_X1_meets : kVt yX1_meets cX1_meets 3 (some .boolean) 2 := ⟨(kb_g4 kS18_4 kS18_4g 4 4 rfl rfl), (kb_g4 kS18_4 kS18_4g 4 2 rfl rfl), (kb_g4 kS18_4 kS18_4g 4 3 rfl rfl), (kb_g1 kS18_1 kS18_1g 0 1 rfl rfl), kmh_RX1, kvh_RX1, pd_22⟩
theorem kv_X1_most : kVt yX1_most cX1_most 2 (some .int) 1 := ⟨(kb_g5 kS18_5 kS18_5g 2 10 rfl rfl), (kb_g5 kS18_5 kS18_5g 2 8 rfl rfl), (kb_g5 kS18_5 kS18_5g 2 9 rfl rfl), (kb_g1 kS18_1 kS18_1g 0 1 rfl rfl), kmh_RX1, kvh_RX1, pd_11⟩
theorem kv_X1_move : kVt yX1_move cX1_move 6 (some .int) 3 := ⟨(kb_g3 kS18_3 kS18_3g 3 9 rfl rfl), (kb_g3 kS18_3 kS18_3g 3 7 rfl rfl), (kb_g3 kS18_3 kS18_3g 3 8 rfl rfl), (kb_g1 kS18_1 kS18_1g 0 1 rfl rfl), kmh_RX1, kvh_RX1, pd_17⟩
theorem kv_X1_nano : kVt yX1_nano cX1_nano 2 (some .int) 1 := ⟨(kb_g3 kS18_3 kS18_3g 7 10 rfl rfl), (kb_g3 kS18_3 kS18_3g 7 8 rfl rfl), (kb_g3 kS18_3 kS18_3g 7 9 rfl rfl), (kb_g1 kS18_1 kS18_1g 0 1 rfl rfl), kmh_RX1, kvh_RX1, pd_11⟩
theorem kv_X1_ofFree : kVt yX1_ofFree cX1_ofFree 3 (some .int) 2 := ⟨(kb_g5 kS18_5 kS18_5g 0 2 rfl rfl), (kb_g5 kS18_5 kS18_5g 0 0 rfl rfl), (kb_g5 kS18_5 kS18_5g 0 1 rfl rfl), (kb_g1 kS18_1 kS18_1g 0 1 rfl rfl), kmh_RX1, kvh_RX1, pd_56⟩
theorem kv_X1_ofSpan : kVt yX1_ofSpan cX1_ofSpan 3 (some .int) 2 := ⟨(kb_g4 kS18_4 kS18_4g 3 9 rfl rfl), (kb_g4 kS18_4 kS18_4g 3 7 rfl rfl), (kb_g4 kS18_4 kS18_4g 3 8 rfl rfl), (kb_g1 kS18_1 kS18_1g 0 1 rfl rfl), kmh_RX1, kvh_RX1, pd_56⟩
theorem kv_X1_ofWish : kVt yX1_ofWish cX1_ofWish 3 (some .int) 2 := ⟨(kb_g5 kS18_5 kS18_5g 1 8 rfl rfl), (kb_g5 kS18_5 kS18_5g 1 6 rfl rfl), (kb_g5 kS18_5 kS18_5g 1 7 rfl rfl), (kb_g1 kS18_1 kS18_1g 0 1 rfl rfl), kmh_RX1, kvh_RX1, pd_56⟩
theorem kv_X1_open : kVt yX1_open cX1_open 3 (some .int) 2 := ⟨(kb_g3 kS18_3 kS18_3g 2 0 rfl rfl), (kb_g3 kS18_3 kS18_3g 1 10 rfl rfl), (kb_g3 kS18_3 kS18_3g 1 11 rfl rfl), (kb_g1 kS18_1 kS18_1g 0 1 rfl rfl), kmh_RX1, kvh_RX1, pd_56⟩
theorem kv_X1_order : kVt yX1_order cX1_order 3 (some .int) 2 := ⟨(kb_g4 kS18_4 kS18_4g 0 6 rfl rfl), (kb_g4 kS18_4 kS18_4g 0 4 rfl rfl), (kb_g4 kS18_4 kS18_4g 0 5 rfl rfl), (kb_g1 kS18_1 kS18_1g 0 1 rfl rfl), kmh_RX1, kvh_RX1, pd_56⟩
theorem kv_X1_pick : kVt yX1_pick cX1_pick 6 (some .int) 2 := ⟨(kb_g3 kS18_3 kS18_3g 0 10 rfl rfl), (kb_g3 kS18_3 kS18_3g 0 8 rfl rfl), (kb_g3 kS18_3 kS18_3g 0 9 rfl rfl), (kb_g1 kS18_1 kS18_1g 0 1 rfl rfl), kmh_RX1, kvh_RX1, pd_69⟩
theorem kv_X1_room : kVt yX1_room cX1_room 2 (some .int) 1 := ⟨(kb_g5 kS18_5 kS18_5g 3 5 rfl rfl), (kb_g5 kS18_5 kS18_5g 3 3 rfl rfl), (kb_g5 kS18_5 kS18_5g 3 4 rfl rfl), (kb_g1 kS18_1 kS18_1g 0 1 rfl rfl), kmh_RX1, kvh_RX1, pd_11⟩
theorem kv_X1_rooms : kVt yX1_rooms cX1_rooms 1 (some .int) 0 := ⟨(kb_g1 kS18_1 kS18_1g 2 2 rfl rfl), (kb_g1 kS18_1 kS18_1g 2 0 rfl rfl), (kb_g1 kS18_1 kS18_1g 2 1 rfl rfl), (kb_g1 kS18_1 kS18_1g 0 1 rfl rfl), kmh_RX1, kvh_RX1, pd_2⟩
theorem kv_X1_same : kVt yX1_same cX1_same 4 (some .boolean) 3 := ⟨(kb_g4 kS18_4 kS18_4g 2 3 rfl rfl), (kb_g4 kS18_4 kS18_4g 2 1 rfl rfl), (kb_g4 kS18_4 kS18_4g 2 2 rfl rfl), (kb_g1 kS18_1 kS18_1g 0 1 rfl rfl), kmh_RX1, kvh_RX1, pd_34⟩
theorem kv_X1_second : kVt yX1_second cX1_second 2 (some .int) 1 := ⟨(kb_g3 kS18_3 kS18_3g 7 3 rfl rfl), (kb_g3 kS18_3 kS18_3g 7 1 rfl rfl), (kb_g3 kS18_3 kS18_3g 7 2 rfl rfl), (kb_g1 kS18_1 kS18_1g 0 1 rfl rfl), kmh_RX1, kvh_RX1, pd_11⟩
theorem kv_X1_set : kVt yX1_set cX1_set 6 (some .int) 3 := ⟨(kb_g2 kS18_2 kS18_2g 1 0 rfl rfl), (kb_g2 kS18_2 kS18_2g 0 10 rfl rfl), (kb_g2 kS18_2 kS18_2g 0 11 rfl rfl), (kb_g1 kS18_1 kS18_1g 0 1 rfl rfl), kmh_RX1, kvh_RX1, pd_17⟩
theorem kv_X1_shift : kVt yX1_shift cX1_shift 6 (some .int) 2 := ⟨(kb_g3 kS18_3 kS18_3g 1 5 rfl rfl), (kb_g3 kS18_3 kS18_3g 1 3 rfl rfl), (kb_g3 kS18_3 kS18_3g 1 4 rfl rfl), (kb_g1 kS18_1 kS18_1g 0 1 rfl rfl), kmh_RX1, kvh_RX1, pd_56⟩
theorem kv_X1_spans : kVt yX1_spans cX1_spans 1 (some .int) 0 := ⟨(kb_g1 kS18_1 kS18_1g 0 10 rfl rfl), (kb_g1 kS18_1 kS18_1g 0 8 rfl rfl), (kb_g1 kS18_1 kS18_1g 0 9 rfl rfl), (kb_g1 kS18_1 kS18_1g 0 1 rfl rfl), kmh_RX1, kvh_RX1, pd_2⟩
theorem kv_X1_stretch : kVt yX1_stretch cX1_stretch 4 (some .int) 3 := ⟨(kb_g3 kS18_3 kS18_3g 4 4 rfl rfl), (kb_g3 kS18_3 kS18_3g 4 2 rfl rfl), (kb_g3 kS18_3 kS18_3g 4 3 rfl rfl), (kb_g1 kS18_1 kS18_1g 0 1 rfl rfl), kmh_RX1, kvh_RX1, pd_17⟩
theorem kv_X1_swap : kVt yX1_swap cX1_swap 6 (some .int) 2 := ⟨(kb_g3 kS18_3 kS18_3g 0 3 rfl rfl), (kb_g3 kS18_3 kS18_3g 0 1 rfl rfl), (kb_g3 kS18_3 kS18_3g 0 2 rfl rfl), (kb_g1 kS18_1 kS18_1g 0 1 rfl rfl), kmh_RX1, kvh_RX1, pd_56⟩
theorem kv_X1_text : kVt yX1_text cX1_text 3 (some (.object "java/lang/String")) 1 := ⟨(kb_g3 kS18_3 kS18_3g 8 5 rfl rfl), (kb_g3 kS18_3 kS18_3g 8 3 rfl rfl), (kb_g3 kS18_3 kS18_3g 8 4 rfl rfl), (kb_g1 kS18_1 kS18_1g 0 1 rfl rfl), kmh_RX1, kvh_RX1, pd_70⟩
theorem kv_X1_unbook : kVt yX1_unbook cX1_unbook 2 (some .int) 1 := ⟨(kb_g3 kS18_3 kS18_3g 3 2 rfl rfl), (kb_g3 kS18_3 kS18_3g 3 0 rfl rfl), (kb_g3 kS18_3 kS18_3g 3 1 rfl rfl), (kb_g1 kS18_1 kS18_1g 0 1 rfl rfl), kmh_RX1, kvh_RX1, pd_11⟩
theorem kv_X1_unwish : kVt yX1_unwish cX1_unwish 2 (some .int) 1 := ⟨(kb_g3 kS18_3 kS18_3g 6 1 rfl rfl), (kb_g3 kS18_3 kS18_3g 5 11 rfl rfl), (kb_g3 kS18_3 kS18_3g 6 0 rfl rfl), (kb_g1 kS18_1 kS18_1g 0 1 rfl rfl), kmh_RX1, kvh_RX1, pd_11⟩
theorem kv_X1_wish : kVt yX1_wish cX1_wish 3 (some .int) 2 := ⟨(kb_g3 kS18_3 kS18_3g 5 6 rfl rfl), (kb_g3 kS18_3 kS18_3g 5 4 rfl rfl), (kb_g3 kS18_3 kS18_3g 5 5 rfl rfl), (kb_g1 kS18_1 kS18_1g 0 1 rfl rfl), kmh_RX1, kvh_RX1, pd_56⟩
theorem kv_X1_wishes : kVt yX1_wishes cX1_wishes 1 (some .int) 0 := ⟨(kb_g1 kS18_1 kS18_1g 1 8 rfl rfl), (kb_g1 kS18_1 kS18_1g 1 6 rfl rfl), (kb_g1 kS18_1 kS18_1g 1 7 rfl rfl), (kb_g1 kS18_1 kS18_1g 0 1 rfl rfl), kmh_RX1, kvh_RX1, pd_2⟩
theorem kv_X3_apart : kVt yX3_apart cX3_apart 4 (some .int) 3 := ⟨(kb_g6 kS18_6 kS18_6g 2 5 rfl rfl), (kb_g6 kS18_6 kS18_6g 2 3 rfl rfl), (kb_g6 kS18_6 kS18_6g 2 4 rfl rfl), (kb_g1 kS18_1 kS18_1g 0 2 rfl rfl), kmh_RX3, kvh_RX3, pd_17⟩
theorem kv_X3_book : kVt yX3_book cX3_book 4 (some .int) 3 := ⟨(kb_g5 kS18_5 kS18_5g 6 8 rfl rfl), (kb_g5 kS18_5 kS18_5g 6 6 rfl rfl), (kb_g5 kS18_5 kS18_5g 6 7 rfl rfl), (kb_g1 kS18_1 kS18_1g 0 2 rfl rfl), kmh_RX3, kvh_RX3, pd_66⟩
theorem kv_X3_chosen : kVt yX3_chosen cX3_chosen 1 (some .int) 0 := ⟨(kb_g6 kS18_6 kS18_6g 5 9 rfl rfl), (kb_g6 kS18_6 kS18_6g 5 7 rfl rfl), (kb_g6 kS18_6 kS18_6g 5 8 rfl rfl), (kb_g1 kS18_1 kS18_1g 0 2 rfl rfl), kmh_RX3, kvh_RX3, pd_2⟩
theorem kv_X3_copy : kVt yX3_copy cX3_copy 4 (some .int) 2 := ⟨(kb_g5 kS18_5 kS18_5g 5 0 rfl rfl), (kb_g5 kS18_5 kS18_5g 4 10 rfl rfl), (kb_g5 kS18_5 kS18_5g 4 11 rfl rfl), (kb_g1 kS18_1 kS18_1g 0 2 rfl rfl), kmh_RX3, kvh_RX3, pd_56⟩
theorem kv_X3_digest : kVt yX3_digest cX3_digest 5 (some .long) 0 := ⟨(kb_g6 kS18_6 kS18_6g 7 8 rfl rfl), (kb_g6 kS18_6 kS18_6g 7 6 rfl rfl), (kb_g6 kS18_6 kS18_6g 7 7 rfl rfl), (kb_g1 kS18_1 kS18_1g 0 2 rfl rfl), kmh_RX3, kvh_RX3, pd_32⟩
theorem kv_X3_empty : kVt yX3_empty cX3_empty 2 (some .int) 0 := ⟨(kb_g5 kS18_5 kS18_5g 7 4 rfl rfl), (kb_g5 kS18_5 kS18_5g 7 2 rfl rfl), (kb_g5 kS18_5 kS18_5g 7 3 rfl rfl), (kb_g1 kS18_1 kS18_1g 0 2 rfl rfl), kmh_RX3, kvh_RX3, pd_2⟩
theorem kv_X3_fit : kVt yX3_fit cX3_fit 13 (some .int) 4 := ⟨(kb_g5 kS18_5 kS18_5g 8 4 rfl rfl), (kb_g5 kS18_5 kS18_5g 8 2 rfl rfl), (kb_g5 kS18_5 kS18_5g 8 3 rfl rfl), (kb_g1 kS18_1 kS18_1g 0 2 rfl rfl), kmh_RX3, kvh_RX3, pd_67⟩
theorem kv_X3_go : kVt yX3_go cX3_go 7 (some .int) 4 := ⟨(kb_g5 kS18_5 kS18_5g 4 8 rfl rfl), (kb_g5 kS18_5 kS18_5g 4 6 rfl rfl), (kb_g5 kS18_5 kS18_5g 4 7 rfl rfl), (kb_g1 kS18_1 kS18_1g 0 2 rfl rfl), kmh_RX3, kvh_RX3, pd_68⟩
theorem kv_X3_grant : kVt yX3_grant cX3_grant 3 (some .int) 1 := ⟨(kb_g6 kS18_6 kS18_6g 0 3 rfl rfl), (kb_g6 kS18_6 kS18_6g 0 1 rfl rfl), (kb_g6 kS18_6 kS18_6g 0 2 rfl rfl), (kb_g1 kS18_1 kS18_1g 0 2 rfl rfl), kmh_RX3, kvh_RX3, pd_11⟩
theorem kv_X3_isAfter : kVt yX3_isAfter cX3_isAfter 3 (some .boolean) 2 := ⟨(kb_g6 kS18_6 kS18_6g 1 9 rfl rfl), (kb_g6 kS18_6 kS18_6g 1 7 rfl rfl), (kb_g6 kS18_6 kS18_6g 1 8 rfl rfl), (kb_g1 kS18_1 kS18_1g 0 2 rfl rfl), kmh_RX3, kvh_RX3, pd_22⟩
theorem kv_X3_isApart : kVt yX3_isApart cX3_isApart 2 (some .boolean) 1 := ⟨(kb_g6 kS18_6 kS18_6g 5 5 rfl rfl), (kb_g6 kS18_6 kS18_6g 5 3 rfl rfl), (kb_g6 kS18_6 kS18_6g 5 4 rfl rfl), (kb_g1 kS18_1 kS18_1g 0 2 rfl rfl), kmh_RX3, kvh_RX3, pd_25⟩
theorem kv_X3_isBefore : kVt yX3_isBefore cX3_isBefore 3 (some .boolean) 2 := ⟨(kb_g6 kS18_6 kS18_6g 1 5 rfl rfl), (kb_g6 kS18_6 kS18_6g 1 3 rfl rfl), (kb_g6 kS18_6 kS18_6g 1 4 rfl rfl), (kb_g1 kS18_1 kS18_1g 0 2 rfl rfl), kmh_RX3, kvh_RX3, pd_22⟩
theorem kv_X3_isFree : kVt yX3_isFree cX3_isFree 3 (some .boolean) 2 := ⟨(kb_g6 kS18_6 kS18_6g 4 1 rfl rfl), (kb_g6 kS18_6 kS18_6g 3 11 rfl rfl), (kb_g6 kS18_6 kS18_6g 4 0 rfl rfl), (kb_g1 kS18_1 kS18_1g 0 2 rfl rfl), kmh_RX3, kvh_RX3, pd_22⟩
theorem kv_X3_knock : kVt yX3_knock cX3_knock 1 (some .int) 0 := ⟨(kb_g6 kS18_6 kS18_6g 7 3 rfl rfl), (kb_g6 kS18_6 kS18_6g 7 1 rfl rfl), (kb_g6 kS18_6 kS18_6g 7 2 rfl rfl), (kb_g1 kS18_1 kS18_1g 0 2 rfl rfl), kmh_RX3, kvh_RX3, pd_2⟩
theorem kv_X3_meets : kVt yX3_meets cX3_meets 3 (some .boolean) 2 := ⟨(kb_g6 kS18_6 kS18_6g 3 6 rfl rfl), (kb_g6 kS18_6 kS18_6g 3 4 rfl rfl), (kb_g6 kS18_6 kS18_6g 3 5 rfl rfl), (kb_g1 kS18_1 kS18_1g 0 2 rfl rfl), kmh_RX3, kvh_RX3, pd_22⟩
theorem kv_X3_most : kVt yX3_most cX3_most 2 (some .int) 1 := ⟨(kb_g6 kS18_6 kS18_6g 6 1 rfl rfl), (kb_g6 kS18_6 kS18_6g 5 11 rfl rfl), (kb_g6 kS18_6 kS18_6g 6 0 rfl rfl), (kb_g1 kS18_1 kS18_1g 0 2 rfl rfl), kmh_RX3, kvh_RX3, pd_11⟩
theorem kv_X3_move : kVt yX3_move cX3_move 8 (some .int) 3 := ⟨(kb_g5 kS18_5 kS18_5g 7 8 rfl rfl), (kb_g5 kS18_5 kS18_5g 7 6 rfl rfl), (kb_g5 kS18_5 kS18_5g 7 7 rfl rfl), (kb_g1 kS18_1 kS18_1g 0 2 rfl rfl), kmh_RX3, kvh_RX3, pd_17⟩
theorem kv_X3_ofSpan : kVt yX3_ofSpan cX3_ofSpan 3 (some .int) 2 := ⟨(kb_g6 kS18_6 kS18_6g 3 2 rfl rfl), (kb_g6 kS18_6 kS18_6g 3 0 rfl rfl), (kb_g6 kS18_6 kS18_6g 3 1 rfl rfl), (kb_g1 kS18_1 kS18_1g 0 2 rfl rfl), kmh_RX3, kvh_RX3, pd_56⟩
theorem kv_X3_ofWish : kVt yX3_ofWish cX3_ofWish 3 (some .int) 2 := ⟨(kb_g6 kS18_6 kS18_6g 5 1 rfl rfl), (kb_g6 kS18_6 kS18_6g 4 11 rfl rfl), (kb_g6 kS18_6 kS18_6g 5 0 rfl rfl), (kb_g1 kS18_1 kS18_1g 0 2 rfl rfl), kmh_RX3, kvh_RX3, pd_56⟩
theorem kv_X3_open : kVt yX3_open cX3_open 4 (some .int) 2 := ⟨(kb_g5 kS18_5 kS18_5g 6 4 rfl rfl), (kb_g5 kS18_5 kS18_5g 6 2 rfl rfl), (kb_g5 kS18_5 kS18_5g 6 3 rfl rfl), (kb_g1 kS18_1 kS18_1g 0 2 rfl rfl), kmh_RX3, kvh_RX3, pd_56⟩
theorem kv_X3_order : kVt yX3_order cX3_order 3 (some .int) 2 := ⟨(kb_g6 kS18_6 kS18_6g 1 1 rfl rfl), (kb_g6 kS18_6 kS18_6g 0 11 rfl rfl), (kb_g6 kS18_6 kS18_6g 1 0 rfl rfl), (kb_g1 kS18_1 kS18_1g 0 2 rfl rfl), kmh_RX3, kvh_RX3, pd_56⟩
theorem kv_X3_pick : kVt yX3_pick cX3_pick 5 (some .int) 2 := ⟨(kb_g5 kS18_5 kS18_5g 5 8 rfl rfl), (kb_g5 kS18_5 kS18_5g 5 6 rfl rfl), (kb_g5 kS18_5 kS18_5g 5 7 rfl rfl), (kb_g1 kS18_1 kS18_1g 0 2 rfl rfl), kmh_RX3, kvh_RX3, pd_69⟩
theorem kv_X3_room : kVt yX3_room cX3_room 2 (some .int) 1 := ⟨(kb_g6 kS18_6 kS18_6g 6 6 rfl rfl), (kb_g6 kS18_6 kS18_6g 6 4 rfl rfl), (kb_g6 kS18_6 kS18_6g 6 5 rfl rfl), (kb_g1 kS18_1 kS18_1g 0 2 rfl rfl), kmh_RX3, kvh_RX3, pd_11⟩
theorem kv_X3_rooms : kVt yX3_rooms cX3_rooms 1 (some .int) 0 := ⟨(kb_g6 kS18_6 kS18_6g 6 10 rfl rfl), (kb_g6 kS18_6 kS18_6g 6 8 rfl rfl), (kb_g6 kS18_6 kS18_6g 6 9 rfl rfl), (kb_g1 kS18_1 kS18_1g 0 2 rfl rfl), kmh_RX3, kvh_RX3, pd_2⟩
theorem kv_X3_same : kVt yX3_same cX3_same 4 (some .boolean) 3 := ⟨(kb_g6 kS18_6 kS18_6g 2 1 rfl rfl), (kb_g6 kS18_6 kS18_6g 1 11 rfl rfl), (kb_g6 kS18_6 kS18_6g 2 0 rfl rfl), (kb_g1 kS18_1 kS18_1g 0 2 rfl rfl), kmh_RX3, kvh_RX3, pd_34⟩
theorem kv_X3_set : kVt yX3_set cX3_set 6 (some .int) 3 := ⟨(kb_g5 kS18_5 kS18_5g 4 4 rfl rfl), (kb_g5 kS18_5 kS18_5g 4 2 rfl rfl), (kb_g5 kS18_5 kS18_5g 4 3 rfl rfl), (kb_g1 kS18_1 kS18_1g 0 2 rfl rfl), kmh_RX3, kvh_RX3, pd_17⟩
theorem kv_X3_shift : kVt yX3_shift cX3_shift 6 (some .int) 2 := ⟨(kb_g5 kS18_5 kS18_5g 6 0 rfl rfl), (kb_g5 kS18_5 kS18_5g 5 10 rfl rfl), (kb_g5 kS18_5 kS18_5g 5 11 rfl rfl), (kb_g1 kS18_1 kS18_1g 0 2 rfl rfl), kmh_RX3, kvh_RX3, pd_56⟩
theorem kv_X3_spans : kVt yX3_spans cX3_spans 1 (some .int) 0 := ⟨(kb_g6 kS18_6 kS18_6g 2 10 rfl rfl), (kb_g6 kS18_6 kS18_6g 2 8 rfl rfl), (kb_g6 kS18_6 kS18_6g 2 9 rfl rfl), (kb_g1 kS18_1 kS18_1g 0 2 rfl rfl), kmh_RX3, kvh_RX3, pd_2⟩
theorem kv_X3_stretch : kVt yX3_stretch cX3_stretch 6 (some .int) 3 := ⟨(kb_g5 kS18_5 kS18_5g 8 0 rfl rfl), (kb_g5 kS18_5 kS18_5g 7 10 rfl rfl), (kb_g5 kS18_5 kS18_5g 7 11 rfl rfl), (kb_g1 kS18_1 kS18_1g 0 2 rfl rfl), kmh_RX3, kvh_RX3, pd_17⟩
theorem kv_X3_swap : kVt yX3_swap cX3_swap 5 (some .int) 2 := ⟨(kb_g5 kS18_5 kS18_5g 5 4 rfl rfl), (kb_g5 kS18_5 kS18_5g 5 2 rfl rfl), (kb_g5 kS18_5 kS18_5g 5 3 rfl rfl), (kb_g1 kS18_1 kS18_1g 0 2 rfl rfl), kmh_RX3, kvh_RX3, pd_56⟩
theorem kv_X3_text : kVt yX3_text cX3_text 2 (some (.object "java/lang/String")) 1 := ⟨(kb_g6 kS18_6 kS18_6g 0 9 rfl rfl), (kb_g6 kS18_6 kS18_6g 0 7 rfl rfl), (kb_g6 kS18_6 kS18_6g 0 8 rfl rfl), (kb_g1 kS18_1 kS18_1g 0 2 rfl rfl), kmh_RX3, kvh_RX3, pd_70⟩
theorem kv_X3_unbook : kVt yX3_unbook cX3_unbook 3 (some .int) 1 := ⟨(kb_g5 kS18_5 kS18_5g 7 0 rfl rfl), (kb_g5 kS18_5 kS18_5g 6 10 rfl rfl), (kb_g5 kS18_5 kS18_5g 6 11 rfl rfl), (kb_g1 kS18_1 kS18_1g 0 2 rfl rfl), kmh_RX3, kvh_RX3, pd_11⟩
theorem kv_X3_unwish : kVt yX3_unwish cX3_unwish 2 (some .int) 1 := ⟨(kb_g5 kS18_5 kS18_5g 9 0 rfl rfl), (kb_g5 kS18_5 kS18_5g 8 10 rfl rfl), (kb_g5 kS18_5 kS18_5g 8 11 rfl rfl), (kb_g1 kS18_1 kS18_1g 0 2 rfl rfl), kmh_RX3, kvh_RX3, pd_11⟩
theorem kv_X3_wish : kVt yX3_wish cX3_wish 3 (some .int) 2 := ⟨(kb_g5 kS18_5 kS18_5g 8 8 rfl rfl), (kb_g5 kS18_5 kS18_5g 8 6 rfl rfl), (kb_g5 kS18_5 kS18_5g 8 7 rfl rfl), (kb_g1 kS18_1 kS18_1g 0 2 rfl rfl), kmh_RX3, kvh_RX3, pd_56⟩
theorem kv_X3_wishes : kVt yX3_wishes cX3_wishes 1 (some .int) 0 := ⟨(kb_g6 kS18_6 kS18_6g 4 9 rfl rfl), (kb_g6 kS18_6 kS18_6g 4 7 rfl rfl), (kb_g6 kS18_6 kS18_6g 4 8 rfl rfl), (kb_g1 kS18_1 kS18_1g 0 2 rfl rfl), kmh_RX3, kvh_RX3, pd_2⟩
end
-- 18z.fr.lean.txt
section
section KQL
variable {p : Program} {l : Launch} {e0 : Env} {R : Room} {s : State} {m : MethodId} {args : Array Value} {below : List Frame} {meth : Method} {c : Code} {H : Heap} {locs : List Loc} {cells slots : Nat} {Q : State → Prop}
variable {cc : ByteArray} {pc : Nat} {ls : Array Slot} {rest st0 : List Value} {D : va_G} {A0 : Nat → Prop} {ws wc w1 : va_W} {H0 : Heap} {a : Array Value} {mc ms : Nat}
theorem kq_xh {k : Nat} (ws' : va_W) (hr : va_P D vwCl wc H → va_D A0 wc → (∀ q, va_A wc H.size q → A0 q) → vx_Run p l e0 R s m args below meth c H locs cells slots mc ms (F0 m pc ls st0) rest (kNo a) (kX D k w1 (va_A wc H.size)) (va_A wc H.size)) (hP : va_P D vwCl ws H) (hD : va_D A0 ws) (hS : va_S A0 H0 H locs) (hA : ∀ q, H0.size ≤ q → A0 q) (f : kFr wc ws w1 ws')
    (kk : ∀ (q : Nat) (ce : Cell) (H1 : Heap) (locs1 : List Loc), va_P D vwCl ws' H1 → va_D A0 ws' → va_S A0 H0 H1 locs1 → H1[q]? = some ce → ce.vm = .none → s.vm.findClass (kEx k) = some ce.cls → vx_W p l e0 R s m args below meth c H1 locs1 (cells + mc) (slots + ms) Q (F0 m pc ls rest) q) : W p l e0 R s m args below meth c H locs cells slots Q (F0 m pc ls st0) := by
  obtain ⟨n, h1, h2, h3, h4, h5, h6⟩ := f
  exact kcall_xh ws' (hr (hP.sub (kIT n 0) (km_f h1 h3)) (hD.sub (kIT n 0) (km_nd n) (km_T h1 h3)) (va_free hD hS hA (kIT n 0) (km_T h1 h3))) hP hD hS hA (kIT n 0) (kIT (n.map (!·)) 0) (km_T h1 h3) (km_T h2 h4) (kST (n.map (!·)) ws) (km_T (kLn_not h1) rfl) (km_T (kLn_not h2) h5) (km_cov h2 rfl) (km_dis rfl) h6 kk
end KQL
end
-- 19.helpers.lean.txt
section
noncomputable abbrev wsL_set : List Cond := Cond.codeWith yL_set cL_set 6 (some .int) [(0, 13, 16, 19), (0, 13, 20, 21)] :: kBIG
noncomputable def f_L_set (ce : Nat → Int64) (ac : Int32) (rf : Int32) (on : Int64) (p1 : Int32) (p2 : Int32) (p3 : Int32) : Option ((Int32) × (Nat → Int64) × (Int32) × (Int32) × (Int64)) :=
  xb (fx_X1_set p1 p2 p3) (fun k1 => if k1 = 1 then
  some (1, ce, ac, rf, on)
else
  some (2, ce, ac, rf, on)) (
  (f_X1_set ce ac rf p1 p2 p3).bind fun r1 =>
  some (0, r1.2.1, r1.2.2.1, r1.2.2.2, r1.1.toInt64))
theorem f_L_set_e {ce : Nat → Int64} {ac : Int32} {rf : Int32} {on : Int64} {p1 : Int32} {p2 : Int32} {p3 : Int32} : f_L_set ce ac rf on p1 p2 p3 = 
  xb (fx_X1_set p1 p2 p3) (fun k1 => if k1 = 1 then
  some (1, ce, ac, rf, on)
else
  some (2, ce, ac, rf, on)) (
  (f_X1_set ce ac rf p1 p2 p3).bind fun r1 =>
  some (0, r1.2.1, r1.2.2.1, r1.2.2.2, r1.1.toInt64)) := rfl
set_option maxHeartbeats 4000000 in
set_option maxRecDepth 100000 in
theorem c_L_set (l : Launch) (hl9 : l.stackTraces = false) (dC : Nat → ClassId) (dI : Nat → Nat → Nat) (cB cI cJ cZ : ClassId) (a : Nat → Nat) (o : Nat) (sz : Nat) (ce : Nat → Int64) (fr : Int64) (un : Int64) (sb : Nat → Int64) (se : Nat → Int64) (so : Nat → Int32) (sc : Int32) (wb : Nat → Int64) (we : Nat → Int64) (wo : Nat → Int32) (wc : Int32) (fb : Nat → Int64) (fe : Nat → Int64) (fo : Nat → Int32) (fc : Int32) (rm : Nat → Int32) (ac : Int32) (rf : Int32) (kn : Int32) (on : Int64) (ov : Value) (p1 : Int32) (p2 : Int32) (p3 : Int32) (res : (Int32) × (Nat → Int64) × (Int32) × (Int32) × (Int64)) (hf : f_L_set ce ac rf on p1 p2 p3 = some res) : kMw l yL_set wsL_set (kRm 8 1 6 135) dC dI cB cI cJ cZ [.ref (a 0), .int p1, .int p2, .int p3, .ref o] sz ((wSB cI cJ cZ a ce fr un sb se so sc wb we wo wc fb fe fo fc rm ac rf kn) ++ (wO o on ov)) .int (res.1) ((wSB cI cJ cZ a (res.2.1) fr un sb se so sc wb we wo wc fb fe fo fc rm (res.2.2.1) (res.2.2.2.1) kn) ++ (wO o (res.2.2.2.2) ov)) 1 6 := by
  refine kmet_w (y := yL_set) (cc := cL_set) (maxL := 6) (ret := (some .int)) (hh := [(0, 13, 16, 19), (0, 13, 20, 21)]) RL (kvA 0 (a 0) (kvI 1 p1 (kvI 2 p2 (kvI 3 p3 (kvA 4 o kvE))))) kpl_L rfl rfl (Nat.le_of_ble_eq_true rfl) rfl (fun p e s m below meth c A ls hx hb hr hml hht hts hown hlocks hP hK hG hZ hD hA hS hl => ?_)
  have hw0 := hts (.classLink RL 19 "java/lang/IndexOutOfBoundsException") (List.mem_cons_of_mem _ kw_467)
  have hw1 := hts (.classLink RL 21 "java/lang/IllegalArgumentException") (List.mem_cons_of_mem _ kw_468)
  have hiX2 : ∀ w ∈ u_ws RX2 TX2 2, w ∈ wsL_set := fun w h => List.mem_cons_of_mem _ (ku_X2 w h)
  have h := f_L_set_e.symm.trans hf
  refine lv_aload hx hb (kdr dgL_set_0 0 0 rfl rfl) (lv_at hl 4 rfl) ?_
  refine lv_aload_n hx hb (kdr dgL_set_0 0 1 rfl rfl) rfl (lv_at hl 0 rfl) ?_
  refine lv_iload_n hx hb (kdr dgL_set_0 0 2 rfl rfl) rfl (lv_at hl 1 rfl) ?_
  refine lv_iload_n hx hb (kdr dgL_set_0 0 3 rfl rfl) rfl (lv_at hl 2 rfl) ?_
  refine lv_iload_n hx hb (kdr dgL_set_0 0 4 rfl rfl) rfl (lv_at hl 3 rfl) ?_
  rcases g_x h with ⟨k1, j1, h⟩ | ⟨-, h⟩
  · refine kq_xh ((wSB cI cJ cZ a ce fr un sb se so sc wb we wo wc fb fe fo fc rm ac rf kn) ++ (wO o on ov)) (fun qP qD qF => vx_runV (As := [.int p1, .int p2, .int p3]) (rest := [.ref o]) ⟨hx, hb, hml, hown, hts⟩ (x_X1_set l hl9 dC dI cB cI cJ cZ a _ ce fr un sb se so sc wb we wo wc fb fe fo fc rm ac rf kn p1 p2 p3 k1 j1) (kcwV hts kw_469 kv_X1_set rfl rfl ⟨(Nat.le_of_ble_eq_true rfl), (Nat.le_of_ble_eq_true rfl)⟩) (kpVXq (A := A) qP hK qD hG hZ hS qF (krecv_3 (q0 := 0) hK hP rfl)) rfl rfl hl.1 rfl (lv_room (Nat.le_of_ble_eq_true rfl)) (kdr dgL_set_0 0 5 rfl rfl) ⟨(Nat.le_of_ble_eq_true rfl), (Nat.le_of_ble_eq_true rfl)⟩) hP hD hS hA (kFr_l kFr_SB) (fun q9 ceQ H locs hP hD hS hce hcv hcl => ?_)
    by_cases e9 : k1 = 1
    · have h := g_t e9 h
      rw [kEx_1 e9] at hcl
      refine vx_catch (E := "java/lang/IndexOutOfBoundsException") (name := "java/lang/IndexOutOfBoundsException") (own := RL) hown [] ⟨0, 13, 16, 19⟩ [⟨0, 13, 20, 21⟩] hht (fun z hz => by cases hz) (by decide) (by decide) hw0 (va_Nw.use rfl (hG.at 4 rfl)) hce hcv hcl ?_
      refine lv_astore (lv' := (kvA 5 q9 (kvA 0 (a 0) (kvI 1 p1 (kvI 2 p2 (kvI 3 p3 (kvA 4 o kvE))))))) hx hb (kdr dgL_set_0 0 9 rfl rfl) hl (by decide) rfl (fun ls hl => ?_)
      refine lv_iconst (v := 1) hx hb (kdr dgL_set_0 1 0 rfl rfl) (by decide) ?_
      have h := Option.some.inj h
      subst h
      refine W.widen (k := 1) (n := 6) (Nat.le_of_ble_eq_true rfl) (Nat.le_of_ble_eq_true rfl) ?_
      exact kret_i (v := 1) hx hb hr rfl hlocks hS hP (kdr dgL_set_0 1 1 rfl rfl)
    · have h := g_f e9 h
      rw [kEx_2 e9] at hcl
      refine vx_catch (E := "java/lang/IllegalArgumentException") (name := "java/lang/IllegalArgumentException") (own := RL) hown [⟨0, 13, 16, 19⟩] ⟨0, 13, 20, 21⟩ [] hht (fun z hz => by rcases List.mem_singleton.mp hz with rfl; exact Or.inr ⟨by decide, _, hw0, hG.2⟩) (by decide) (by decide) hw1 (va_Nw.use rfl (hG.at 5 rfl)) hce hcv hcl ?_
      refine lv_astore (lv' := (kvA 5 q9 (kvA 0 (a 0) (kvI 1 p1 (kvI 2 p2 (kvI 3 p3 (kvA 4 o kvE))))))) hx hb (kdr dgL_set_0 1 2 rfl rfl) hl (by decide) rfl (fun ls hl => ?_)
      refine lv_iconst (v := 2) hx hb (kdr dgL_set_0 1 3 rfl rfl) (by decide) ?_
      have h := Option.some.inj h
      subst h
      refine W.widen (k := 1) (n := 6) (Nat.le_of_ble_eq_true rfl) (Nat.le_of_ble_eq_true rfl) ?_
      exact kret_i (v := 2) hx hb hr rfl hlocks hS hP (kdr dgL_set_0 1 4 rfl rfl)
  · obtain ⟨r1, g1, h⟩ := g_b h
    refine kq_i ((wSB cI cJ cZ a r1.2.1 fr un sb se so sc wb we wo wc fb fe fo fc rm r1.2.2.1 r1.2.2.2 kn) ++ (wO o on ov)) (fun qP qD qF => va_runV (As := [.int p1, .int p2, .int p3]) (rest := [.ref o]) ⟨hx, hb, hml, hown, hts⟩ (c_X1_set l dC dI cB cI cJ cZ a _ ce fr un sb se so sc wb we wo wc fb fe fo fc rm ac rf kn p1 p2 p3 r1 g1) (kcwV hts kw_469 kv_X1_set rfl rfl ⟨(Nat.le_of_ble_eq_true rfl), (Nat.le_of_ble_eq_true rfl)⟩) (kpV (A := A) qP hK qD hG (krecv_3 (q0 := 0) hK hP rfl)) rfl rfl hl.1 rfl (lv_room (Nat.le_of_ble_eq_true rfl)) (kdr dgL_set_0 0 5 rfl rfl) ⟨(Nat.le_of_ble_eq_true rfl), (Nat.le_of_ble_eq_true rfl)⟩) hP hD hS hA (kFr_l kFr_SB) (fun H locs hP hD hS br1 => ?_)
    refine lv_i2l (v := r1.1.toInt64) hx hb (kdr dgL_set_0 0 6 rfl rfl) rfl ?_
    refine va_putN (host := RL) (D := (dC, dI)) (ci := 4) (v := .long r1.1.toInt64) (ty := .long) (C := RX2) (T := TX2) (N := 2) hx hb hts hiX2 tyX2 tyX2_ok nmX2 hown hK hP hD hS 15 rfl rfl 0 (by decide) (va_Nw.use rfl (hG.at 7 rfl)) (fun _ h9 => h9) rfl (by decide +kernel) rfl rfl (Nat.le_of_ble_eq_true rfl) (kdr dgL_set_0 0 7 rfl rfl) (fun H locs hP hD hS => ?_)
    have hP : va_P (dC, dI) vwCl ((wSB cI cJ cZ a r1.2.1 fr un sb se so sc wb we wo wc fb fe fo fc rm r1.2.2.1 r1.2.2.2 kn) ++ (wO o r1.1.toInt64 ov)) H := hP
    have hD : va_D A ((wSB cI cJ cZ a r1.2.1 fr un sb se so sc wb we wo wc fb fe fo fc rm r1.2.2.1 r1.2.2.2 kn) ++ (wO o r1.1.toInt64 ov)) := hD
    refine lv_goto (tgt := 24) hx hb (kdr dgL_set_0 0 8 rfl rfl) (by decide) ?_
    refine lv_iconst (v := 0) hx hb (kdr dgL_set_0 1 5 rfl rfl) (by decide) ?_
    have h := Option.some.inj h
    subst h
    refine W.widen (k := 1) (n := 6) (Nat.le_of_ble_eq_true rfl) (Nat.le_of_ble_eq_true rfl) ?_
    exact kret_i (v := 0) hx hb hr rfl hlocks hS hP (kdr dgL_set_0 1 6 rfl rfl)
noncomputable abbrev wsL_go : List Cond := Cond.codeWith yL_go cL_go 7 (some .int) [(0, 15, 18, 19), (0, 15, 22, 21)] :: kBIG
noncomputable def f_L_go (ce : Nat → Int64) (ac : Int32) (rf : Int32) (on : Int64) (p1 : Int32) (p2 : Int32) (p3 : Int32) (p4 : Int32) : Option ((Int32) × (Nat → Int64) × (Int32) × (Int32) × (Int64)) :=
  xb (fx_X1_go p1 p2 p3) (fun k1 => if k1 = 1 then
  some (1, ce, ac, rf, on)
else
  some (2, ce, ac, rf, on)) (
  (f_X1_go ce ac rf p1 p2 p3 p4).bind fun r1 =>
  some (0, r1.2.1, r1.2.2.1, r1.2.2.2, r1.1.toInt64))
theorem f_L_go_e {ce : Nat → Int64} {ac : Int32} {rf : Int32} {on : Int64} {p1 : Int32} {p2 : Int32} {p3 : Int32} {p4 : Int32} : f_L_go ce ac rf on p1 p2 p3 p4 = 
  xb (fx_X1_go p1 p2 p3) (fun k1 => if k1 = 1 then
  some (1, ce, ac, rf, on)
else
  some (2, ce, ac, rf, on)) (
  (f_X1_go ce ac rf p1 p2 p3 p4).bind fun r1 =>
  some (0, r1.2.1, r1.2.2.1, r1.2.2.2, r1.1.toInt64)) := rfl
set_option maxHeartbeats 4000000 in
set_option maxRecDepth 100000 in
theorem c_L_go (l : Launch) (hl9 : l.stackTraces = false) (dC : Nat → ClassId) (dI : Nat → Nat → Nat) (cB cI cJ cZ : ClassId) (a : Nat → Nat) (o : Nat) (sz : Nat) (ce : Nat → Int64) (fr : Int64) (un : Int64) (sb : Nat → Int64) (se : Nat → Int64) (so : Nat → Int32) (sc : Int32) (wb : Nat → Int64) (we : Nat → Int64) (wo : Nat → Int32) (wc : Int32) (fb : Nat → Int64) (fe : Nat → Int64) (fo : Nat → Int32) (fc : Int32) (rm : Nat → Int32) (ac : Int32) (rf : Int32) (kn : Int32) (on : Int64) (ov : Value) (p1 : Int32) (p2 : Int32) (p3 : Int32) (p4 : Int32) (res : (Int32) × (Nat → Int64) × (Int32) × (Int32) × (Int64)) (hf : f_L_go ce ac rf on p1 p2 p3 p4 = some res) : kMw l yL_go wsL_go (kRm 9 1 6 161) dC dI cB cI cJ cZ [.ref (a 0), .int p1, .int p2, .int p3, .int p4, .ref o] sz ((wSB cI cJ cZ a ce fr un sb se so sc wb we wo wc fb fe fo fc rm ac rf kn) ++ (wO o on ov)) .int (res.1) ((wSB cI cJ cZ a (res.2.1) fr un sb se so sc wb we wo wc fb fe fo fc rm (res.2.2.1) (res.2.2.2.1) kn) ++ (wO o (res.2.2.2.2) ov)) 1 6 := by
  refine kmet_w (y := yL_go) (cc := cL_go) (maxL := 7) (ret := (some .int)) (hh := [(0, 15, 18, 19), (0, 15, 22, 21)]) RL (kvA 0 (a 0) (kvI 1 p1 (kvI 2 p2 (kvI 3 p3 (kvI 4 p4 (kvA 5 o kvE)))))) kpl_L rfl rfl (Nat.le_of_ble_eq_true rfl) rfl (fun p e s m below meth c A ls hx hb hr hml hht hts hown hlocks hP hK hG hZ hD hA hS hl => ?_)
  have hw0 := hts (.classLink RL 19 "java/lang/IndexOutOfBoundsException") (List.mem_cons_of_mem _ kw_467)
  have hw1 := hts (.classLink RL 21 "java/lang/IllegalArgumentException") (List.mem_cons_of_mem _ kw_468)
  have hiX2 : ∀ w ∈ u_ws RX2 TX2 2, w ∈ wsL_go := fun w h => List.mem_cons_of_mem _ (ku_X2 w h)
  have h := f_L_go_e.symm.trans hf
  refine lv_aload hx hb (kdr dgL_go_0 0 0 rfl rfl) (lv_at hl 5 rfl) ?_
  refine lv_aload_n hx hb (kdr dgL_go_0 0 1 rfl rfl) rfl (lv_at hl 0 rfl) ?_
  refine lv_iload_n hx hb (kdr dgL_go_0 0 2 rfl rfl) rfl (lv_at hl 1 rfl) ?_
  refine lv_iload_n hx hb (kdr dgL_go_0 0 3 rfl rfl) rfl (lv_at hl 2 rfl) ?_
  refine lv_iload_n hx hb (kdr dgL_go_0 0 4 rfl rfl) rfl (lv_at hl 3 rfl) ?_
  refine lv_iload hx hb (kdr dgL_go_0 0 5 rfl rfl) (lv_at hl 4 rfl) ?_
  rcases g_x h with ⟨k1, j1, h⟩ | ⟨-, h⟩
  · refine kq_xh ((wSB cI cJ cZ a ce fr un sb se so sc wb we wo wc fb fe fo fc rm ac rf kn) ++ (wO o on ov)) (fun qP qD qF => vx_runV (As := [.int p1, .int p2, .int p3, .int p4]) (rest := [.ref o]) ⟨hx, hb, hml, hown, hts⟩ (x_X1_go l hl9 dC dI cB cI cJ cZ a _ ce fr un sb se so sc wb we wo wc fb fe fo fc rm ac rf kn p1 p2 p3 p4 k1 j1) (kcwV hts kw_508 kv_X1_go rfl rfl ⟨(Nat.le_of_ble_eq_true rfl), (Nat.le_of_ble_eq_true rfl)⟩) (kpVXq (A := A) qP hK qD hG hZ hS qF (krecv_3 (q0 := 0) hK hP rfl)) rfl rfl hl.1 rfl (lv_room (Nat.le_of_ble_eq_true rfl)) (kdr dgL_go_0 0 6 rfl rfl) ⟨(Nat.le_of_ble_eq_true rfl), (Nat.le_of_ble_eq_true rfl)⟩) hP hD hS hA (kFr_l kFr_SB) (fun q9 ceQ H locs hP hD hS hce hcv hcl => ?_)
    by_cases e9 : k1 = 1
    · have h := g_t e9 h
      rw [kEx_1 e9] at hcl
      refine vx_catch (E := "java/lang/IndexOutOfBoundsException") (name := "java/lang/IndexOutOfBoundsException") (own := RL) hown [] ⟨0, 15, 18, 19⟩ [⟨0, 15, 22, 21⟩] hht (fun z hz => by cases hz) (by decide) (by decide) hw0 (va_Nw.use rfl (hG.at 4 rfl)) hce hcv hcl ?_
      refine lv_astore (lv' := (kvA 6 q9 (kvA 0 (a 0) (kvI 1 p1 (kvI 2 p2 (kvI 3 p3 (kvI 4 p4 (kvA 5 o kvE)))))))) hx hb (kdr dgL_go_0 1 0 rfl rfl) hl (by decide) rfl (fun ls hl => ?_)
      refine lv_iconst (v := 1) hx hb (kdr dgL_go_0 1 1 rfl rfl) (by decide) ?_
      have h := Option.some.inj h
      subst h
      refine W.widen (k := 1) (n := 6) (Nat.le_of_ble_eq_true rfl) (Nat.le_of_ble_eq_true rfl) ?_
      exact kret_i (v := 1) hx hb hr rfl hlocks hS hP (kdr dgL_go_0 1 2 rfl rfl)
    · have h := g_f e9 h
      rw [kEx_2 e9] at hcl
      refine vx_catch (E := "java/lang/IllegalArgumentException") (name := "java/lang/IllegalArgumentException") (own := RL) hown [⟨0, 15, 18, 19⟩] ⟨0, 15, 22, 21⟩ [] hht (fun z hz => by rcases List.mem_singleton.mp hz with rfl; exact Or.inr ⟨by decide, _, hw0, hG.2⟩) (by decide) (by decide) hw1 (va_Nw.use rfl (hG.at 5 rfl)) hce hcv hcl ?_
      refine lv_astore (lv' := (kvA 6 q9 (kvA 0 (a 0) (kvI 1 p1 (kvI 2 p2 (kvI 3 p3 (kvI 4 p4 (kvA 5 o kvE)))))))) hx hb (kdr dgL_go_0 1 3 rfl rfl) hl (by decide) rfl (fun ls hl => ?_)
      refine lv_iconst (v := 2) hx hb (kdr dgL_go_0 1 4 rfl rfl) (by decide) ?_
      have h := Option.some.inj h
      subst h
      refine W.widen (k := 1) (n := 6) (Nat.le_of_ble_eq_true rfl) (Nat.le_of_ble_eq_true rfl) ?_
      exact kret_i (v := 2) hx hb hr rfl hlocks hS hP (kdr dgL_go_0 1 5 rfl rfl)
  · obtain ⟨r1, g1, h⟩ := g_b h
    refine kq_i ((wSB cI cJ cZ a r1.2.1 fr un sb se so sc wb we wo wc fb fe fo fc rm r1.2.2.1 r1.2.2.2 kn) ++ (wO o on ov)) (fun qP qD qF => va_runV (As := [.int p1, .int p2, .int p3, .int p4]) (rest := [.ref o]) ⟨hx, hb, hml, hown, hts⟩ (c_X1_go l dC dI cB cI cJ cZ a _ ce fr un sb se so sc wb we wo wc fb fe fo fc rm ac rf kn p1 p2 p3 p4 r1 g1) (kcwV hts kw_508 kv_X1_go rfl rfl ⟨(Nat.le_of_ble_eq_true rfl), (Nat.le_of_ble_eq_true rfl)⟩) (kpV (A := A) qP hK qD hG (krecv_3 (q0 := 0) hK hP rfl)) rfl rfl hl.1 rfl (lv_room (Nat.le_of_ble_eq_true rfl)) (kdr dgL_go_0 0 6 rfl rfl) ⟨(Nat.le_of_ble_eq_true rfl), (Nat.le_of_ble_eq_true rfl)⟩) hP hD hS hA (kFr_l kFr_SB) (fun H locs hP hD hS br1 => ?_)
    refine lv_i2l (v := r1.1.toInt64) hx hb (kdr dgL_go_0 0 7 rfl rfl) rfl ?_
    refine va_putN (host := RL) (D := (dC, dI)) (ci := 4) (v := .long r1.1.toInt64) (ty := .long) (C := RX2) (T := TX2) (N := 2) hx hb hts hiX2 tyX2 tyX2_ok nmX2 hown hK hP hD hS 15 rfl rfl 0 (by decide) (va_Nw.use rfl (hG.at 7 rfl)) (fun _ h9 => h9) rfl (by decide +kernel) rfl rfl (Nat.le_of_ble_eq_true rfl) (kdr dgL_go_0 0 8 rfl rfl) (fun H locs hP hD hS => ?_)
    have hP : va_P (dC, dI) vwCl ((wSB cI cJ cZ a r1.2.1 fr un sb se so sc wb we wo wc fb fe fo fc rm r1.2.2.1 r1.2.2.2 kn) ++ (wO o r1.1.toInt64 ov)) H := hP
    have hD : va_D A ((wSB cI cJ cZ a r1.2.1 fr un sb se so sc wb we wo wc fb fe fo fc rm r1.2.2.1 r1.2.2.2 kn) ++ (wO o r1.1.toInt64 ov)) := hD
    refine lv_goto (tgt := 26) hx hb (kdr dgL_go_0 0 9 rfl rfl) (by decide) ?_
    refine lv_iconst (v := 0) hx hb (kdr dgL_go_0 1 6 rfl rfl) (by decide) ?_
    have h := Option.some.inj h
    subst h
    refine W.widen (k := 1) (n := 6) (Nat.le_of_ble_eq_true rfl) (Nat.le_of_ble_eq_true rfl) ?_
    exact kret_i (v := 0) hx hb hr rfl hlocks hS hP (kdr dgL_go_0 1 7 rfl rfl)
noncomputable abbrev wsL_copy : List Cond := Cond.codeWith yL_copy cL_copy 5 (some .int) [(0, 11, 14, 19)] :: kBIG
noncomputable def f_L_copy (ce : Nat → Int64) (ac : Int32) (on : Int64) (p1 : Int32) (p2 : Int32) : Option ((Int32) × (Nat → Int64) × (Int32) × (Int64)) :=
  xb (fx_X1_copy p1 p2) (fun k1 => if k1 = 1 then
  some (1, ce, ac, on)
else
  none) (
  (f_X1_copy ce ac p1 p2).bind fun r1 =>
  some (0, r1.2.1, r1.2.2, r1.1.toInt64))
theorem f_L_copy_e {ce : Nat → Int64} {ac : Int32} {on : Int64} {p1 : Int32} {p2 : Int32} : f_L_copy ce ac on p1 p2 = 
  xb (fx_X1_copy p1 p2) (fun k1 => if k1 = 1 then
  some (1, ce, ac, on)
else
  none) (
  (f_X1_copy ce ac p1 p2).bind fun r1 =>
  some (0, r1.2.1, r1.2.2, r1.1.toInt64)) := rfl
set_option maxHeartbeats 4000000 in
set_option maxRecDepth 100000 in
theorem c_L_copy (l : Launch) (hl9 : l.stackTraces = false) (dC : Nat → ClassId) (dI : Nat → Nat → Nat) (cB cI cJ cZ : ClassId) (a : Nat → Nat) (o : Nat) (sz : Nat) (ce : Nat → Int64) (fr : Int64) (un : Int64) (sb : Nat → Int64) (se : Nat → Int64) (so : Nat → Int32) (sc : Int32) (wb : Nat → Int64) (we : Nat → Int64) (wo : Nat → Int32) (wc : Int32) (fb : Nat → Int64) (fe : Nat → Int64) (fo : Nat → Int32) (fc : Int32) (rm : Nat → Int32) (ac : Int32) (rf : Int32) (kn : Int32) (on : Int64) (ov : Value) (p1 : Int32) (p2 : Int32) (res : (Int32) × (Nat → Int64) × (Int32) × (Int64)) (hf : f_L_copy ce ac on p1 p2 = some res) : kMw l yL_copy wsL_copy (kRm 8 1 6 132) dC dI cB cI cJ cZ [.ref (a 0), .int p1, .int p2, .ref o] sz ((wSB cI cJ cZ a ce fr un sb se so sc wb we wo wc fb fe fo fc rm ac rf kn) ++ (wO o on ov)) .int (res.1) ((wSB cI cJ cZ a (res.2.1) fr un sb se so sc wb we wo wc fb fe fo fc rm (res.2.2.1) rf kn) ++ (wO o (res.2.2.2) ov)) 1 6 := by
  refine kmet_w (y := yL_copy) (cc := cL_copy) (maxL := 5) (ret := (some .int)) (hh := [(0, 11, 14, 19)]) RL (kvA 0 (a 0) (kvI 1 p1 (kvI 2 p2 (kvA 3 o kvE)))) kpl_L rfl rfl (Nat.le_of_ble_eq_true rfl) rfl (fun p e s m below meth c A ls hx hb hr hml hht hts hown hlocks hP hK hG hZ hD hA hS hl => ?_)
  have hw0 := hts (.classLink RL 19 "java/lang/IndexOutOfBoundsException") (List.mem_cons_of_mem _ kw_467)
  have hiX2 : ∀ w ∈ u_ws RX2 TX2 2, w ∈ wsL_copy := fun w h => List.mem_cons_of_mem _ (ku_X2 w h)
  have h := f_L_copy_e.symm.trans hf
  refine lv_aload_n hx hb (kdr dgL_copy_0 0 0 rfl rfl) rfl (lv_at hl 3 rfl) ?_
  refine lv_aload_n hx hb (kdr dgL_copy_0 0 1 rfl rfl) rfl (lv_at hl 0 rfl) ?_
  refine lv_iload_n hx hb (kdr dgL_copy_0 0 2 rfl rfl) rfl (lv_at hl 1 rfl) ?_
  refine lv_iload_n hx hb (kdr dgL_copy_0 0 3 rfl rfl) rfl (lv_at hl 2 rfl) ?_
  rcases g_x h with ⟨k1, j1, h⟩ | ⟨-, h⟩
  · refine kq_xh ((wSB cI cJ cZ a ce fr un sb se so sc wb we wo wc fb fe fo fc rm ac rf kn) ++ (wO o on ov)) (fun qP qD qF => vx_runV (As := [.int p1, .int p2]) (rest := [.ref o]) ⟨hx, hb, hml, hown, hts⟩ (x_X1_copy l hl9 dC dI cB cI cJ cZ a _ ce fr un sb se so sc wb we wo wc fb fe fo fc rm ac rf kn p1 p2 k1 j1) (kcwV hts kw_525 kv_X1_copy rfl rfl ⟨(Nat.le_of_ble_eq_true rfl), (Nat.le_of_ble_eq_true rfl)⟩) (kpVXq (A := A) qP hK qD hG hZ hS qF (krecv_3 (q0 := 0) hK hP rfl)) rfl rfl hl.1 rfl (lv_room (Nat.le_of_ble_eq_true rfl)) (kdr dgL_copy_0 0 4 rfl rfl) ⟨(Nat.le_of_ble_eq_true rfl), (Nat.le_of_ble_eq_true rfl)⟩) hP hD hS hA (kFr_l kFr_SB) (fun q9 ceQ H locs hP hD hS hce hcv hcl => ?_)
    by_cases e9 : k1 = 1
    · have h := g_t e9 h
      rw [kEx_1 e9] at hcl
      refine vx_catch (E := "java/lang/IndexOutOfBoundsException") (name := "java/lang/IndexOutOfBoundsException") (own := RL) hown [] ⟨0, 11, 14, 19⟩ [] hht (fun z hz => by cases hz) (by decide) (by decide) hw0 (va_Nw.use rfl (hG.at 4 rfl)) hce hcv hcl ?_
      refine lv_astore (lv' := (kvA 4 q9 (kvA 0 (a 0) (kvI 1 p1 (kvI 2 p2 (kvA 3 o kvE)))))) hx hb (kdr dgL_copy_0 0 8 rfl rfl) hl (by decide) rfl (fun ls hl => ?_)
      refine lv_iconst (v := 1) hx hb (kdr dgL_copy_0 0 9 rfl rfl) (by decide) ?_
      have h := Option.some.inj h
      subst h
      refine W.widen (k := 1) (n := 6) (Nat.le_of_ble_eq_true rfl) (Nat.le_of_ble_eq_true rfl) ?_
      exact kret_i (v := 1) hx hb hr rfl hlocks hS hP (kdr dgL_copy_0 1 0 rfl rfl)
    · have h := g_f e9 h
      rw [kEx_2 e9] at hcl
      cases h
  · obtain ⟨r1, g1, h⟩ := g_b h
    refine kq_i ((wSB cI cJ cZ a r1.2.1 fr un sb se so sc wb we wo wc fb fe fo fc rm r1.2.2 rf kn) ++ (wO o on ov)) (fun qP qD qF => va_runV (As := [.int p1, .int p2]) (rest := [.ref o]) ⟨hx, hb, hml, hown, hts⟩ (c_X1_copy l dC dI cB cI cJ cZ a _ ce fr un sb se so sc wb we wo wc fb fe fo fc rm ac rf kn p1 p2 r1 g1) (kcwV hts kw_525 kv_X1_copy rfl rfl ⟨(Nat.le_of_ble_eq_true rfl), (Nat.le_of_ble_eq_true rfl)⟩) (kpV (A := A) qP hK qD hG (krecv_3 (q0 := 0) hK hP rfl)) rfl rfl hl.1 rfl (lv_room (Nat.le_of_ble_eq_true rfl)) (kdr dgL_copy_0 0 4 rfl rfl) ⟨(Nat.le_of_ble_eq_true rfl), (Nat.le_of_ble_eq_true rfl)⟩) hP hD hS hA (kFr_l kFr_SB) (fun H locs hP hD hS br1 => ?_)
    refine lv_i2l (v := r1.1.toInt64) hx hb (kdr dgL_copy_0 0 5 rfl rfl) rfl ?_
    refine va_putN (host := RL) (D := (dC, dI)) (ci := 4) (v := .long r1.1.toInt64) (ty := .long) (C := RX2) (T := TX2) (N := 2) hx hb hts hiX2 tyX2 tyX2_ok nmX2 hown hK hP hD hS 15 rfl rfl 0 (by decide) (va_Nw.use rfl (hG.at 7 rfl)) (fun _ h9 => h9) rfl (by decide +kernel) rfl rfl (Nat.le_of_ble_eq_true rfl) (kdr dgL_copy_0 0 6 rfl rfl) (fun H locs hP hD hS => ?_)
    have hP : va_P (dC, dI) vwCl ((wSB cI cJ cZ a r1.2.1 fr un sb se so sc wb we wo wc fb fe fo fc rm r1.2.2 rf kn) ++ (wO o r1.1.toInt64 ov)) H := hP
    have hD : va_D A ((wSB cI cJ cZ a r1.2.1 fr un sb se so sc wb we wo wc fb fe fo fc rm r1.2.2 rf kn) ++ (wO o r1.1.toInt64 ov)) := hD
    refine lv_goto (tgt := 18) hx hb (kdr dgL_copy_0 0 7 rfl rfl) (by decide) ?_
    refine lv_iconst (v := 0) hx hb (kdr dgL_copy_0 1 1 rfl rfl) (by decide) ?_
    have h := Option.some.inj h
    subst h
    refine W.widen (k := 1) (n := 6) (Nat.le_of_ble_eq_true rfl) (Nat.le_of_ble_eq_true rfl) ?_
    exact kret_i (v := 0) hx hb hr rfl hlocks hS hP (kdr dgL_copy_0 1 2 rfl rfl)
noncomputable abbrev wsL_swap : List Cond := Cond.codeWith yL_swap cL_swap 5 (some .int) [(0, 11, 14, 19)] :: kBIG
noncomputable def f_L_swap (ce : Nat → Int64) (ac : Int32) (on : Int64) (p1 : Int32) (p2 : Int32) : Option ((Int32) × (Nat → Int64) × (Int32) × (Int64)) :=
  xb (fx_X1_swap p1 p2) (fun k1 => if k1 = 1 then
  some (1, ce, ac, on)
else
  none) (
  (f_X1_swap ce ac p1 p2).bind fun r1 =>
  some (0, r1.2.1, r1.2.2, r1.1.toInt64))
theorem f_L_swap_e {ce : Nat → Int64} {ac : Int32} {on : Int64} {p1 : Int32} {p2 : Int32} : f_L_swap ce ac on p1 p2 = 
  xb (fx_X1_swap p1 p2) (fun k1 => if k1 = 1 then
  some (1, ce, ac, on)
else
  none) (
  (f_X1_swap ce ac p1 p2).bind fun r1 =>
  some (0, r1.2.1, r1.2.2, r1.1.toInt64)) := rfl
set_option maxHeartbeats 4000000 in
set_option maxRecDepth 100000 in
theorem c_L_swap (l : Launch) (hl9 : l.stackTraces = false) (dC : Nat → ClassId) (dI : Nat → Nat → Nat) (cB cI cJ cZ : ClassId) (a : Nat → Nat) (o : Nat) (sz : Nat) (ce : Nat → Int64) (fr : Int64) (un : Int64) (sb : Nat → Int64) (se : Nat → Int64) (so : Nat → Int32) (sc : Int32) (wb : Nat → Int64) (we : Nat → Int64) (wo : Nat → Int32) (wc : Int32) (fb : Nat → Int64) (fe : Nat → Int64) (fo : Nat → Int32) (fc : Int32) (rm : Nat → Int32) (ac : Int32) (rf : Int32) (kn : Int32) (on : Int64) (ov : Value) (p1 : Int32) (p2 : Int32) (res : (Int32) × (Nat → Int64) × (Int32) × (Int64)) (hf : f_L_swap ce ac on p1 p2 = some res) : kMw l yL_swap wsL_swap (kRm 8 1 6 135) dC dI cB cI cJ cZ [.ref (a 0), .int p1, .int p2, .ref o] sz ((wSB cI cJ cZ a ce fr un sb se so sc wb we wo wc fb fe fo fc rm ac rf kn) ++ (wO o on ov)) .int (res.1) ((wSB cI cJ cZ a (res.2.1) fr un sb se so sc wb we wo wc fb fe fo fc rm (res.2.2.1) rf kn) ++ (wO o (res.2.2.2) ov)) 1 6 := by
  refine kmet_w (y := yL_swap) (cc := cL_swap) (maxL := 5) (ret := (some .int)) (hh := [(0, 11, 14, 19)]) RL (kvA 0 (a 0) (kvI 1 p1 (kvI 2 p2 (kvA 3 o kvE)))) kpl_L rfl rfl (Nat.le_of_ble_eq_true rfl) rfl (fun p e s m below meth c A ls hx hb hr hml hht hts hown hlocks hP hK hG hZ hD hA hS hl => ?_)
  have hw0 := hts (.classLink RL 19 "java/lang/IndexOutOfBoundsException") (List.mem_cons_of_mem _ kw_467)
  have hiX2 : ∀ w ∈ u_ws RX2 TX2 2, w ∈ wsL_swap := fun w h => List.mem_cons_of_mem _ (ku_X2 w h)
  have h := f_L_swap_e.symm.trans hf
  refine lv_aload_n hx hb (kdr dgL_swap_0 0 0 rfl rfl) rfl (lv_at hl 3 rfl) ?_
  refine lv_aload_n hx hb (kdr dgL_swap_0 0 1 rfl rfl) rfl (lv_at hl 0 rfl) ?_
  refine lv_iload_n hx hb (kdr dgL_swap_0 0 2 rfl rfl) rfl (lv_at hl 1 rfl) ?_
  refine lv_iload_n hx hb (kdr dgL_swap_0 0 3 rfl rfl) rfl (lv_at hl 2 rfl) ?_
  rcases g_x h with ⟨k1, j1, h⟩ | ⟨-, h⟩
  · refine kq_xh ((wSB cI cJ cZ a ce fr un sb se so sc wb we wo wc fb fe fo fc rm ac rf kn) ++ (wO o on ov)) (fun qP qD qF => vx_runV (As := [.int p1, .int p2]) (rest := [.ref o]) ⟨hx, hb, hml, hown, hts⟩ (x_X1_swap l hl9 dC dI cB cI cJ cZ a _ ce fr un sb se so sc wb we wo wc fb fe fo fc rm ac rf kn p1 p2 k1 j1) (kcwV hts kw_536 kv_X1_swap rfl rfl ⟨(Nat.le_of_ble_eq_true rfl), (Nat.le_of_ble_eq_true rfl)⟩) (kpVXq (A := A) qP hK qD hG hZ hS qF (krecv_3 (q0 := 0) hK hP rfl)) rfl rfl hl.1 rfl (lv_room (Nat.le_of_ble_eq_true rfl)) (kdr dgL_swap_0 0 4 rfl rfl) ⟨(Nat.le_of_ble_eq_true rfl), (Nat.le_of_ble_eq_true rfl)⟩) hP hD hS hA (kFr_l kFr_SB) (fun q9 ceQ H locs hP hD hS hce hcv hcl => ?_)
    by_cases e9 : k1 = 1
    · have h := g_t e9 h
      rw [kEx_1 e9] at hcl
      refine vx_catch (E := "java/lang/IndexOutOfBoundsException") (name := "java/lang/IndexOutOfBoundsException") (own := RL) hown [] ⟨0, 11, 14, 19⟩ [] hht (fun z hz => by cases hz) (by decide) (by decide) hw0 (va_Nw.use rfl (hG.at 4 rfl)) hce hcv hcl ?_
      refine lv_astore (lv' := (kvA 4 q9 (kvA 0 (a 0) (kvI 1 p1 (kvI 2 p2 (kvA 3 o kvE)))))) hx hb (kdr dgL_swap_0 0 8 rfl rfl) hl (by decide) rfl (fun ls hl => ?_)
      refine lv_iconst (v := 1) hx hb (kdr dgL_swap_0 0 9 rfl rfl) (by decide) ?_
      have h := Option.some.inj h
      subst h
      refine W.widen (k := 1) (n := 6) (Nat.le_of_ble_eq_true rfl) (Nat.le_of_ble_eq_true rfl) ?_
      exact kret_i (v := 1) hx hb hr rfl hlocks hS hP (kdr dgL_swap_0 1 0 rfl rfl)
    · have h := g_f e9 h
      rw [kEx_2 e9] at hcl
      cases h
  · obtain ⟨r1, g1, h⟩ := g_b h
    refine kq_i ((wSB cI cJ cZ a r1.2.1 fr un sb se so sc wb we wo wc fb fe fo fc rm r1.2.2 rf kn) ++ (wO o on ov)) (fun qP qD qF => va_runV (As := [.int p1, .int p2]) (rest := [.ref o]) ⟨hx, hb, hml, hown, hts⟩ (c_X1_swap l dC dI cB cI cJ cZ a _ ce fr un sb se so sc wb we wo wc fb fe fo fc rm ac rf kn p1 p2 r1 g1) (kcwV hts kw_536 kv_X1_swap rfl rfl ⟨(Nat.le_of_ble_eq_true rfl), (Nat.le_of_ble_eq_true rfl)⟩) (kpV (A := A) qP hK qD hG (krecv_3 (q0 := 0) hK hP rfl)) rfl rfl hl.1 rfl (lv_room (Nat.le_of_ble_eq_true rfl)) (kdr dgL_swap_0 0 4 rfl rfl) ⟨(Nat.le_of_ble_eq_true rfl), (Nat.le_of_ble_eq_true rfl)⟩) hP hD hS hA (kFr_l kFr_SB) (fun H locs hP hD hS br1 => ?_)
    refine lv_i2l (v := r1.1.toInt64) hx hb (kdr dgL_swap_0 0 5 rfl rfl) rfl ?_
    refine va_putN (host := RL) (D := (dC, dI)) (ci := 4) (v := .long r1.1.toInt64) (ty := .long) (C := RX2) (T := TX2) (N := 2) hx hb hts hiX2 tyX2 tyX2_ok nmX2 hown hK hP hD hS 15 rfl rfl 0 (by decide) (va_Nw.use rfl (hG.at 7 rfl)) (fun _ h9 => h9) rfl (by decide +kernel) rfl rfl (Nat.le_of_ble_eq_true rfl) (kdr dgL_swap_0 0 6 rfl rfl) (fun H locs hP hD hS => ?_)
    have hP : va_P (dC, dI) vwCl ((wSB cI cJ cZ a r1.2.1 fr un sb se so sc wb we wo wc fb fe fo fc rm r1.2.2 rf kn) ++ (wO o r1.1.toInt64 ov)) H := hP
    have hD : va_D A ((wSB cI cJ cZ a r1.2.1 fr un sb se so sc wb we wo wc fb fe fo fc rm r1.2.2 rf kn) ++ (wO o r1.1.toInt64 ov)) := hD
    refine lv_goto (tgt := 18) hx hb (kdr dgL_swap_0 0 7 rfl rfl) (by decide) ?_
    refine lv_iconst (v := 0) hx hb (kdr dgL_swap_0 1 1 rfl rfl) (by decide) ?_
    have h := Option.some.inj h
    subst h
    refine W.widen (k := 1) (n := 6) (Nat.le_of_ble_eq_true rfl) (Nat.le_of_ble_eq_true rfl) ?_
    exact kret_i (v := 0) hx hb hr rfl hlocks hS hP (kdr dgL_swap_0 1 2 rfl rfl)
noncomputable abbrev wsL_pick : List Cond := Cond.codeWith yL_pick cL_pick 5 (some .int) [(0, 11, 14, 19)] :: kBIG
noncomputable def f_L_pick (ce : Nat → Int64) (ac : Int32) (on : Int64) (p1 : Int32) (p2 : Int32) : Option ((Int32) × (Nat → Int64) × (Int32) × (Int64)) :=
  xb (fx_X1_pick p2) (fun k1 => if k1 = 1 then
  some (1, ce, ac, on)
else
  none) (
  (f_X1_pick ce ac p1 p2).bind fun r1 =>
  some (0, r1.2.1, r1.2.2, r1.1.toInt64))
theorem f_L_pick_e {ce : Nat → Int64} {ac : Int32} {on : Int64} {p1 : Int32} {p2 : Int32} : f_L_pick ce ac on p1 p2 = 
  xb (fx_X1_pick p2) (fun k1 => if k1 = 1 then
  some (1, ce, ac, on)
else
  none) (
  (f_X1_pick ce ac p1 p2).bind fun r1 =>
  some (0, r1.2.1, r1.2.2, r1.1.toInt64)) := rfl
set_option maxHeartbeats 4000000 in
set_option maxRecDepth 100000 in
theorem c_L_pick (l : Launch) (hl9 : l.stackTraces = false) (dC : Nat → ClassId) (dI : Nat → Nat → Nat) (cB cI cJ cZ : ClassId) (a : Nat → Nat) (o : Nat) (sz : Nat) (ce : Nat → Int64) (fr : Int64) (un : Int64) (sb : Nat → Int64) (se : Nat → Int64) (so : Nat → Int32) (sc : Int32) (wb : Nat → Int64) (we : Nat → Int64) (wo : Nat → Int32) (wc : Int32) (fb : Nat → Int64) (fe : Nat → Int64) (fo : Nat → Int32) (fc : Int32) (rm : Nat → Int32) (ac : Int32) (rf : Int32) (kn : Int32) (on : Int64) (ov : Value) (p1 : Int32) (p2 : Int32) (res : (Int32) × (Nat → Int64) × (Int32) × (Int64)) (hf : f_L_pick ce ac on p1 p2 = some res) : kMw l yL_pick wsL_pick (kRm 8 1 6 135) dC dI cB cI cJ cZ [.ref (a 0), .int p1, .int p2, .ref o] sz ((wSB cI cJ cZ a ce fr un sb se so sc wb we wo wc fb fe fo fc rm ac rf kn) ++ (wO o on ov)) .int (res.1) ((wSB cI cJ cZ a (res.2.1) fr un sb se so sc wb we wo wc fb fe fo fc rm (res.2.2.1) rf kn) ++ (wO o (res.2.2.2) ov)) 1 6 := by
  refine kmet_w (y := yL_pick) (cc := cL_pick) (maxL := 5) (ret := (some .int)) (hh := [(0, 11, 14, 19)]) RL (kvA 0 (a 0) (kvI 1 p1 (kvI 2 p2 (kvA 3 o kvE)))) kpl_L rfl rfl (Nat.le_of_ble_eq_true rfl) rfl (fun p e s m below meth c A ls hx hb hr hml hht hts hown hlocks hP hK hG hZ hD hA hS hl => ?_)
  have hw0 := hts (.classLink RL 19 "java/lang/IndexOutOfBoundsException") (List.mem_cons_of_mem _ kw_467)
  have hiX2 : ∀ w ∈ u_ws RX2 TX2 2, w ∈ wsL_pick := fun w h => List.mem_cons_of_mem _ (ku_X2 w h)
  have h := f_L_pick_e.symm.trans hf
  refine lv_aload_n hx hb (kdr dgL_pick_0 0 0 rfl rfl) rfl (lv_at hl 3 rfl) ?_
  refine lv_aload_n hx hb (kdr dgL_pick_0 0 1 rfl rfl) rfl (lv_at hl 0 rfl) ?_
  refine lv_iload_n hx hb (kdr dgL_pick_0 0 2 rfl rfl) rfl (lv_at hl 1 rfl) ?_
  refine lv_iload_n hx hb (kdr dgL_pick_0 0 3 rfl rfl) rfl (lv_at hl 2 rfl) ?_
  rcases g_x h with ⟨k1, j1, h⟩ | ⟨-, h⟩
  · refine kq_xh ((wSB cI cJ cZ a ce fr un sb se so sc wb we wo wc fb fe fo fc rm ac rf kn) ++ (wO o on ov)) (fun qP qD qF => vx_runV (As := [.int p1, .int p2]) (rest := [.ref o]) ⟨hx, hb, hml, hown, hts⟩ (x_X1_pick l hl9 dC dI cB cI cJ cZ a _ ce fr un sb se so sc wb we wo wc fb fe fo fc rm ac rf kn p1 p2 k1 j1) (kcwV hts kw_543 kv_X1_pick rfl rfl ⟨(Nat.le_of_ble_eq_true rfl), (Nat.le_of_ble_eq_true rfl)⟩) (kpVXq (A := A) qP hK qD hG hZ hS qF (krecv_3 (q0 := 0) hK hP rfl)) rfl rfl hl.1 rfl (lv_room (Nat.le_of_ble_eq_true rfl)) (kdr dgL_pick_0 0 4 rfl rfl) ⟨(Nat.le_of_ble_eq_true rfl), (Nat.le_of_ble_eq_true rfl)⟩) hP hD hS hA (kFr_l kFr_SB) (fun q9 ceQ H locs hP hD hS hce hcv hcl => ?_)
    by_cases e9 : k1 = 1
    · have h := g_t e9 h
      rw [kEx_1 e9] at hcl
      refine vx_catch (E := "java/lang/IndexOutOfBoundsException") (name := "java/lang/IndexOutOfBoundsException") (own := RL) hown [] ⟨0, 11, 14, 19⟩ [] hht (fun z hz => by cases hz) (by decide) (by decide) hw0 (va_Nw.use rfl (hG.at 4 rfl)) hce hcv hcl ?_
      refine lv_astore (lv' := (kvA 4 q9 (kvA 0 (a 0) (kvI 1 p1 (kvI 2 p2 (kvA 3 o kvE)))))) hx hb (kdr dgL_pick_0 0 8 rfl rfl) hl (by decide) rfl (fun ls hl => ?_)
      refine lv_iconst (v := 1) hx hb (kdr dgL_pick_0 0 9 rfl rfl) (by decide) ?_
      have h := Option.some.inj h
      subst h
      refine W.widen (k := 1) (n := 6) (Nat.le_of_ble_eq_true rfl) (Nat.le_of_ble_eq_true rfl) ?_
      exact kret_i (v := 1) hx hb hr rfl hlocks hS hP (kdr dgL_pick_0 1 0 rfl rfl)
    · have h := g_f e9 h
      rw [kEx_2 e9] at hcl
      cases h
  · obtain ⟨r1, g1, h⟩ := g_b h
    refine kq_i ((wSB cI cJ cZ a r1.2.1 fr un sb se so sc wb we wo wc fb fe fo fc rm r1.2.2 rf kn) ++ (wO o on ov)) (fun qP qD qF => va_runV (As := [.int p1, .int p2]) (rest := [.ref o]) ⟨hx, hb, hml, hown, hts⟩ (c_X1_pick l dC dI cB cI cJ cZ a _ ce fr un sb se so sc wb we wo wc fb fe fo fc rm ac rf kn p1 p2 r1 g1) (kcwV hts kw_543 kv_X1_pick rfl rfl ⟨(Nat.le_of_ble_eq_true rfl), (Nat.le_of_ble_eq_true rfl)⟩) (kpV (A := A) qP hK qD hG (krecv_3 (q0 := 0) hK hP rfl)) rfl rfl hl.1 rfl (lv_room (Nat.le_of_ble_eq_true rfl)) (kdr dgL_pick_0 0 4 rfl rfl) ⟨(Nat.le_of_ble_eq_true rfl), (Nat.le_of_ble_eq_true rfl)⟩) hP hD hS hA (kFr_l kFr_SB) (fun H locs hP hD hS br1 => ?_)
    refine lv_i2l (v := r1.1.toInt64) hx hb (kdr dgL_pick_0 0 5 rfl rfl) rfl ?_
    refine va_putN (host := RL) (D := (dC, dI)) (ci := 4) (v := .long r1.1.toInt64) (ty := .long) (C := RX2) (T := TX2) (N := 2) hx hb hts hiX2 tyX2 tyX2_ok nmX2 hown hK hP hD hS 15 rfl rfl 0 (by decide) (va_Nw.use rfl (hG.at 7 rfl)) (fun _ h9 => h9) rfl (by decide +kernel) rfl rfl (Nat.le_of_ble_eq_true rfl) (kdr dgL_pick_0 0 6 rfl rfl) (fun H locs hP hD hS => ?_)
    have hP : va_P (dC, dI) vwCl ((wSB cI cJ cZ a r1.2.1 fr un sb se so sc wb we wo wc fb fe fo fc rm r1.2.2 rf kn) ++ (wO o r1.1.toInt64 ov)) H := hP
    have hD : va_D A ((wSB cI cJ cZ a r1.2.1 fr un sb se so sc wb we wo wc fb fe fo fc rm r1.2.2 rf kn) ++ (wO o r1.1.toInt64 ov)) := hD
    refine lv_goto (tgt := 18) hx hb (kdr dgL_pick_0 0 7 rfl rfl) (by decide) ?_
    refine lv_iconst (v := 0) hx hb (kdr dgL_pick_0 1 1 rfl rfl) (by decide) ?_
    have h := Option.some.inj h
    subst h
    refine W.widen (k := 1) (n := 6) (Nat.le_of_ble_eq_true rfl) (Nat.le_of_ble_eq_true rfl) ?_
    exact kret_i (v := 0) hx hb hr rfl hlocks hS hP (kdr dgL_pick_0 1 2 rfl rfl)
noncomputable abbrev wsL_shift : List Cond := Cond.codeWith yL_shift cL_shift 5 (some .int) [(0, 11, 14, 21)] :: kBIG
noncomputable def f_L_shift (ce : Nat → Int64) (fr : Int64) (un : Int64) (sb : Nat → Int64) (se : Nat → Int64) (sc : Int32) (wb : Nat → Int64) (we : Nat → Int64) (wc : Int32) (ac : Int32) (rf : Int32) (on : Int64) (p1 : Int32) (p2 : Int32) : Option ((Int32) × (Nat → Int64) × (Int64) × (Int64) × (Nat → Int64) × (Nat → Int64) × (Nat → Int64) × (Nat → Int64) × (Int32) × (Int32) × (Int64)) :=
  xb (fx_X1_shift p1 p2) (fun k1 => if k1 = 1 then
  none
else
  some (1, ce, fr, un, sb, se, wb, we, ac, rf, on)) (
  (f_X1_shift ce fr un sb se sc wb we wc ac rf p1 p2).bind fun r1 =>
  some (0, r1.2.1, r1.2.2.1, r1.2.2.2.1, r1.2.2.2.2.1, r1.2.2.2.2.2.1, r1.2.2.2.2.2.2.1, r1.2.2.2.2.2.2.2.1, r1.2.2.2.2.2.2.2.2.1, r1.2.2.2.2.2.2.2.2.2, r1.1.toInt64))
theorem f_L_shift_e {ce : Nat → Int64} {fr : Int64} {un : Int64} {sb : Nat → Int64} {se : Nat → Int64} {sc : Int32} {wb : Nat → Int64} {we : Nat → Int64} {wc : Int32} {ac : Int32} {rf : Int32} {on : Int64} {p1 : Int32} {p2 : Int32} : f_L_shift ce fr un sb se sc wb we wc ac rf on p1 p2 = 
  xb (fx_X1_shift p1 p2) (fun k1 => if k1 = 1 then
  none
else
  some (1, ce, fr, un, sb, se, wb, we, ac, rf, on)) (
  (f_X1_shift ce fr un sb se sc wb we wc ac rf p1 p2).bind fun r1 =>
  some (0, r1.2.1, r1.2.2.1, r1.2.2.2.1, r1.2.2.2.2.1, r1.2.2.2.2.2.1, r1.2.2.2.2.2.2.1, r1.2.2.2.2.2.2.2.1, r1.2.2.2.2.2.2.2.2.1, r1.2.2.2.2.2.2.2.2.2, r1.1.toInt64)) := rfl
set_option maxHeartbeats 4000000 in
set_option maxRecDepth 100000 in
theorem c_L_shift (l : Launch) (hl9 : l.stackTraces = false) (dC : Nat → ClassId) (dI : Nat → Nat → Nat) (cB cI cJ cZ : ClassId) (a : Nat → Nat) (o : Nat) (sz : Nat) (ce : Nat → Int64) (fr : Int64) (un : Int64) (sb : Nat → Int64) (se : Nat → Int64) (so : Nat → Int32) (sc : Int32) (wb : Nat → Int64) (we : Nat → Int64) (wo : Nat → Int32) (wc : Int32) (fb : Nat → Int64) (fe : Nat → Int64) (fo : Nat → Int32) (fc : Int32) (rm : Nat → Int32) (ac : Int32) (rf : Int32) (kn : Int32) (on : Int64) (ov : Value) (p1 : Int32) (p2 : Int32) (res : (Int32) × (Nat → Int64) × (Int64) × (Int64) × (Nat → Int64) × (Nat → Int64) × (Nat → Int64) × (Nat → Int64) × (Int32) × (Int32) × (Int64)) (hf : f_L_shift ce fr un sb se sc wb we wc ac rf on p1 p2 = some res) : kMw l yL_shift wsL_shift (kRm 9 1 6 157) dC dI cB cI cJ cZ [.ref (a 0), .int p1, .int p2, .ref o] sz ((wSB cI cJ cZ a ce fr un sb se so sc wb we wo wc fb fe fo fc rm ac rf kn) ++ (wO o on ov)) .int (res.1) ((wSB cI cJ cZ a (res.2.1) (res.2.2.1) (res.2.2.2.1) (res.2.2.2.2.1) (res.2.2.2.2.2.1) so sc (res.2.2.2.2.2.2.1) (res.2.2.2.2.2.2.2.1) wo wc fb fe fo fc rm (res.2.2.2.2.2.2.2.2.1) (res.2.2.2.2.2.2.2.2.2.1) kn) ++ (wO o (res.2.2.2.2.2.2.2.2.2.2) ov)) 1 6 := by
  refine kmet_w (y := yL_shift) (cc := cL_shift) (maxL := 5) (ret := (some .int)) (hh := [(0, 11, 14, 21)]) RL (kvA 0 (a 0) (kvI 1 p1 (kvI 2 p2 (kvA 3 o kvE)))) kpl_L rfl rfl (Nat.le_of_ble_eq_true rfl) rfl (fun p e s m below meth c A ls hx hb hr hml hht hts hown hlocks hP hK hG hZ hD hA hS hl => ?_)
  have hw0 := hts (.classLink RL 21 "java/lang/IllegalArgumentException") (List.mem_cons_of_mem _ kw_468)
  have hiX2 : ∀ w ∈ u_ws RX2 TX2 2, w ∈ wsL_shift := fun w h => List.mem_cons_of_mem _ (ku_X2 w h)
  have h := f_L_shift_e.symm.trans hf
  refine lv_aload_n hx hb (kdr dgL_shift_0 0 0 rfl rfl) rfl (lv_at hl 3 rfl) ?_
  refine lv_aload_n hx hb (kdr dgL_shift_0 0 1 rfl rfl) rfl (lv_at hl 0 rfl) ?_
  refine lv_iload_n hx hb (kdr dgL_shift_0 0 2 rfl rfl) rfl (lv_at hl 1 rfl) ?_
  refine lv_iload_n hx hb (kdr dgL_shift_0 0 3 rfl rfl) rfl (lv_at hl 2 rfl) ?_
  rcases g_x h with ⟨k1, j1, h⟩ | ⟨-, h⟩
  · refine kq_xh ((wSB cI cJ cZ a ce fr un sb se so sc wb we wo wc fb fe fo fc rm ac rf kn) ++ (wO o on ov)) (fun qP qD qF => vx_runV (As := [.int p1, .int p2]) (rest := [.ref o]) ⟨hx, hb, hml, hown, hts⟩ (x_X1_shift l hl9 dC dI cB cI cJ cZ a _ ce fr un sb se so sc wb we wo wc fb fe fo fc rm ac rf kn p1 p2 k1 j1) (kcwV hts kw_550 kv_X1_shift rfl rfl ⟨(Nat.le_of_ble_eq_true rfl), (Nat.le_of_ble_eq_true rfl)⟩) (kpVXq (A := A) qP hK qD hG hZ hS qF (krecv_3 (q0 := 0) hK hP rfl)) rfl rfl hl.1 rfl (lv_room (Nat.le_of_ble_eq_true rfl)) (kdr dgL_shift_0 0 4 rfl rfl) ⟨(Nat.le_of_ble_eq_true rfl), (Nat.le_of_ble_eq_true rfl)⟩) hP hD hS hA (kFr_l kFr_SB) (fun q9 ceQ H locs hP hD hS hce hcv hcl => ?_)
    by_cases e9 : k1 = 1
    · have h := g_t e9 h
      rw [kEx_1 e9] at hcl
      cases h
    · have h := g_f e9 h
      rw [kEx_2 e9] at hcl
      refine vx_catch (E := "java/lang/IllegalArgumentException") (name := "java/lang/IllegalArgumentException") (own := RL) hown [] ⟨0, 11, 14, 21⟩ [] hht (fun z hz => by cases hz) (by decide) (by decide) hw0 (va_Nw.use rfl (hG.at 5 rfl)) hce hcv hcl ?_
      refine lv_astore (lv' := (kvA 4 q9 (kvA 0 (a 0) (kvI 1 p1 (kvI 2 p2 (kvA 3 o kvE)))))) hx hb (kdr dgL_shift_0 0 8 rfl rfl) hl (by decide) rfl (fun ls hl => ?_)
      refine lv_iconst (v := 1) hx hb (kdr dgL_shift_0 0 9 rfl rfl) (by decide) ?_
      have h := Option.some.inj h
      subst h
      refine W.widen (k := 1) (n := 6) (Nat.le_of_ble_eq_true rfl) (Nat.le_of_ble_eq_true rfl) ?_
      exact kret_i (v := 1) hx hb hr rfl hlocks hS hP (kdr dgL_shift_0 1 0 rfl rfl)
  · obtain ⟨r1, g1, h⟩ := g_b h
    refine kq_i ((wSB cI cJ cZ a r1.2.1 r1.2.2.1 r1.2.2.2.1 r1.2.2.2.2.1 r1.2.2.2.2.2.1 so sc r1.2.2.2.2.2.2.1 r1.2.2.2.2.2.2.2.1 wo wc fb fe fo fc rm r1.2.2.2.2.2.2.2.2.1 r1.2.2.2.2.2.2.2.2.2 kn) ++ (wO o on ov)) (fun qP qD qF => va_runV (As := [.int p1, .int p2]) (rest := [.ref o]) ⟨hx, hb, hml, hown, hts⟩ (c_X1_shift l dC dI cB cI cJ cZ a _ ce fr un sb se so sc wb we wo wc fb fe fo fc rm ac rf kn p1 p2 r1 g1) (kcwV hts kw_550 kv_X1_shift rfl rfl ⟨(Nat.le_of_ble_eq_true rfl), (Nat.le_of_ble_eq_true rfl)⟩) (kpV (A := A) qP hK qD hG (krecv_3 (q0 := 0) hK hP rfl)) rfl rfl hl.1 rfl (lv_room (Nat.le_of_ble_eq_true rfl)) (kdr dgL_shift_0 0 4 rfl rfl) ⟨(Nat.le_of_ble_eq_true rfl), (Nat.le_of_ble_eq_true rfl)⟩) hP hD hS hA (kFr_l kFr_SB) (fun H locs hP hD hS br1 => ?_)
    refine lv_i2l (v := r1.1.toInt64) hx hb (kdr dgL_shift_0 0 5 rfl rfl) rfl ?_
    refine va_putN (host := RL) (D := (dC, dI)) (ci := 4) (v := .long r1.1.toInt64) (ty := .long) (C := RX2) (T := TX2) (N := 2) hx hb hts hiX2 tyX2 tyX2_ok nmX2 hown hK hP hD hS 15 rfl rfl 0 (by decide) (va_Nw.use rfl (hG.at 7 rfl)) (fun _ h9 => h9) rfl (by decide +kernel) rfl rfl (Nat.le_of_ble_eq_true rfl) (kdr dgL_shift_0 0 6 rfl rfl) (fun H locs hP hD hS => ?_)
    have hP : va_P (dC, dI) vwCl ((wSB cI cJ cZ a r1.2.1 r1.2.2.1 r1.2.2.2.1 r1.2.2.2.2.1 r1.2.2.2.2.2.1 so sc r1.2.2.2.2.2.2.1 r1.2.2.2.2.2.2.2.1 wo wc fb fe fo fc rm r1.2.2.2.2.2.2.2.2.1 r1.2.2.2.2.2.2.2.2.2 kn) ++ (wO o r1.1.toInt64 ov)) H := hP
    have hD : va_D A ((wSB cI cJ cZ a r1.2.1 r1.2.2.1 r1.2.2.2.1 r1.2.2.2.2.1 r1.2.2.2.2.2.1 so sc r1.2.2.2.2.2.2.1 r1.2.2.2.2.2.2.2.1 wo wc fb fe fo fc rm r1.2.2.2.2.2.2.2.2.1 r1.2.2.2.2.2.2.2.2.2 kn) ++ (wO o r1.1.toInt64 ov)) := hD
    refine lv_goto (tgt := 18) hx hb (kdr dgL_shift_0 0 7 rfl rfl) (by decide) ?_
    refine lv_iconst (v := 0) hx hb (kdr dgL_shift_0 1 1 rfl rfl) (by decide) ?_
    have h := Option.some.inj h
    subst h
    refine W.widen (k := 1) (n := 6) (Nat.le_of_ble_eq_true rfl) (Nat.le_of_ble_eq_true rfl) ?_
    exact kret_i (v := 0) hx hb hr rfl hlocks hS hP (kdr dgL_shift_0 1 2 rfl rfl)
noncomputable abbrev wsL_open : List Cond := Cond.codeWith yL_open cL_open 5 (some .int) [(0, 11, 14, 19)] :: kBIG
noncomputable def f_L_open (ce : Nat → Int64) (fr : Int64) (un : Int64) (sc : Int32) (ac : Int32) (rf : Int32) (on : Int64) (p1 : Int32) (p2 : Int32) : Option ((Int32) × (Int64) × (Int64) × (Int32) × (Int32) × (Int32) × (Int64)) :=
  xb (fx_X1_open p1 p2) (fun k1 => if k1 = 1 then
  some (1, fr, un, sc, ac, rf, on)
else
  none) (
  (f_X1_open ce fr un sc ac rf p1 p2).bind fun r1 =>
  some (0, r1.2.1, r1.2.2.1, r1.2.2.2.1, r1.2.2.2.2.1, r1.2.2.2.2.2, r1.1.toInt64))
theorem f_L_open_e {ce : Nat → Int64} {fr : Int64} {un : Int64} {sc : Int32} {ac : Int32} {rf : Int32} {on : Int64} {p1 : Int32} {p2 : Int32} : f_L_open ce fr un sc ac rf on p1 p2 = 
  xb (fx_X1_open p1 p2) (fun k1 => if k1 = 1 then
  some (1, fr, un, sc, ac, rf, on)
else
  none) (
  (f_X1_open ce fr un sc ac rf p1 p2).bind fun r1 =>
  some (0, r1.2.1, r1.2.2.1, r1.2.2.2.1, r1.2.2.2.2.1, r1.2.2.2.2.2, r1.1.toInt64)) := rfl
set_option maxHeartbeats 4000000 in
set_option maxRecDepth 100000 in
theorem c_L_open (l : Launch) (hl9 : l.stackTraces = false) (dC : Nat → ClassId) (dI : Nat → Nat → Nat) (cB cI cJ cZ : ClassId) (a : Nat → Nat) (o : Nat) (sz : Nat) (ce : Nat → Int64) (fr : Int64) (un : Int64) (sb : Nat → Int64) (se : Nat → Int64) (so : Nat → Int32) (sc : Int32) (wb : Nat → Int64) (we : Nat → Int64) (wo : Nat → Int32) (wc : Int32) (fb : Nat → Int64) (fe : Nat → Int64) (fo : Nat → Int32) (fc : Int32) (rm : Nat → Int32) (ac : Int32) (rf : Int32) (kn : Int32) (on : Int64) (ov : Value) (p1 : Int32) (p2 : Int32) (res : (Int32) × (Int64) × (Int64) × (Int32) × (Int32) × (Int32) × (Int64)) (hf : f_L_open ce fr un sc ac rf on p1 p2 = some res) : kMw l yL_open wsL_open (kRm 8 1 6 132) dC dI cB cI cJ cZ [.ref (a 0), .int p1, .int p2, .ref o] sz ((wSB cI cJ cZ a ce fr un sb se so sc wb we wo wc fb fe fo fc rm ac rf kn) ++ (wO o on ov)) .int (res.1) ((wSB cI cJ cZ a ce (res.2.1) (res.2.2.1) sb se so (res.2.2.2.1) wb we wo wc fb fe fo fc rm (res.2.2.2.2.1) (res.2.2.2.2.2.1) kn) ++ (wO o (res.2.2.2.2.2.2) ov)) 1 6 := by
  refine kmet_w (y := yL_open) (cc := cL_open) (maxL := 5) (ret := (some .int)) (hh := [(0, 11, 14, 19)]) RL (kvA 0 (a 0) (kvI 1 p1 (kvI 2 p2 (kvA 3 o kvE)))) kpl_L rfl rfl (Nat.le_of_ble_eq_true rfl) rfl (fun p e s m below meth c A ls hx hb hr hml hht hts hown hlocks hP hK hG hZ hD hA hS hl => ?_)
  have hw0 := hts (.classLink RL 19 "java/lang/IndexOutOfBoundsException") (List.mem_cons_of_mem _ kw_467)
  have hiX2 : ∀ w ∈ u_ws RX2 TX2 2, w ∈ wsL_open := fun w h => List.mem_cons_of_mem _ (ku_X2 w h)
  have h := f_L_open_e.symm.trans hf
  refine lv_aload_n hx hb (kdr dgL_open_0 0 0 rfl rfl) rfl (lv_at hl 3 rfl) ?_
  refine lv_aload_n hx hb (kdr dgL_open_0 0 1 rfl rfl) rfl (lv_at hl 0 rfl) ?_
  refine lv_iload_n hx hb (kdr dgL_open_0 0 2 rfl rfl) rfl (lv_at hl 1 rfl) ?_
  refine lv_iload_n hx hb (kdr dgL_open_0 0 3 rfl rfl) rfl (lv_at hl 2 rfl) ?_
  rcases g_x h with ⟨k1, j1, h⟩ | ⟨-, h⟩
  · refine kq_xh ((wSB cI cJ cZ a ce fr un sb se so sc wb we wo wc fb fe fo fc rm ac rf kn) ++ (wO o on ov)) (fun qP qD qF => vx_runV (As := [.int p1, .int p2]) (rest := [.ref o]) ⟨hx, hb, hml, hown, hts⟩ (x_X1_open l hl9 dC dI cB cI cJ cZ a _ ce fr un sb se so sc wb we wo wc fb fe fo fc rm ac rf kn p1 p2 k1 j1) (kcwV hts kw_570 kv_X1_open rfl rfl ⟨(Nat.le_of_ble_eq_true rfl), (Nat.le_of_ble_eq_true rfl)⟩) (kpVXq (A := A) qP hK qD hG hZ hS qF (krecv_3 (q0 := 0) hK hP rfl)) rfl rfl hl.1 rfl (lv_room (Nat.le_of_ble_eq_true rfl)) (kdr dgL_open_0 0 4 rfl rfl) ⟨(Nat.le_of_ble_eq_true rfl), (Nat.le_of_ble_eq_true rfl)⟩) hP hD hS hA (kFr_l kFr_SB) (fun q9 ceQ H locs hP hD hS hce hcv hcl => ?_)
    by_cases e9 : k1 = 1
    · have h := g_t e9 h
      rw [kEx_1 e9] at hcl
      refine vx_catch (E := "java/lang/IndexOutOfBoundsException") (name := "java/lang/IndexOutOfBoundsException") (own := RL) hown [] ⟨0, 11, 14, 19⟩ [] hht (fun z hz => by cases hz) (by decide) (by decide) hw0 (va_Nw.use rfl (hG.at 4 rfl)) hce hcv hcl ?_
      refine lv_astore (lv' := (kvA 4 q9 (kvA 0 (a 0) (kvI 1 p1 (kvI 2 p2 (kvA 3 o kvE)))))) hx hb (kdr dgL_open_0 0 8 rfl rfl) hl (by decide) rfl (fun ls hl => ?_)
      refine lv_iconst (v := 1) hx hb (kdr dgL_open_0 0 9 rfl rfl) (by decide) ?_
      have h := Option.some.inj h
      subst h
      refine W.widen (k := 1) (n := 6) (Nat.le_of_ble_eq_true rfl) (Nat.le_of_ble_eq_true rfl) ?_
      exact kret_i (v := 1) hx hb hr rfl hlocks hS hP (kdr dgL_open_0 1 0 rfl rfl)
    · have h := g_f e9 h
      rw [kEx_2 e9] at hcl
      cases h
  · obtain ⟨r1, g1, h⟩ := g_b h
    refine kq_i ((wSB cI cJ cZ a ce r1.2.1 r1.2.2.1 sb se so r1.2.2.2.1 wb we wo wc fb fe fo fc rm r1.2.2.2.2.1 r1.2.2.2.2.2 kn) ++ (wO o on ov)) (fun qP qD qF => va_runV (As := [.int p1, .int p2]) (rest := [.ref o]) ⟨hx, hb, hml, hown, hts⟩ (c_X1_open l dC dI cB cI cJ cZ a _ ce fr un sb se so sc wb we wo wc fb fe fo fc rm ac rf kn p1 p2 r1 g1) (kcwV hts kw_570 kv_X1_open rfl rfl ⟨(Nat.le_of_ble_eq_true rfl), (Nat.le_of_ble_eq_true rfl)⟩) (kpV (A := A) qP hK qD hG (krecv_3 (q0 := 0) hK hP rfl)) rfl rfl hl.1 rfl (lv_room (Nat.le_of_ble_eq_true rfl)) (kdr dgL_open_0 0 4 rfl rfl) ⟨(Nat.le_of_ble_eq_true rfl), (Nat.le_of_ble_eq_true rfl)⟩) hP hD hS hA (kFr_l kFr_SB) (fun H locs hP hD hS br1 => ?_)
    refine lv_i2l (v := r1.1.toInt64) hx hb (kdr dgL_open_0 0 5 rfl rfl) rfl ?_
    refine va_putN (host := RL) (D := (dC, dI)) (ci := 4) (v := .long r1.1.toInt64) (ty := .long) (C := RX2) (T := TX2) (N := 2) hx hb hts hiX2 tyX2 tyX2_ok nmX2 hown hK hP hD hS 15 rfl rfl 0 (by decide) (va_Nw.use rfl (hG.at 7 rfl)) (fun _ h9 => h9) rfl (by decide +kernel) rfl rfl (Nat.le_of_ble_eq_true rfl) (kdr dgL_open_0 0 6 rfl rfl) (fun H locs hP hD hS => ?_)
    have hP : va_P (dC, dI) vwCl ((wSB cI cJ cZ a ce r1.2.1 r1.2.2.1 sb se so r1.2.2.2.1 wb we wo wc fb fe fo fc rm r1.2.2.2.2.1 r1.2.2.2.2.2 kn) ++ (wO o r1.1.toInt64 ov)) H := hP
    have hD : va_D A ((wSB cI cJ cZ a ce r1.2.1 r1.2.2.1 sb se so r1.2.2.2.1 wb we wo wc fb fe fo fc rm r1.2.2.2.2.1 r1.2.2.2.2.2 kn) ++ (wO o r1.1.toInt64 ov)) := hD
    refine lv_goto (tgt := 18) hx hb (kdr dgL_open_0 0 7 rfl rfl) (by decide) ?_
    refine lv_iconst (v := 0) hx hb (kdr dgL_open_0 1 1 rfl rfl) (by decide) ?_
    have h := Option.some.inj h
    subst h
    refine W.widen (k := 1) (n := 6) (Nat.le_of_ble_eq_true rfl) (Nat.le_of_ble_eq_true rfl) ?_
    exact kret_i (v := 0) hx hb hr rfl hlocks hS hP (kdr dgL_open_0 1 2 rfl rfl)
noncomputable abbrev wsL_book : List Cond := Cond.codeWith yL_book cL_book 6 (some .int) [(0, 13, 16, 19)] :: kBIG
noncomputable def f_L_book (ce : Nat → Int64) (fr : Int64) (un : Int64) (sb : Nat → Int64) (se : Nat → Int64) (so : Nat → Int32) (sc : Int32) (ac : Int32) (rf : Int32) (on : Int64) (p1 : Int32) (p2 : Int32) (p3 : Int32) : Option ((Int32) × (Nat → Int64) × (Nat → Int64) × (Nat → Int32) × (Int32) × (Int32) × (Int32) × (Int64)) :=
  xb (fx_X1_book p1 p2) (fun k1 => if k1 = 1 then
  some (1, sb, se, so, sc, ac, rf, on)
else
  none) (
  (f_X1_book ce fr un sb se so sc ac rf p1 p2 p3).bind fun r1 =>
  some (0, r1.2.1, r1.2.2.1, r1.2.2.2.1, r1.2.2.2.2.1, r1.2.2.2.2.2.1, r1.2.2.2.2.2.2, r1.1.toInt64))
theorem f_L_book_e {ce : Nat → Int64} {fr : Int64} {un : Int64} {sb : Nat → Int64} {se : Nat → Int64} {so : Nat → Int32} {sc : Int32} {ac : Int32} {rf : Int32} {on : Int64} {p1 : Int32} {p2 : Int32} {p3 : Int32} : f_L_book ce fr un sb se so sc ac rf on p1 p2 p3 = 
  xb (fx_X1_book p1 p2) (fun k1 => if k1 = 1 then
  some (1, sb, se, so, sc, ac, rf, on)
else
  none) (
  (f_X1_book ce fr un sb se so sc ac rf p1 p2 p3).bind fun r1 =>
  some (0, r1.2.1, r1.2.2.1, r1.2.2.2.1, r1.2.2.2.2.1, r1.2.2.2.2.2.1, r1.2.2.2.2.2.2, r1.1.toInt64)) := rfl
set_option maxHeartbeats 4000000 in
set_option maxRecDepth 100000 in
theorem c_L_book (l : Launch) (hl9 : l.stackTraces = false) (dC : Nat → ClassId) (dI : Nat → Nat → Nat) (cB cI cJ cZ : ClassId) (a : Nat → Nat) (o : Nat) (sz : Nat) (ce : Nat → Int64) (fr : Int64) (un : Int64) (sb : Nat → Int64) (se : Nat → Int64) (so : Nat → Int32) (sc : Int32) (wb : Nat → Int64) (we : Nat → Int64) (wo : Nat → Int32) (wc : Int32) (fb : Nat → Int64) (fe : Nat → Int64) (fo : Nat → Int32) (fc : Int32) (rm : Nat → Int32) (ac : Int32) (rf : Int32) (kn : Int32) (on : Int64) (ov : Value) (p1 : Int32) (p2 : Int32) (p3 : Int32) (res : (Int32) × (Nat → Int64) × (Nat → Int64) × (Nat → Int32) × (Int32) × (Int32) × (Int32) × (Int64)) (hf : f_L_book ce fr un sb se so sc ac rf on p1 p2 p3 = some res) : kMw l yL_book wsL_book (kRm 8 1 6 134) dC dI cB cI cJ cZ [.ref (a 0), .int p1, .int p2, .int p3, .ref o] sz ((wSB cI cJ cZ a ce fr un sb se so sc wb we wo wc fb fe fo fc rm ac rf kn) ++ (wO o on ov)) .int (res.1) ((wSB cI cJ cZ a ce fr un (res.2.1) (res.2.2.1) (res.2.2.2.1) (res.2.2.2.2.1) wb we wo wc fb fe fo fc rm (res.2.2.2.2.2.1) (res.2.2.2.2.2.2.1) kn) ++ (wO o (res.2.2.2.2.2.2.2) ov)) 1 6 := by
  refine kmet_w (y := yL_book) (cc := cL_book) (maxL := 6) (ret := (some .int)) (hh := [(0, 13, 16, 19)]) RL (kvA 0 (a 0) (kvI 1 p1 (kvI 2 p2 (kvI 3 p3 (kvA 4 o kvE))))) kpl_L rfl rfl (Nat.le_of_ble_eq_true rfl) rfl (fun p e s m below meth c A ls hx hb hr hml hht hts hown hlocks hP hK hG hZ hD hA hS hl => ?_)
  have hw0 := hts (.classLink RL 19 "java/lang/IndexOutOfBoundsException") (List.mem_cons_of_mem _ kw_467)
  have hiX2 : ∀ w ∈ u_ws RX2 TX2 2, w ∈ wsL_book := fun w h => List.mem_cons_of_mem _ (ku_X2 w h)
  have h := f_L_book_e.symm.trans hf
  refine lv_aload hx hb (kdr dgL_book_0 0 0 rfl rfl) (lv_at hl 4 rfl) ?_
  refine lv_aload_n hx hb (kdr dgL_book_0 0 1 rfl rfl) rfl (lv_at hl 0 rfl) ?_
  refine lv_iload_n hx hb (kdr dgL_book_0 0 2 rfl rfl) rfl (lv_at hl 1 rfl) ?_
  refine lv_iload_n hx hb (kdr dgL_book_0 0 3 rfl rfl) rfl (lv_at hl 2 rfl) ?_
  refine lv_iload_n hx hb (kdr dgL_book_0 0 4 rfl rfl) rfl (lv_at hl 3 rfl) ?_
  rcases g_x h with ⟨k1, j1, h⟩ | ⟨-, h⟩
  · refine kq_xh ((wSB cI cJ cZ a ce fr un sb se so sc wb we wo wc fb fe fo fc rm ac rf kn) ++ (wO o on ov)) (fun qP qD qF => vx_runV (As := [.int p1, .int p2, .int p3]) (rest := [.ref o]) ⟨hx, hb, hml, hown, hts⟩ (x_X1_book l hl9 dC dI cB cI cJ cZ a _ ce fr un sb se so sc wb we wo wc fb fe fo fc rm ac rf kn p1 p2 p3 k1 j1) (kcwV hts kw_577 kv_X1_book rfl rfl ⟨(Nat.le_of_ble_eq_true rfl), (Nat.le_of_ble_eq_true rfl)⟩) (kpVXq (A := A) qP hK qD hG hZ hS qF (krecv_3 (q0 := 0) hK hP rfl)) rfl rfl hl.1 rfl (lv_room (Nat.le_of_ble_eq_true rfl)) (kdr dgL_book_0 0 5 rfl rfl) ⟨(Nat.le_of_ble_eq_true rfl), (Nat.le_of_ble_eq_true rfl)⟩) hP hD hS hA (kFr_l kFr_SB) (fun q9 ceQ H locs hP hD hS hce hcv hcl => ?_)
    by_cases e9 : k1 = 1
    · have h := g_t e9 h
      rw [kEx_1 e9] at hcl
      refine vx_catch (E := "java/lang/IndexOutOfBoundsException") (name := "java/lang/IndexOutOfBoundsException") (own := RL) hown [] ⟨0, 13, 16, 19⟩ [] hht (fun z hz => by cases hz) (by decide) (by decide) hw0 (va_Nw.use rfl (hG.at 4 rfl)) hce hcv hcl ?_
      refine lv_astore (lv' := (kvA 5 q9 (kvA 0 (a 0) (kvI 1 p1 (kvI 2 p2 (kvI 3 p3 (kvA 4 o kvE))))))) hx hb (kdr dgL_book_0 0 9 rfl rfl) hl (by decide) rfl (fun ls hl => ?_)
      refine lv_iconst (v := 1) hx hb (kdr dgL_book_0 1 0 rfl rfl) (by decide) ?_
      have h := Option.some.inj h
      subst h
      refine W.widen (k := 1) (n := 6) (Nat.le_of_ble_eq_true rfl) (Nat.le_of_ble_eq_true rfl) ?_
      exact kret_i (v := 1) hx hb hr rfl hlocks hS hP (kdr dgL_book_0 1 1 rfl rfl)
    · have h := g_f e9 h
      rw [kEx_2 e9] at hcl
      cases h
  · obtain ⟨r1, g1, h⟩ := g_b h
    refine kq_i ((wSB cI cJ cZ a ce fr un r1.2.1 r1.2.2.1 r1.2.2.2.1 r1.2.2.2.2.1 wb we wo wc fb fe fo fc rm r1.2.2.2.2.2.1 r1.2.2.2.2.2.2 kn) ++ (wO o on ov)) (fun qP qD qF => va_runV (As := [.int p1, .int p2, .int p3]) (rest := [.ref o]) ⟨hx, hb, hml, hown, hts⟩ (c_X1_book l dC dI cB cI cJ cZ a _ ce fr un sb se so sc wb we wo wc fb fe fo fc rm ac rf kn p1 p2 p3 r1 g1) (kcwV hts kw_577 kv_X1_book rfl rfl ⟨(Nat.le_of_ble_eq_true rfl), (Nat.le_of_ble_eq_true rfl)⟩) (kpV (A := A) qP hK qD hG (krecv_3 (q0 := 0) hK hP rfl)) rfl rfl hl.1 rfl (lv_room (Nat.le_of_ble_eq_true rfl)) (kdr dgL_book_0 0 5 rfl rfl) ⟨(Nat.le_of_ble_eq_true rfl), (Nat.le_of_ble_eq_true rfl)⟩) hP hD hS hA (kFr_l kFr_SB) (fun H locs hP hD hS br1 => ?_)
    refine lv_i2l (v := r1.1.toInt64) hx hb (kdr dgL_book_0 0 6 rfl rfl) rfl ?_
    refine va_putN (host := RL) (D := (dC, dI)) (ci := 4) (v := .long r1.1.toInt64) (ty := .long) (C := RX2) (T := TX2) (N := 2) hx hb hts hiX2 tyX2 tyX2_ok nmX2 hown hK hP hD hS 15 rfl rfl 0 (by decide) (va_Nw.use rfl (hG.at 7 rfl)) (fun _ h9 => h9) rfl (by decide +kernel) rfl rfl (Nat.le_of_ble_eq_true rfl) (kdr dgL_book_0 0 7 rfl rfl) (fun H locs hP hD hS => ?_)
    have hP : va_P (dC, dI) vwCl ((wSB cI cJ cZ a ce fr un r1.2.1 r1.2.2.1 r1.2.2.2.1 r1.2.2.2.2.1 wb we wo wc fb fe fo fc rm r1.2.2.2.2.2.1 r1.2.2.2.2.2.2 kn) ++ (wO o r1.1.toInt64 ov)) H := hP
    have hD : va_D A ((wSB cI cJ cZ a ce fr un r1.2.1 r1.2.2.1 r1.2.2.2.1 r1.2.2.2.2.1 wb we wo wc fb fe fo fc rm r1.2.2.2.2.2.1 r1.2.2.2.2.2.2 kn) ++ (wO o r1.1.toInt64 ov)) := hD
    refine lv_goto (tgt := 20) hx hb (kdr dgL_book_0 0 8 rfl rfl) (by decide) ?_
    refine lv_iconst (v := 0) hx hb (kdr dgL_book_0 1 2 rfl rfl) (by decide) ?_
    have h := Option.some.inj h
    subst h
    refine W.widen (k := 1) (n := 6) (Nat.le_of_ble_eq_true rfl) (Nat.le_of_ble_eq_true rfl) ?_
    exact kret_i (v := 0) hx hb hr rfl hlocks hS hP (kdr dgL_book_0 1 3 rfl rfl)
noncomputable abbrev wsL_unbook : List Cond := Cond.codeWith yL_unbook cL_unbook 4 (some .int) [(0, 10, 13, 19)] :: kBIG
noncomputable def f_L_unbook (sb : Nat → Int64) (se : Nat → Int64) (so : Nat → Int32) (sc : Int32) (ac : Int32) (on : Int64) (p1 : Int32) : Option ((Int32) × (Nat → Int64) × (Nat → Int64) × (Nat → Int32) × (Int32) × (Int32) × (Int64)) :=
  xb (fx_X1_unbook sc p1) (fun k1 => if k1 = 1 then
  some (1, sb, se, so, sc, ac, on)
else
  none) (
  (f_X1_unbook sb se so sc ac p1).bind fun r1 =>
  some (0, r1.2.1, r1.2.2.1, r1.2.2.2.1, r1.2.2.2.2.1, r1.2.2.2.2.2, r1.1.toInt64))
theorem f_L_unbook_e {sb : Nat → Int64} {se : Nat → Int64} {so : Nat → Int32} {sc : Int32} {ac : Int32} {on : Int64} {p1 : Int32} : f_L_unbook sb se so sc ac on p1 = 
  xb (fx_X1_unbook sc p1) (fun k1 => if k1 = 1 then
  some (1, sb, se, so, sc, ac, on)
else
  none) (
  (f_X1_unbook sb se so sc ac p1).bind fun r1 =>
  some (0, r1.2.1, r1.2.2.1, r1.2.2.2.1, r1.2.2.2.2.1, r1.2.2.2.2.2, r1.1.toInt64)) := rfl
set_option maxHeartbeats 4000000 in
set_option maxRecDepth 100000 in
theorem c_L_unbook (l : Launch) (hl9 : l.stackTraces = false) (dC : Nat → ClassId) (dI : Nat → Nat → Nat) (cB cI cJ cZ : ClassId) (a : Nat → Nat) (o : Nat) (sz : Nat) (ce : Nat → Int64) (fr : Int64) (un : Int64) (sb : Nat → Int64) (se : Nat → Int64) (so : Nat → Int32) (sc : Int32) (wb : Nat → Int64) (we : Nat → Int64) (wo : Nat → Int32) (wc : Int32) (fb : Nat → Int64) (fe : Nat → Int64) (fo : Nat → Int32) (fc : Int32) (rm : Nat → Int32) (ac : Int32) (rf : Int32) (kn : Int32) (on : Int64) (ov : Value) (p1 : Int32) (res : (Int32) × (Nat → Int64) × (Nat → Int64) × (Nat → Int32) × (Int32) × (Int32) × (Int64)) (hf : f_L_unbook sb se so sc ac on p1 = some res) : kMw l yL_unbook wsL_unbook (kRm 8 1 6 132) dC dI cB cI cJ cZ [.ref (a 0), .int p1, .ref o] sz ((wSB cI cJ cZ a ce fr un sb se so sc wb we wo wc fb fe fo fc rm ac rf kn) ++ (wO o on ov)) .int (res.1) ((wSB cI cJ cZ a ce fr un (res.2.1) (res.2.2.1) (res.2.2.2.1) (res.2.2.2.2.1) wb we wo wc fb fe fo fc rm (res.2.2.2.2.2.1) rf kn) ++ (wO o (res.2.2.2.2.2.2) ov)) 1 6 := by
  refine kmet_w (y := yL_unbook) (cc := cL_unbook) (maxL := 4) (ret := (some .int)) (hh := [(0, 10, 13, 19)]) RL (kvA 0 (a 0) (kvI 1 p1 (kvA 2 o kvE))) kpl_L rfl rfl (Nat.le_of_ble_eq_true rfl) rfl (fun p e s m below meth c A ls hx hb hr hml hht hts hown hlocks hP hK hG hZ hD hA hS hl => ?_)
  have hw0 := hts (.classLink RL 19 "java/lang/IndexOutOfBoundsException") (List.mem_cons_of_mem _ kw_467)
  have hiX2 : ∀ w ∈ u_ws RX2 TX2 2, w ∈ wsL_unbook := fun w h => List.mem_cons_of_mem _ (ku_X2 w h)
  have h := f_L_unbook_e.symm.trans hf
  refine lv_aload_n hx hb (kdr dgL_unbook_0 0 0 rfl rfl) rfl (lv_at hl 2 rfl) ?_
  refine lv_aload_n hx hb (kdr dgL_unbook_0 0 1 rfl rfl) rfl (lv_at hl 0 rfl) ?_
  refine lv_iload_n hx hb (kdr dgL_unbook_0 0 2 rfl rfl) rfl (lv_at hl 1 rfl) ?_
  rcases g_x h with ⟨k1, j1, h⟩ | ⟨-, h⟩
  · refine kq_xh ((wSB cI cJ cZ a ce fr un sb se so sc wb we wo wc fb fe fo fc rm ac rf kn) ++ (wO o on ov)) (fun qP qD qF => vx_runV (As := [.int p1]) (rest := [.ref o]) ⟨hx, hb, hml, hown, hts⟩ (x_X1_unbook l hl9 dC dI cB cI cJ cZ a _ ce fr un sb se so sc wb we wo wc fb fe fo fc rm ac rf kn p1 k1 j1) (kcwV hts kw_588 kv_X1_unbook rfl rfl ⟨(Nat.le_of_ble_eq_true rfl), (Nat.le_of_ble_eq_true rfl)⟩) (kpVXq (A := A) qP hK qD hG hZ hS qF (krecv_3 (q0 := 0) hK hP rfl)) rfl rfl hl.1 rfl (lv_room (Nat.le_of_ble_eq_true rfl)) (kdr dgL_unbook_0 0 3 rfl rfl) ⟨(Nat.le_of_ble_eq_true rfl), (Nat.le_of_ble_eq_true rfl)⟩) hP hD hS hA (kFr_l kFr_SB) (fun q9 ceQ H locs hP hD hS hce hcv hcl => ?_)
    by_cases e9 : k1 = 1
    · have h := g_t e9 h
      rw [kEx_1 e9] at hcl
      refine vx_catch (E := "java/lang/IndexOutOfBoundsException") (name := "java/lang/IndexOutOfBoundsException") (own := RL) hown [] ⟨0, 10, 13, 19⟩ [] hht (fun z hz => by cases hz) (by decide) (by decide) hw0 (va_Nw.use rfl (hG.at 4 rfl)) hce hcv hcl ?_
      refine lv_astore_n (lv' := (kvA 3 q9 (kvA 0 (a 0) (kvI 1 p1 (kvA 2 o kvE))))) hx hb (kdr dgL_unbook_0 0 7 rfl rfl) rfl hl (by decide) rfl (fun ls hl => ?_)
      refine lv_iconst (v := 1) hx hb (kdr dgL_unbook_0 0 8 rfl rfl) (by decide) ?_
      have h := Option.some.inj h
      subst h
      refine W.widen (k := 1) (n := 6) (Nat.le_of_ble_eq_true rfl) (Nat.le_of_ble_eq_true rfl) ?_
      exact kret_i (v := 1) hx hb hr rfl hlocks hS hP (kdr dgL_unbook_0 0 9 rfl rfl)
    · have h := g_f e9 h
      rw [kEx_2 e9] at hcl
      cases h
  · obtain ⟨r1, g1, h⟩ := g_b h
    refine kq_i ((wSB cI cJ cZ a ce fr un r1.2.1 r1.2.2.1 r1.2.2.2.1 r1.2.2.2.2.1 wb we wo wc fb fe fo fc rm r1.2.2.2.2.2 rf kn) ++ (wO o on ov)) (fun qP qD qF => va_runV (As := [.int p1]) (rest := [.ref o]) ⟨hx, hb, hml, hown, hts⟩ (c_X1_unbook l dC dI cB cI cJ cZ a _ ce fr un sb se so sc wb we wo wc fb fe fo fc rm ac rf kn p1 r1 g1) (kcwV hts kw_588 kv_X1_unbook rfl rfl ⟨(Nat.le_of_ble_eq_true rfl), (Nat.le_of_ble_eq_true rfl)⟩) (kpV (A := A) qP hK qD hG (krecv_3 (q0 := 0) hK hP rfl)) rfl rfl hl.1 rfl (lv_room (Nat.le_of_ble_eq_true rfl)) (kdr dgL_unbook_0 0 3 rfl rfl) ⟨(Nat.le_of_ble_eq_true rfl), (Nat.le_of_ble_eq_true rfl)⟩) hP hD hS hA (kFr_l kFr_SB) (fun H locs hP hD hS br1 => ?_)
    refine lv_i2l (v := r1.1.toInt64) hx hb (kdr dgL_unbook_0 0 4 rfl rfl) rfl ?_
    refine va_putN (host := RL) (D := (dC, dI)) (ci := 4) (v := .long r1.1.toInt64) (ty := .long) (C := RX2) (T := TX2) (N := 2) hx hb hts hiX2 tyX2 tyX2_ok nmX2 hown hK hP hD hS 15 rfl rfl 0 (by decide) (va_Nw.use rfl (hG.at 7 rfl)) (fun _ h9 => h9) rfl (by decide +kernel) rfl rfl (Nat.le_of_ble_eq_true rfl) (kdr dgL_unbook_0 0 5 rfl rfl) (fun H locs hP hD hS => ?_)
    have hP : va_P (dC, dI) vwCl ((wSB cI cJ cZ a ce fr un r1.2.1 r1.2.2.1 r1.2.2.2.1 r1.2.2.2.2.1 wb we wo wc fb fe fo fc rm r1.2.2.2.2.2 rf kn) ++ (wO o r1.1.toInt64 ov)) H := hP
    have hD : va_D A ((wSB cI cJ cZ a ce fr un r1.2.1 r1.2.2.1 r1.2.2.2.1 r1.2.2.2.2.1 wb we wo wc fb fe fo fc rm r1.2.2.2.2.2 rf kn) ++ (wO o r1.1.toInt64 ov)) := hD
    refine lv_goto (tgt := 16) hx hb (kdr dgL_unbook_0 0 6 rfl rfl) (by decide) ?_
    refine lv_iconst (v := 0) hx hb (kdr dgL_unbook_0 1 0 rfl rfl) (by decide) ?_
    have h := Option.some.inj h
    subst h
    refine W.widen (k := 1) (n := 6) (Nat.le_of_ble_eq_true rfl) (Nat.le_of_ble_eq_true rfl) ?_
    exact kret_i (v := 0) hx hb hr rfl hlocks hS hP (kdr dgL_unbook_0 1 1 rfl rfl)
noncomputable abbrev wsL_move : List Cond := Cond.codeWith yL_move cL_move 6 (some .int) [(0, 13, 16, 19), (0, 13, 20, 21)] :: kBIG
noncomputable def f_L_move (fr : Int64) (un : Int64) (sb : Nat → Int64) (se : Nat → Int64) (sc : Int32) (ac : Int32) (rf : Int32) (on : Int64) (p1 : Int32) (p2 : Int32) (p3 : Int32) : Option ((Int32) × (Nat → Int64) × (Nat → Int64) × (Int32) × (Int32) × (Int64)) :=
  xb (fx_X1_move sc p1 p2 p3) (fun k1 => if k1 = 1 then
  some (1, sb, se, ac, rf, on)
else
  some (2, sb, se, ac, rf, on)) (
  (f_X1_move fr un sb se sc ac rf p1 p2 p3).bind fun r1 =>
  some (0, r1.2.1, r1.2.2.1, r1.2.2.2.1, r1.2.2.2.2, r1.1.toInt64))
theorem f_L_move_e {fr : Int64} {un : Int64} {sb : Nat → Int64} {se : Nat → Int64} {sc : Int32} {ac : Int32} {rf : Int32} {on : Int64} {p1 : Int32} {p2 : Int32} {p3 : Int32} : f_L_move fr un sb se sc ac rf on p1 p2 p3 = 
  xb (fx_X1_move sc p1 p2 p3) (fun k1 => if k1 = 1 then
  some (1, sb, se, ac, rf, on)
else
  some (2, sb, se, ac, rf, on)) (
  (f_X1_move fr un sb se sc ac rf p1 p2 p3).bind fun r1 =>
  some (0, r1.2.1, r1.2.2.1, r1.2.2.2.1, r1.2.2.2.2, r1.1.toInt64)) := rfl
set_option maxHeartbeats 4000000 in
set_option maxRecDepth 100000 in
theorem c_L_move (l : Launch) (hl9 : l.stackTraces = false) (dC : Nat → ClassId) (dI : Nat → Nat → Nat) (cB cI cJ cZ : ClassId) (a : Nat → Nat) (o : Nat) (sz : Nat) (ce : Nat → Int64) (fr : Int64) (un : Int64) (sb : Nat → Int64) (se : Nat → Int64) (so : Nat → Int32) (sc : Int32) (wb : Nat → Int64) (we : Nat → Int64) (wo : Nat → Int32) (wc : Int32) (fb : Nat → Int64) (fe : Nat → Int64) (fo : Nat → Int32) (fc : Int32) (rm : Nat → Int32) (ac : Int32) (rf : Int32) (kn : Int32) (on : Int64) (ov : Value) (p1 : Int32) (p2 : Int32) (p3 : Int32) (res : (Int32) × (Nat → Int64) × (Nat → Int64) × (Int32) × (Int32) × (Int64)) (hf : f_L_move fr un sb se sc ac rf on p1 p2 p3 = some res) : kMw l yL_move wsL_move (kRm 9 1 6 157) dC dI cB cI cJ cZ [.ref (a 0), .int p1, .int p2, .int p3, .ref o] sz ((wSB cI cJ cZ a ce fr un sb se so sc wb we wo wc fb fe fo fc rm ac rf kn) ++ (wO o on ov)) .int (res.1) ((wSB cI cJ cZ a ce fr un (res.2.1) (res.2.2.1) so sc wb we wo wc fb fe fo fc rm (res.2.2.2.1) (res.2.2.2.2.1) kn) ++ (wO o (res.2.2.2.2.2) ov)) 1 6 := by
  refine kmet_w (y := yL_move) (cc := cL_move) (maxL := 6) (ret := (some .int)) (hh := [(0, 13, 16, 19), (0, 13, 20, 21)]) RL (kvA 0 (a 0) (kvI 1 p1 (kvI 2 p2 (kvI 3 p3 (kvA 4 o kvE))))) kpl_L rfl rfl (Nat.le_of_ble_eq_true rfl) rfl (fun p e s m below meth c A ls hx hb hr hml hht hts hown hlocks hP hK hG hZ hD hA hS hl => ?_)
  have hw0 := hts (.classLink RL 19 "java/lang/IndexOutOfBoundsException") (List.mem_cons_of_mem _ kw_467)
  have hw1 := hts (.classLink RL 21 "java/lang/IllegalArgumentException") (List.mem_cons_of_mem _ kw_468)
  have hiX2 : ∀ w ∈ u_ws RX2 TX2 2, w ∈ wsL_move := fun w h => List.mem_cons_of_mem _ (ku_X2 w h)
  have h := f_L_move_e.symm.trans hf
  refine lv_aload hx hb (kdr dgL_move_0 0 0 rfl rfl) (lv_at hl 4 rfl) ?_
  refine lv_aload_n hx hb (kdr dgL_move_0 0 1 rfl rfl) rfl (lv_at hl 0 rfl) ?_
  refine lv_iload_n hx hb (kdr dgL_move_0 0 2 rfl rfl) rfl (lv_at hl 1 rfl) ?_
  refine lv_iload_n hx hb (kdr dgL_move_0 0 3 rfl rfl) rfl (lv_at hl 2 rfl) ?_
  refine lv_iload_n hx hb (kdr dgL_move_0 0 4 rfl rfl) rfl (lv_at hl 3 rfl) ?_
  rcases g_x h with ⟨k1, j1, h⟩ | ⟨-, h⟩
  · refine kq_xh ((wSB cI cJ cZ a ce fr un sb se so sc wb we wo wc fb fe fo fc rm ac rf kn) ++ (wO o on ov)) (fun qP qD qF => vx_runV (As := [.int p1, .int p2, .int p3]) (rest := [.ref o]) ⟨hx, hb, hml, hown, hts⟩ (x_X1_move l hl9 dC dI cB cI cJ cZ a _ ce fr un sb se so sc wb we wo wc fb fe fo fc rm ac rf kn p1 p2 p3 k1 j1) (kcwV hts kw_603 kv_X1_move rfl rfl ⟨(Nat.le_of_ble_eq_true rfl), (Nat.le_of_ble_eq_true rfl)⟩) (kpVXq (A := A) qP hK qD hG hZ hS qF (krecv_3 (q0 := 0) hK hP rfl)) rfl rfl hl.1 rfl (lv_room (Nat.le_of_ble_eq_true rfl)) (kdr dgL_move_0 0 5 rfl rfl) ⟨(Nat.le_of_ble_eq_true rfl), (Nat.le_of_ble_eq_true rfl)⟩) hP hD hS hA (kFr_l kFr_SB) (fun q9 ceQ H locs hP hD hS hce hcv hcl => ?_)
    by_cases e9 : k1 = 1
    · have h := g_t e9 h
      rw [kEx_1 e9] at hcl
      refine vx_catch (E := "java/lang/IndexOutOfBoundsException") (name := "java/lang/IndexOutOfBoundsException") (own := RL) hown [] ⟨0, 13, 16, 19⟩ [⟨0, 13, 20, 21⟩] hht (fun z hz => by cases hz) (by decide) (by decide) hw0 (va_Nw.use rfl (hG.at 4 rfl)) hce hcv hcl ?_
      refine lv_astore (lv' := (kvA 5 q9 (kvA 0 (a 0) (kvI 1 p1 (kvI 2 p2 (kvI 3 p3 (kvA 4 o kvE))))))) hx hb (kdr dgL_move_0 0 9 rfl rfl) hl (by decide) rfl (fun ls hl => ?_)
      refine lv_iconst (v := 1) hx hb (kdr dgL_move_0 1 0 rfl rfl) (by decide) ?_
      have h := Option.some.inj h
      subst h
      refine W.widen (k := 1) (n := 6) (Nat.le_of_ble_eq_true rfl) (Nat.le_of_ble_eq_true rfl) ?_
      exact kret_i (v := 1) hx hb hr rfl hlocks hS hP (kdr dgL_move_0 1 1 rfl rfl)
    · have h := g_f e9 h
      rw [kEx_2 e9] at hcl
      refine vx_catch (E := "java/lang/IllegalArgumentException") (name := "java/lang/IllegalArgumentException") (own := RL) hown [⟨0, 13, 16, 19⟩] ⟨0, 13, 20, 21⟩ [] hht (fun z hz => by rcases List.mem_singleton.mp hz with rfl; exact Or.inr ⟨by decide, _, hw0, hG.2⟩) (by decide) (by decide) hw1 (va_Nw.use rfl (hG.at 5 rfl)) hce hcv hcl ?_
      refine lv_astore (lv' := (kvA 5 q9 (kvA 0 (a 0) (kvI 1 p1 (kvI 2 p2 (kvI 3 p3 (kvA 4 o kvE))))))) hx hb (kdr dgL_move_0 1 2 rfl rfl) hl (by decide) rfl (fun ls hl => ?_)
      refine lv_iconst (v := 2) hx hb (kdr dgL_move_0 1 3 rfl rfl) (by decide) ?_
      have h := Option.some.inj h
      subst h
      refine W.widen (k := 1) (n := 6) (Nat.le_of_ble_eq_true rfl) (Nat.le_of_ble_eq_true rfl) ?_
      exact kret_i (v := 2) hx hb hr rfl hlocks hS hP (kdr dgL_move_0 1 4 rfl rfl)
  · obtain ⟨r1, g1, h⟩ := g_b h
    refine kq_i ((wSB cI cJ cZ a ce fr un r1.2.1 r1.2.2.1 so sc wb we wo wc fb fe fo fc rm r1.2.2.2.1 r1.2.2.2.2 kn) ++ (wO o on ov)) (fun qP qD qF => va_runV (As := [.int p1, .int p2, .int p3]) (rest := [.ref o]) ⟨hx, hb, hml, hown, hts⟩ (c_X1_move l dC dI cB cI cJ cZ a _ ce fr un sb se so sc wb we wo wc fb fe fo fc rm ac rf kn p1 p2 p3 r1 g1) (kcwV hts kw_603 kv_X1_move rfl rfl ⟨(Nat.le_of_ble_eq_true rfl), (Nat.le_of_ble_eq_true rfl)⟩) (kpV (A := A) qP hK qD hG (krecv_3 (q0 := 0) hK hP rfl)) rfl rfl hl.1 rfl (lv_room (Nat.le_of_ble_eq_true rfl)) (kdr dgL_move_0 0 5 rfl rfl) ⟨(Nat.le_of_ble_eq_true rfl), (Nat.le_of_ble_eq_true rfl)⟩) hP hD hS hA (kFr_l kFr_SB) (fun H locs hP hD hS br1 => ?_)
    refine lv_i2l (v := r1.1.toInt64) hx hb (kdr dgL_move_0 0 6 rfl rfl) rfl ?_
    refine va_putN (host := RL) (D := (dC, dI)) (ci := 4) (v := .long r1.1.toInt64) (ty := .long) (C := RX2) (T := TX2) (N := 2) hx hb hts hiX2 tyX2 tyX2_ok nmX2 hown hK hP hD hS 15 rfl rfl 0 (by decide) (va_Nw.use rfl (hG.at 7 rfl)) (fun _ h9 => h9) rfl (by decide +kernel) rfl rfl (Nat.le_of_ble_eq_true rfl) (kdr dgL_move_0 0 7 rfl rfl) (fun H locs hP hD hS => ?_)
    have hP : va_P (dC, dI) vwCl ((wSB cI cJ cZ a ce fr un r1.2.1 r1.2.2.1 so sc wb we wo wc fb fe fo fc rm r1.2.2.2.1 r1.2.2.2.2 kn) ++ (wO o r1.1.toInt64 ov)) H := hP
    have hD : va_D A ((wSB cI cJ cZ a ce fr un r1.2.1 r1.2.2.1 so sc wb we wo wc fb fe fo fc rm r1.2.2.2.1 r1.2.2.2.2 kn) ++ (wO o r1.1.toInt64 ov)) := hD
    refine lv_goto (tgt := 24) hx hb (kdr dgL_move_0 0 8 rfl rfl) (by decide) ?_
    refine lv_iconst (v := 0) hx hb (kdr dgL_move_0 1 5 rfl rfl) (by decide) ?_
    have h := Option.some.inj h
    subst h
    refine W.widen (k := 1) (n := 6) (Nat.le_of_ble_eq_true rfl) (Nat.le_of_ble_eq_true rfl) ?_
    exact kret_i (v := 0) hx hb hr rfl hlocks hS hP (kdr dgL_move_0 1 6 rfl rfl)
noncomputable abbrev wsL_stretch : List Cond := Cond.codeWith yL_stretch cL_stretch 6 (some .int) [(0, 13, 16, 19), (0, 13, 20, 21)] :: kBIG
noncomputable def f_L_stretch (fr : Int64) (un : Int64) (sb : Nat → Int64) (se : Nat → Int64) (sc : Int32) (ac : Int32) (rf : Int32) (on : Int64) (p1 : Int32) (p2 : Int32) (p3 : Int32) : Option ((Int32) × (Nat → Int64) × (Nat → Int64) × (Int32) × (Int32) × (Int64)) :=
  xb (fx_X1_stretch sc p1 p2 p3) (fun k1 => if k1 = 1 then
  some (1, sb, se, ac, rf, on)
else
  some (2, sb, se, ac, rf, on)) (
  (f_X1_stretch fr un sb se sc ac rf p1 p2 p3).bind fun r1 =>
  some (0, r1.2.1, r1.2.2.1, r1.2.2.2.1, r1.2.2.2.2, r1.1.toInt64))
theorem f_L_stretch_e {fr : Int64} {un : Int64} {sb : Nat → Int64} {se : Nat → Int64} {sc : Int32} {ac : Int32} {rf : Int32} {on : Int64} {p1 : Int32} {p2 : Int32} {p3 : Int32} : f_L_stretch fr un sb se sc ac rf on p1 p2 p3 = 
  xb (fx_X1_stretch sc p1 p2 p3) (fun k1 => if k1 = 1 then
  some (1, sb, se, ac, rf, on)
else
  some (2, sb, se, ac, rf, on)) (
  (f_X1_stretch fr un sb se sc ac rf p1 p2 p3).bind fun r1 =>
  some (0, r1.2.1, r1.2.2.1, r1.2.2.2.1, r1.2.2.2.2, r1.1.toInt64)) := rfl
set_option maxHeartbeats 4000000 in
set_option maxRecDepth 100000 in
theorem c_L_stretch (l : Launch) (hl9 : l.stackTraces = false) (dC : Nat → ClassId) (dI : Nat → Nat → Nat) (cB cI cJ cZ : ClassId) (a : Nat → Nat) (o : Nat) (sz : Nat) (ce : Nat → Int64) (fr : Int64) (un : Int64) (sb : Nat → Int64) (se : Nat → Int64) (so : Nat → Int32) (sc : Int32) (wb : Nat → Int64) (we : Nat → Int64) (wo : Nat → Int32) (wc : Int32) (fb : Nat → Int64) (fe : Nat → Int64) (fo : Nat → Int32) (fc : Int32) (rm : Nat → Int32) (ac : Int32) (rf : Int32) (kn : Int32) (on : Int64) (ov : Value) (p1 : Int32) (p2 : Int32) (p3 : Int32) (res : (Int32) × (Nat → Int64) × (Nat → Int64) × (Int32) × (Int32) × (Int64)) (hf : f_L_stretch fr un sb se sc ac rf on p1 p2 p3 = some res) : kMw l yL_stretch wsL_stretch (kRm 9 1 6 155) dC dI cB cI cJ cZ [.ref (a 0), .int p1, .int p2, .int p3, .ref o] sz ((wSB cI cJ cZ a ce fr un sb se so sc wb we wo wc fb fe fo fc rm ac rf kn) ++ (wO o on ov)) .int (res.1) ((wSB cI cJ cZ a ce fr un (res.2.1) (res.2.2.1) so sc wb we wo wc fb fe fo fc rm (res.2.2.2.1) (res.2.2.2.2.1) kn) ++ (wO o (res.2.2.2.2.2) ov)) 1 6 := by
  refine kmet_w (y := yL_stretch) (cc := cL_stretch) (maxL := 6) (ret := (some .int)) (hh := [(0, 13, 16, 19), (0, 13, 20, 21)]) RL (kvA 0 (a 0) (kvI 1 p1 (kvI 2 p2 (kvI 3 p3 (kvA 4 o kvE))))) kpl_L rfl rfl (Nat.le_of_ble_eq_true rfl) rfl (fun p e s m below meth c A ls hx hb hr hml hht hts hown hlocks hP hK hG hZ hD hA hS hl => ?_)
  have hw0 := hts (.classLink RL 19 "java/lang/IndexOutOfBoundsException") (List.mem_cons_of_mem _ kw_467)
  have hw1 := hts (.classLink RL 21 "java/lang/IllegalArgumentException") (List.mem_cons_of_mem _ kw_468)
  have hiX2 : ∀ w ∈ u_ws RX2 TX2 2, w ∈ wsL_stretch := fun w h => List.mem_cons_of_mem _ (ku_X2 w h)
  have h := f_L_stretch_e.symm.trans hf
  refine lv_aload hx hb (kdr dgL_stretch_0 0 0 rfl rfl) (lv_at hl 4 rfl) ?_
  refine lv_aload_n hx hb (kdr dgL_stretch_0 0 1 rfl rfl) rfl (lv_at hl 0 rfl) ?_
  refine lv_iload_n hx hb (kdr dgL_stretch_0 0 2 rfl rfl) rfl (lv_at hl 1 rfl) ?_
  refine lv_iload_n hx hb (kdr dgL_stretch_0 0 3 rfl rfl) rfl (lv_at hl 2 rfl) ?_
  refine lv_iload_n hx hb (kdr dgL_stretch_0 0 4 rfl rfl) rfl (lv_at hl 3 rfl) ?_
  rcases g_x h with ⟨k1, j1, h⟩ | ⟨-, h⟩
  · refine kq_xh ((wSB cI cJ cZ a ce fr un sb se so sc wb we wo wc fb fe fo fc rm ac rf kn) ++ (wO o on ov)) (fun qP qD qF => vx_runV (As := [.int p1, .int p2, .int p3]) (rest := [.ref o]) ⟨hx, hb, hml, hown, hts⟩ (x_X1_stretch l hl9 dC dI cB cI cJ cZ a _ ce fr un sb se so sc wb we wo wc fb fe fo fc rm ac rf kn p1 p2 p3 k1 j1) (kcwV hts kw_622 kv_X1_stretch rfl rfl ⟨(Nat.le_of_ble_eq_true rfl), (Nat.le_of_ble_eq_true rfl)⟩) (kpVXq (A := A) qP hK qD hG hZ hS qF (krecv_3 (q0 := 0) hK hP rfl)) rfl rfl hl.1 rfl (lv_room (Nat.le_of_ble_eq_true rfl)) (kdr dgL_stretch_0 0 5 rfl rfl) ⟨(Nat.le_of_ble_eq_true rfl), (Nat.le_of_ble_eq_true rfl)⟩) hP hD hS hA (kFr_l kFr_SB) (fun q9 ceQ H locs hP hD hS hce hcv hcl => ?_)
    by_cases e9 : k1 = 1
    · have h := g_t e9 h
      rw [kEx_1 e9] at hcl
      refine vx_catch (E := "java/lang/IndexOutOfBoundsException") (name := "java/lang/IndexOutOfBoundsException") (own := RL) hown [] ⟨0, 13, 16, 19⟩ [⟨0, 13, 20, 21⟩] hht (fun z hz => by cases hz) (by decide) (by decide) hw0 (va_Nw.use rfl (hG.at 4 rfl)) hce hcv hcl ?_
      refine lv_astore (lv' := (kvA 5 q9 (kvA 0 (a 0) (kvI 1 p1 (kvI 2 p2 (kvI 3 p3 (kvA 4 o kvE))))))) hx hb (kdr dgL_stretch_0 0 9 rfl rfl) hl (by decide) rfl (fun ls hl => ?_)
      refine lv_iconst (v := 1) hx hb (kdr dgL_stretch_0 1 0 rfl rfl) (by decide) ?_
      have h := Option.some.inj h
      subst h
      refine W.widen (k := 1) (n := 6) (Nat.le_of_ble_eq_true rfl) (Nat.le_of_ble_eq_true rfl) ?_
      exact kret_i (v := 1) hx hb hr rfl hlocks hS hP (kdr dgL_stretch_0 1 1 rfl rfl)
    · have h := g_f e9 h
      rw [kEx_2 e9] at hcl
      refine vx_catch (E := "java/lang/IllegalArgumentException") (name := "java/lang/IllegalArgumentException") (own := RL) hown [⟨0, 13, 16, 19⟩] ⟨0, 13, 20, 21⟩ [] hht (fun z hz => by rcases List.mem_singleton.mp hz with rfl; exact Or.inr ⟨by decide, _, hw0, hG.2⟩) (by decide) (by decide) hw1 (va_Nw.use rfl (hG.at 5 rfl)) hce hcv hcl ?_
      refine lv_astore (lv' := (kvA 5 q9 (kvA 0 (a 0) (kvI 1 p1 (kvI 2 p2 (kvI 3 p3 (kvA 4 o kvE))))))) hx hb (kdr dgL_stretch_0 1 2 rfl rfl) hl (by decide) rfl (fun ls hl => ?_)
      refine lv_iconst (v := 2) hx hb (kdr dgL_stretch_0 1 3 rfl rfl) (by decide) ?_
      have h := Option.some.inj h
      subst h
      refine W.widen (k := 1) (n := 6) (Nat.le_of_ble_eq_true rfl) (Nat.le_of_ble_eq_true rfl) ?_
      exact kret_i (v := 2) hx hb hr rfl hlocks hS hP (kdr dgL_stretch_0 1 4 rfl rfl)
  · obtain ⟨r1, g1, h⟩ := g_b h
    refine kq_i ((wSB cI cJ cZ a ce fr un r1.2.1 r1.2.2.1 so sc wb we wo wc fb fe fo fc rm r1.2.2.2.1 r1.2.2.2.2 kn) ++ (wO o on ov)) (fun qP qD qF => va_runV (As := [.int p1, .int p2, .int p3]) (rest := [.ref o]) ⟨hx, hb, hml, hown, hts⟩ (c_X1_stretch l dC dI cB cI cJ cZ a _ ce fr un sb se so sc wb we wo wc fb fe fo fc rm ac rf kn p1 p2 p3 r1 g1) (kcwV hts kw_622 kv_X1_stretch rfl rfl ⟨(Nat.le_of_ble_eq_true rfl), (Nat.le_of_ble_eq_true rfl)⟩) (kpV (A := A) qP hK qD hG (krecv_3 (q0 := 0) hK hP rfl)) rfl rfl hl.1 rfl (lv_room (Nat.le_of_ble_eq_true rfl)) (kdr dgL_stretch_0 0 5 rfl rfl) ⟨(Nat.le_of_ble_eq_true rfl), (Nat.le_of_ble_eq_true rfl)⟩) hP hD hS hA (kFr_l kFr_SB) (fun H locs hP hD hS br1 => ?_)
    refine lv_i2l (v := r1.1.toInt64) hx hb (kdr dgL_stretch_0 0 6 rfl rfl) rfl ?_
    refine va_putN (host := RL) (D := (dC, dI)) (ci := 4) (v := .long r1.1.toInt64) (ty := .long) (C := RX2) (T := TX2) (N := 2) hx hb hts hiX2 tyX2 tyX2_ok nmX2 hown hK hP hD hS 15 rfl rfl 0 (by decide) (va_Nw.use rfl (hG.at 7 rfl)) (fun _ h9 => h9) rfl (by decide +kernel) rfl rfl (Nat.le_of_ble_eq_true rfl) (kdr dgL_stretch_0 0 7 rfl rfl) (fun H locs hP hD hS => ?_)
    have hP : va_P (dC, dI) vwCl ((wSB cI cJ cZ a ce fr un r1.2.1 r1.2.2.1 so sc wb we wo wc fb fe fo fc rm r1.2.2.2.1 r1.2.2.2.2 kn) ++ (wO o r1.1.toInt64 ov)) H := hP
    have hD : va_D A ((wSB cI cJ cZ a ce fr un r1.2.1 r1.2.2.1 so sc wb we wo wc fb fe fo fc rm r1.2.2.2.1 r1.2.2.2.2 kn) ++ (wO o r1.1.toInt64 ov)) := hD
    refine lv_goto (tgt := 24) hx hb (kdr dgL_stretch_0 0 8 rfl rfl) (by decide) ?_
    refine lv_iconst (v := 0) hx hb (kdr dgL_stretch_0 1 5 rfl rfl) (by decide) ?_
    have h := Option.some.inj h
    subst h
    refine W.widen (k := 1) (n := 6) (Nat.le_of_ble_eq_true rfl) (Nat.le_of_ble_eq_true rfl) ?_
    exact kret_i (v := 0) hx hb hr rfl hlocks hS hP (kdr dgL_stretch_0 1 6 rfl rfl)
noncomputable abbrev wsL_fit : List Cond := Cond.codeWith yL_fit cL_fit 7 (some .int) [(0, 15, 18, 19), (0, 15, 22, 21)] :: kBIG
noncomputable def f_L_fit (ce : Nat → Int64) (fr : Int64) (un : Int64) (sb : Nat → Int64) (se : Nat → Int64) (sc : Int32) (ac : Int32) (rf : Int32) (on : Int64) (p1 : Int32) (p2 : Int32) (p3 : Int32) (p4 : Int32) : Option ((Int32) × (Nat → Int64) × (Int32) × (Int32) × (Int64)) :=
  xb (fx_X1_fit p1 p2 p3 p4) (fun k1 => if k1 = 1 then
  some (1, ce, ac, rf, on)
else
  some (2, ce, ac, rf, on)) (
  (f_X1_fit ce fr un sb se sc ac rf p1 p2 p3 p4).bind fun r1 =>
  some (0, r1.2.1, r1.2.2.1, r1.2.2.2, r1.1.toInt64))
theorem f_L_fit_e {ce : Nat → Int64} {fr : Int64} {un : Int64} {sb : Nat → Int64} {se : Nat → Int64} {sc : Int32} {ac : Int32} {rf : Int32} {on : Int64} {p1 : Int32} {p2 : Int32} {p3 : Int32} {p4 : Int32} : f_L_fit ce fr un sb se sc ac rf on p1 p2 p3 p4 = 
  xb (fx_X1_fit p1 p2 p3 p4) (fun k1 => if k1 = 1 then
  some (1, ce, ac, rf, on)
else
  some (2, ce, ac, rf, on)) (
  (f_X1_fit ce fr un sb se sc ac rf p1 p2 p3 p4).bind fun r1 =>
  some (0, r1.2.1, r1.2.2.1, r1.2.2.2, r1.1.toInt64)) := rfl
set_option maxHeartbeats 4000000 in
set_option maxRecDepth 100000 in
theorem c_L_fit (l : Launch) (hl9 : l.stackTraces = false) (dC : Nat → ClassId) (dI : Nat → Nat → Nat) (cB cI cJ cZ : ClassId) (a : Nat → Nat) (o : Nat) (sz : Nat) (ce : Nat → Int64) (fr : Int64) (un : Int64) (sb : Nat → Int64) (se : Nat → Int64) (so : Nat → Int32) (sc : Int32) (wb : Nat → Int64) (we : Nat → Int64) (wo : Nat → Int32) (wc : Int32) (fb : Nat → Int64) (fe : Nat → Int64) (fo : Nat → Int32) (fc : Int32) (rm : Nat → Int32) (ac : Int32) (rf : Int32) (kn : Int32) (on : Int64) (ov : Value) (p1 : Int32) (p2 : Int32) (p3 : Int32) (p4 : Int32) (res : (Int32) × (Nat → Int64) × (Int32) × (Int32) × (Int64)) (hf : f_L_fit ce fr un sb se sc ac rf on p1 p2 p3 p4 = some res) : kMw l yL_fit wsL_fit (kRm 9 1 6 160) dC dI cB cI cJ cZ [.ref (a 0), .int p1, .int p2, .int p3, .int p4, .ref o] sz ((wSB cI cJ cZ a ce fr un sb se so sc wb we wo wc fb fe fo fc rm ac rf kn) ++ (wO o on ov)) .int (res.1) ((wSB cI cJ cZ a (res.2.1) fr un sb se so sc wb we wo wc fb fe fo fc rm (res.2.2.1) (res.2.2.2.1) kn) ++ (wO o (res.2.2.2.2) ov)) 1 6 := by
  refine kmet_w (y := yL_fit) (cc := cL_fit) (maxL := 7) (ret := (some .int)) (hh := [(0, 15, 18, 19), (0, 15, 22, 21)]) RL (kvA 0 (a 0) (kvI 1 p1 (kvI 2 p2 (kvI 3 p3 (kvI 4 p4 (kvA 5 o kvE)))))) kpl_L rfl rfl (Nat.le_of_ble_eq_true rfl) rfl (fun p e s m below meth c A ls hx hb hr hml hht hts hown hlocks hP hK hG hZ hD hA hS hl => ?_)
  have hw0 := hts (.classLink RL 19 "java/lang/IndexOutOfBoundsException") (List.mem_cons_of_mem _ kw_467)
  have hw1 := hts (.classLink RL 21 "java/lang/IllegalArgumentException") (List.mem_cons_of_mem _ kw_468)
  have hiX2 : ∀ w ∈ u_ws RX2 TX2 2, w ∈ wsL_fit := fun w h => List.mem_cons_of_mem _ (ku_X2 w h)
  have h := f_L_fit_e.symm.trans hf
  refine lv_aload hx hb (kdr dgL_fit_0 0 0 rfl rfl) (lv_at hl 5 rfl) ?_
  refine lv_aload_n hx hb (kdr dgL_fit_0 0 1 rfl rfl) rfl (lv_at hl 0 rfl) ?_
  refine lv_iload_n hx hb (kdr dgL_fit_0 0 2 rfl rfl) rfl (lv_at hl 1 rfl) ?_
  refine lv_iload_n hx hb (kdr dgL_fit_0 0 3 rfl rfl) rfl (lv_at hl 2 rfl) ?_
  refine lv_iload_n hx hb (kdr dgL_fit_0 0 4 rfl rfl) rfl (lv_at hl 3 rfl) ?_
  refine lv_iload hx hb (kdr dgL_fit_0 0 5 rfl rfl) (lv_at hl 4 rfl) ?_
  rcases g_x h with ⟨k1, j1, h⟩ | ⟨-, h⟩
  · refine kq_xh ((wSB cI cJ cZ a ce fr un sb se so sc wb we wo wc fb fe fo fc rm ac rf kn) ++ (wO o on ov)) (fun qP qD qF => vx_runV (As := [.int p1, .int p2, .int p3, .int p4]) (rest := [.ref o]) ⟨hx, hb, hml, hown, hts⟩ (x_X1_fit l hl9 dC dI cB cI cJ cZ a _ ce fr un sb se so sc wb we wo wc fb fe fo fc rm ac rf kn p1 p2 p3 p4 k1 j1) (kcwV hts kw_633 kv_X1_fit rfl rfl ⟨(Nat.le_of_ble_eq_true rfl), (Nat.le_of_ble_eq_true rfl)⟩) (kpVXq (A := A) qP hK qD hG hZ hS qF (krecv_3 (q0 := 0) hK hP rfl)) rfl rfl hl.1 rfl (lv_room (Nat.le_of_ble_eq_true rfl)) (kdr dgL_fit_0 0 6 rfl rfl) ⟨(Nat.le_of_ble_eq_true rfl), (Nat.le_of_ble_eq_true rfl)⟩) hP hD hS hA (kFr_l kFr_SB) (fun q9 ceQ H locs hP hD hS hce hcv hcl => ?_)
    by_cases e9 : k1 = 1
    · have h := g_t e9 h
      rw [kEx_1 e9] at hcl
      refine vx_catch (E := "java/lang/IndexOutOfBoundsException") (name := "java/lang/IndexOutOfBoundsException") (own := RL) hown [] ⟨0, 15, 18, 19⟩ [⟨0, 15, 22, 21⟩] hht (fun z hz => by cases hz) (by decide) (by decide) hw0 (va_Nw.use rfl (hG.at 4 rfl)) hce hcv hcl ?_
      refine lv_astore (lv' := (kvA 6 q9 (kvA 0 (a 0) (kvI 1 p1 (kvI 2 p2 (kvI 3 p3 (kvI 4 p4 (kvA 5 o kvE)))))))) hx hb (kdr dgL_fit_0 1 0 rfl rfl) hl (by decide) rfl (fun ls hl => ?_)
      refine lv_iconst (v := 1) hx hb (kdr dgL_fit_0 1 1 rfl rfl) (by decide) ?_
      have h := Option.some.inj h
      subst h
      refine W.widen (k := 1) (n := 6) (Nat.le_of_ble_eq_true rfl) (Nat.le_of_ble_eq_true rfl) ?_
      exact kret_i (v := 1) hx hb hr rfl hlocks hS hP (kdr dgL_fit_0 1 2 rfl rfl)
    · have h := g_f e9 h
      rw [kEx_2 e9] at hcl
      refine vx_catch (E := "java/lang/IllegalArgumentException") (name := "java/lang/IllegalArgumentException") (own := RL) hown [⟨0, 15, 18, 19⟩] ⟨0, 15, 22, 21⟩ [] hht (fun z hz => by rcases List.mem_singleton.mp hz with rfl; exact Or.inr ⟨by decide, _, hw0, hG.2⟩) (by decide) (by decide) hw1 (va_Nw.use rfl (hG.at 5 rfl)) hce hcv hcl ?_
      refine lv_astore (lv' := (kvA 6 q9 (kvA 0 (a 0) (kvI 1 p1 (kvI 2 p2 (kvI 3 p3 (kvI 4 p4 (kvA 5 o kvE)))))))) hx hb (kdr dgL_fit_0 1 3 rfl rfl) hl (by decide) rfl (fun ls hl => ?_)
      refine lv_iconst (v := 2) hx hb (kdr dgL_fit_0 1 4 rfl rfl) (by decide) ?_
      have h := Option.some.inj h
      subst h
      refine W.widen (k := 1) (n := 6) (Nat.le_of_ble_eq_true rfl) (Nat.le_of_ble_eq_true rfl) ?_
      exact kret_i (v := 2) hx hb hr rfl hlocks hS hP (kdr dgL_fit_0 1 5 rfl rfl)
  · obtain ⟨r1, g1, h⟩ := g_b h
    refine kq_i ((wSB cI cJ cZ a r1.2.1 fr un sb se so sc wb we wo wc fb fe fo fc rm r1.2.2.1 r1.2.2.2 kn) ++ (wO o on ov)) (fun qP qD qF => va_runV (As := [.int p1, .int p2, .int p3, .int p4]) (rest := [.ref o]) ⟨hx, hb, hml, hown, hts⟩ (c_X1_fit l dC dI cB cI cJ cZ a _ ce fr un sb se so sc wb we wo wc fb fe fo fc rm ac rf kn p1 p2 p3 p4 r1 g1) (kcwV hts kw_633 kv_X1_fit rfl rfl ⟨(Nat.le_of_ble_eq_true rfl), (Nat.le_of_ble_eq_true rfl)⟩) (kpV (A := A) qP hK qD hG (krecv_3 (q0 := 0) hK hP rfl)) rfl rfl hl.1 rfl (lv_room (Nat.le_of_ble_eq_true rfl)) (kdr dgL_fit_0 0 6 rfl rfl) ⟨(Nat.le_of_ble_eq_true rfl), (Nat.le_of_ble_eq_true rfl)⟩) hP hD hS hA (kFr_l kFr_SB) (fun H locs hP hD hS br1 => ?_)
    refine lv_i2l (v := r1.1.toInt64) hx hb (kdr dgL_fit_0 0 7 rfl rfl) rfl ?_
    refine va_putN (host := RL) (D := (dC, dI)) (ci := 4) (v := .long r1.1.toInt64) (ty := .long) (C := RX2) (T := TX2) (N := 2) hx hb hts hiX2 tyX2 tyX2_ok nmX2 hown hK hP hD hS 15 rfl rfl 0 (by decide) (va_Nw.use rfl (hG.at 7 rfl)) (fun _ h9 => h9) rfl (by decide +kernel) rfl rfl (Nat.le_of_ble_eq_true rfl) (kdr dgL_fit_0 0 8 rfl rfl) (fun H locs hP hD hS => ?_)
    have hP : va_P (dC, dI) vwCl ((wSB cI cJ cZ a r1.2.1 fr un sb se so sc wb we wo wc fb fe fo fc rm r1.2.2.1 r1.2.2.2 kn) ++ (wO o r1.1.toInt64 ov)) H := hP
    have hD : va_D A ((wSB cI cJ cZ a r1.2.1 fr un sb se so sc wb we wo wc fb fe fo fc rm r1.2.2.1 r1.2.2.2 kn) ++ (wO o r1.1.toInt64 ov)) := hD
    refine lv_goto (tgt := 26) hx hb (kdr dgL_fit_0 0 9 rfl rfl) (by decide) ?_
    refine lv_iconst (v := 0) hx hb (kdr dgL_fit_0 1 6 rfl rfl) (by decide) ?_
    have h := Option.some.inj h
    subst h
    refine W.widen (k := 1) (n := 6) (Nat.le_of_ble_eq_true rfl) (Nat.le_of_ble_eq_true rfl) ?_
    exact kret_i (v := 0) hx hb hr rfl hlocks hS hP (kdr dgL_fit_0 1 7 rfl rfl)
noncomputable abbrev wsL_wish : List Cond := Cond.codeWith yL_wish cL_wish 5 (some .int) [(0, 11, 14, 19)] :: kBIG
noncomputable def f_L_wish (ce : Nat → Int64) (wb : Nat → Int64) (we : Nat → Int64) (wo : Nat → Int32) (wc : Int32) (ac : Int32) (rf : Int32) (on : Int64) (p1 : Int32) (p2 : Int32) : Option ((Int32) × (Nat → Int64) × (Nat → Int64) × (Nat → Int32) × (Int32) × (Int32) × (Int32) × (Int64)) :=
  xb (fx_X1_wish p1 p2) (fun k1 => if k1 = 1 then
  some (1, wb, we, wo, wc, ac, rf, on)
else
  none) (
  (f_X1_wish ce wb we wo wc ac rf p1 p2).bind fun r1 =>
  some (0, r1.2.1, r1.2.2.1, r1.2.2.2.1, r1.2.2.2.2.1, r1.2.2.2.2.2.1, r1.2.2.2.2.2.2, r1.1.toInt64))
theorem f_L_wish_e {ce : Nat → Int64} {wb : Nat → Int64} {we : Nat → Int64} {wo : Nat → Int32} {wc : Int32} {ac : Int32} {rf : Int32} {on : Int64} {p1 : Int32} {p2 : Int32} : f_L_wish ce wb we wo wc ac rf on p1 p2 = 
  xb (fx_X1_wish p1 p2) (fun k1 => if k1 = 1 then
  some (1, wb, we, wo, wc, ac, rf, on)
else
  none) (
  (f_X1_wish ce wb we wo wc ac rf p1 p2).bind fun r1 =>
  some (0, r1.2.1, r1.2.2.1, r1.2.2.2.1, r1.2.2.2.2.1, r1.2.2.2.2.2.1, r1.2.2.2.2.2.2, r1.1.toInt64)) := rfl
set_option maxHeartbeats 4000000 in
set_option maxRecDepth 100000 in
theorem c_L_wish (l : Launch) (hl9 : l.stackTraces = false) (dC : Nat → ClassId) (dI : Nat → Nat → Nat) (cB cI cJ cZ : ClassId) (a : Nat → Nat) (o : Nat) (sz : Nat) (ce : Nat → Int64) (fr : Int64) (un : Int64) (sb : Nat → Int64) (se : Nat → Int64) (so : Nat → Int32) (sc : Int32) (wb : Nat → Int64) (we : Nat → Int64) (wo : Nat → Int32) (wc : Int32) (fb : Nat → Int64) (fe : Nat → Int64) (fo : Nat → Int32) (fc : Int32) (rm : Nat → Int32) (ac : Int32) (rf : Int32) (kn : Int32) (on : Int64) (ov : Value) (p1 : Int32) (p2 : Int32) (res : (Int32) × (Nat → Int64) × (Nat → Int64) × (Nat → Int32) × (Int32) × (Int32) × (Int32) × (Int64)) (hf : f_L_wish ce wb we wo wc ac rf on p1 p2 = some res) : kMw l yL_wish wsL_wish (kRm 8 1 6 132) dC dI cB cI cJ cZ [.ref (a 0), .int p1, .int p2, .ref o] sz ((wSB cI cJ cZ a ce fr un sb se so sc wb we wo wc fb fe fo fc rm ac rf kn) ++ (wO o on ov)) .int (res.1) ((wSB cI cJ cZ a ce fr un sb se so sc (res.2.1) (res.2.2.1) (res.2.2.2.1) (res.2.2.2.2.1) fb fe fo fc rm (res.2.2.2.2.2.1) (res.2.2.2.2.2.2.1) kn) ++ (wO o (res.2.2.2.2.2.2.2) ov)) 1 6 := by
  refine kmet_w (y := yL_wish) (cc := cL_wish) (maxL := 5) (ret := (some .int)) (hh := [(0, 11, 14, 19)]) RL (kvA 0 (a 0) (kvI 1 p1 (kvI 2 p2 (kvA 3 o kvE)))) kpl_L rfl rfl (Nat.le_of_ble_eq_true rfl) rfl (fun p e s m below meth c A ls hx hb hr hml hht hts hown hlocks hP hK hG hZ hD hA hS hl => ?_)
  have hw0 := hts (.classLink RL 19 "java/lang/IndexOutOfBoundsException") (List.mem_cons_of_mem _ kw_467)
  have hiX2 : ∀ w ∈ u_ws RX2 TX2 2, w ∈ wsL_wish := fun w h => List.mem_cons_of_mem _ (ku_X2 w h)
  have h := f_L_wish_e.symm.trans hf
  refine lv_aload_n hx hb (kdr dgL_wish_0 0 0 rfl rfl) rfl (lv_at hl 3 rfl) ?_
  refine lv_aload_n hx hb (kdr dgL_wish_0 0 1 rfl rfl) rfl (lv_at hl 0 rfl) ?_
  refine lv_iload_n hx hb (kdr dgL_wish_0 0 2 rfl rfl) rfl (lv_at hl 1 rfl) ?_
  refine lv_iload_n hx hb (kdr dgL_wish_0 0 3 rfl rfl) rfl (lv_at hl 2 rfl) ?_
  rcases g_x h with ⟨k1, j1, h⟩ | ⟨-, h⟩
  · refine kq_xh ((wSB cI cJ cZ a ce fr un sb se so sc wb we wo wc fb fe fo fc rm ac rf kn) ++ (wO o on ov)) (fun qP qD qF => vx_runV (As := [.int p1, .int p2]) (rest := [.ref o]) ⟨hx, hb, hml, hown, hts⟩ (x_X1_wish l hl9 dC dI cB cI cJ cZ a _ ce fr un sb se so sc wb we wo wc fb fe fo fc rm ac rf kn p1 p2 k1 j1) (kcwV hts kw_643 kv_X1_wish rfl rfl ⟨(Nat.le_of_ble_eq_true rfl), (Nat.le_of_ble_eq_true rfl)⟩) (kpVXq (A := A) qP hK qD hG hZ hS qF (krecv_3 (q0 := 0) hK hP rfl)) rfl rfl hl.1 rfl (lv_room (Nat.le_of_ble_eq_true rfl)) (kdr dgL_wish_0 0 4 rfl rfl) ⟨(Nat.le_of_ble_eq_true rfl), (Nat.le_of_ble_eq_true rfl)⟩) hP hD hS hA (kFr_l kFr_SB) (fun q9 ceQ H locs hP hD hS hce hcv hcl => ?_)
    by_cases e9 : k1 = 1
    · have h := g_t e9 h
      rw [kEx_1 e9] at hcl
      refine vx_catch (E := "java/lang/IndexOutOfBoundsException") (name := "java/lang/IndexOutOfBoundsException") (own := RL) hown [] ⟨0, 11, 14, 19⟩ [] hht (fun z hz => by cases hz) (by decide) (by decide) hw0 (va_Nw.use rfl (hG.at 4 rfl)) hce hcv hcl ?_
      refine lv_astore (lv' := (kvA 4 q9 (kvA 0 (a 0) (kvI 1 p1 (kvI 2 p2 (kvA 3 o kvE)))))) hx hb (kdr dgL_wish_0 0 8 rfl rfl) hl (by decide) rfl (fun ls hl => ?_)
      refine lv_iconst (v := 1) hx hb (kdr dgL_wish_0 0 9 rfl rfl) (by decide) ?_
      have h := Option.some.inj h
      subst h
      refine W.widen (k := 1) (n := 6) (Nat.le_of_ble_eq_true rfl) (Nat.le_of_ble_eq_true rfl) ?_
      exact kret_i (v := 1) hx hb hr rfl hlocks hS hP (kdr dgL_wish_0 1 0 rfl rfl)
    · have h := g_f e9 h
      rw [kEx_2 e9] at hcl
      cases h
  · obtain ⟨r1, g1, h⟩ := g_b h
    refine kq_i ((wSB cI cJ cZ a ce fr un sb se so sc r1.2.1 r1.2.2.1 r1.2.2.2.1 r1.2.2.2.2.1 fb fe fo fc rm r1.2.2.2.2.2.1 r1.2.2.2.2.2.2 kn) ++ (wO o on ov)) (fun qP qD qF => va_runV (As := [.int p1, .int p2]) (rest := [.ref o]) ⟨hx, hb, hml, hown, hts⟩ (c_X1_wish l dC dI cB cI cJ cZ a _ ce fr un sb se so sc wb we wo wc fb fe fo fc rm ac rf kn p1 p2 r1 g1) (kcwV hts kw_643 kv_X1_wish rfl rfl ⟨(Nat.le_of_ble_eq_true rfl), (Nat.le_of_ble_eq_true rfl)⟩) (kpV (A := A) qP hK qD hG (krecv_3 (q0 := 0) hK hP rfl)) rfl rfl hl.1 rfl (lv_room (Nat.le_of_ble_eq_true rfl)) (kdr dgL_wish_0 0 4 rfl rfl) ⟨(Nat.le_of_ble_eq_true rfl), (Nat.le_of_ble_eq_true rfl)⟩) hP hD hS hA (kFr_l kFr_SB) (fun H locs hP hD hS br1 => ?_)
    refine lv_i2l (v := r1.1.toInt64) hx hb (kdr dgL_wish_0 0 5 rfl rfl) rfl ?_
    refine va_putN (host := RL) (D := (dC, dI)) (ci := 4) (v := .long r1.1.toInt64) (ty := .long) (C := RX2) (T := TX2) (N := 2) hx hb hts hiX2 tyX2 tyX2_ok nmX2 hown hK hP hD hS 15 rfl rfl 0 (by decide) (va_Nw.use rfl (hG.at 7 rfl)) (fun _ h9 => h9) rfl (by decide +kernel) rfl rfl (Nat.le_of_ble_eq_true rfl) (kdr dgL_wish_0 0 6 rfl rfl) (fun H locs hP hD hS => ?_)
    have hP : va_P (dC, dI) vwCl ((wSB cI cJ cZ a ce fr un sb se so sc r1.2.1 r1.2.2.1 r1.2.2.2.1 r1.2.2.2.2.1 fb fe fo fc rm r1.2.2.2.2.2.1 r1.2.2.2.2.2.2 kn) ++ (wO o r1.1.toInt64 ov)) H := hP
    have hD : va_D A ((wSB cI cJ cZ a ce fr un sb se so sc r1.2.1 r1.2.2.1 r1.2.2.2.1 r1.2.2.2.2.1 fb fe fo fc rm r1.2.2.2.2.2.1 r1.2.2.2.2.2.2 kn) ++ (wO o r1.1.toInt64 ov)) := hD
    refine lv_goto (tgt := 18) hx hb (kdr dgL_wish_0 0 7 rfl rfl) (by decide) ?_
    refine lv_iconst (v := 0) hx hb (kdr dgL_wish_0 1 1 rfl rfl) (by decide) ?_
    have h := Option.some.inj h
    subst h
    refine W.widen (k := 1) (n := 6) (Nat.le_of_ble_eq_true rfl) (Nat.le_of_ble_eq_true rfl) ?_
    exact kret_i (v := 0) hx hb hr rfl hlocks hS hP (kdr dgL_wish_0 1 2 rfl rfl)
noncomputable abbrev wsL_unwish : List Cond := Cond.codeWith yL_unwish cL_unwish 4 (some .int) [(0, 10, 13, 19)] :: kBIG
noncomputable def f_L_unwish (wb : Nat → Int64) (we : Nat → Int64) (wo : Nat → Int32) (wc : Int32) (ac : Int32) (on : Int64) (p1 : Int32) : Option ((Int32) × (Nat → Int64) × (Nat → Int64) × (Nat → Int32) × (Int32) × (Int32) × (Int64)) :=
  xb (fx_X1_unwish wc p1) (fun k1 => if k1 = 1 then
  some (1, wb, we, wo, wc, ac, on)
else
  none) (
  (f_X1_unwish wb we wo wc ac p1).bind fun r1 =>
  some (0, r1.2.1, r1.2.2.1, r1.2.2.2.1, r1.2.2.2.2.1, r1.2.2.2.2.2, r1.1.toInt64))
theorem f_L_unwish_e {wb : Nat → Int64} {we : Nat → Int64} {wo : Nat → Int32} {wc : Int32} {ac : Int32} {on : Int64} {p1 : Int32} : f_L_unwish wb we wo wc ac on p1 = 
  xb (fx_X1_unwish wc p1) (fun k1 => if k1 = 1 then
  some (1, wb, we, wo, wc, ac, on)
else
  none) (
  (f_X1_unwish wb we wo wc ac p1).bind fun r1 =>
  some (0, r1.2.1, r1.2.2.1, r1.2.2.2.1, r1.2.2.2.2.1, r1.2.2.2.2.2, r1.1.toInt64)) := rfl
set_option maxHeartbeats 4000000 in
set_option maxRecDepth 100000 in
theorem c_L_unwish (l : Launch) (hl9 : l.stackTraces = false) (dC : Nat → ClassId) (dI : Nat → Nat → Nat) (cB cI cJ cZ : ClassId) (a : Nat → Nat) (o : Nat) (sz : Nat) (ce : Nat → Int64) (fr : Int64) (un : Int64) (sb : Nat → Int64) (se : Nat → Int64) (so : Nat → Int32) (sc : Int32) (wb : Nat → Int64) (we : Nat → Int64) (wo : Nat → Int32) (wc : Int32) (fb : Nat → Int64) (fe : Nat → Int64) (fo : Nat → Int32) (fc : Int32) (rm : Nat → Int32) (ac : Int32) (rf : Int32) (kn : Int32) (on : Int64) (ov : Value) (p1 : Int32) (res : (Int32) × (Nat → Int64) × (Nat → Int64) × (Nat → Int32) × (Int32) × (Int32) × (Int64)) (hf : f_L_unwish wb we wo wc ac on p1 = some res) : kMw l yL_unwish wsL_unwish (kRm 8 1 6 132) dC dI cB cI cJ cZ [.ref (a 0), .int p1, .ref o] sz ((wSB cI cJ cZ a ce fr un sb se so sc wb we wo wc fb fe fo fc rm ac rf kn) ++ (wO o on ov)) .int (res.1) ((wSB cI cJ cZ a ce fr un sb se so sc (res.2.1) (res.2.2.1) (res.2.2.2.1) (res.2.2.2.2.1) fb fe fo fc rm (res.2.2.2.2.2.1) rf kn) ++ (wO o (res.2.2.2.2.2.2) ov)) 1 6 := by
  refine kmet_w (y := yL_unwish) (cc := cL_unwish) (maxL := 4) (ret := (some .int)) (hh := [(0, 10, 13, 19)]) RL (kvA 0 (a 0) (kvI 1 p1 (kvA 2 o kvE))) kpl_L rfl rfl (Nat.le_of_ble_eq_true rfl) rfl (fun p e s m below meth c A ls hx hb hr hml hht hts hown hlocks hP hK hG hZ hD hA hS hl => ?_)
  have hw0 := hts (.classLink RL 19 "java/lang/IndexOutOfBoundsException") (List.mem_cons_of_mem _ kw_467)
  have hiX2 : ∀ w ∈ u_ws RX2 TX2 2, w ∈ wsL_unwish := fun w h => List.mem_cons_of_mem _ (ku_X2 w h)
  have h := f_L_unwish_e.symm.trans hf
  refine lv_aload_n hx hb (kdr dgL_unwish_0 0 0 rfl rfl) rfl (lv_at hl 2 rfl) ?_
  refine lv_aload_n hx hb (kdr dgL_unwish_0 0 1 rfl rfl) rfl (lv_at hl 0 rfl) ?_
  refine lv_iload_n hx hb (kdr dgL_unwish_0 0 2 rfl rfl) rfl (lv_at hl 1 rfl) ?_
  rcases g_x h with ⟨k1, j1, h⟩ | ⟨-, h⟩
  · refine kq_xh ((wSB cI cJ cZ a ce fr un sb se so sc wb we wo wc fb fe fo fc rm ac rf kn) ++ (wO o on ov)) (fun qP qD qF => vx_runV (As := [.int p1]) (rest := [.ref o]) ⟨hx, hb, hml, hown, hts⟩ (x_X1_unwish l hl9 dC dI cB cI cJ cZ a _ ce fr un sb se so sc wb we wo wc fb fe fo fc rm ac rf kn p1 k1 j1) (kcwV hts kw_650 kv_X1_unwish rfl rfl ⟨(Nat.le_of_ble_eq_true rfl), (Nat.le_of_ble_eq_true rfl)⟩) (kpVXq (A := A) qP hK qD hG hZ hS qF (krecv_3 (q0 := 0) hK hP rfl)) rfl rfl hl.1 rfl (lv_room (Nat.le_of_ble_eq_true rfl)) (kdr dgL_unwish_0 0 3 rfl rfl) ⟨(Nat.le_of_ble_eq_true rfl), (Nat.le_of_ble_eq_true rfl)⟩) hP hD hS hA (kFr_l kFr_SB) (fun q9 ceQ H locs hP hD hS hce hcv hcl => ?_)
    by_cases e9 : k1 = 1
    · have h := g_t e9 h
      rw [kEx_1 e9] at hcl
      refine vx_catch (E := "java/lang/IndexOutOfBoundsException") (name := "java/lang/IndexOutOfBoundsException") (own := RL) hown [] ⟨0, 10, 13, 19⟩ [] hht (fun z hz => by cases hz) (by decide) (by decide) hw0 (va_Nw.use rfl (hG.at 4 rfl)) hce hcv hcl ?_
      refine lv_astore_n (lv' := (kvA 3 q9 (kvA 0 (a 0) (kvI 1 p1 (kvA 2 o kvE))))) hx hb (kdr dgL_unwish_0 0 7 rfl rfl) rfl hl (by decide) rfl (fun ls hl => ?_)
      refine lv_iconst (v := 1) hx hb (kdr dgL_unwish_0 0 8 rfl rfl) (by decide) ?_
      have h := Option.some.inj h
      subst h
      refine W.widen (k := 1) (n := 6) (Nat.le_of_ble_eq_true rfl) (Nat.le_of_ble_eq_true rfl) ?_
      exact kret_i (v := 1) hx hb hr rfl hlocks hS hP (kdr dgL_unwish_0 0 9 rfl rfl)
    · have h := g_f e9 h
      rw [kEx_2 e9] at hcl
      cases h
  · obtain ⟨r1, g1, h⟩ := g_b h
    refine kq_i ((wSB cI cJ cZ a ce fr un sb se so sc r1.2.1 r1.2.2.1 r1.2.2.2.1 r1.2.2.2.2.1 fb fe fo fc rm r1.2.2.2.2.2 rf kn) ++ (wO o on ov)) (fun qP qD qF => va_runV (As := [.int p1]) (rest := [.ref o]) ⟨hx, hb, hml, hown, hts⟩ (c_X1_unwish l dC dI cB cI cJ cZ a _ ce fr un sb se so sc wb we wo wc fb fe fo fc rm ac rf kn p1 r1 g1) (kcwV hts kw_650 kv_X1_unwish rfl rfl ⟨(Nat.le_of_ble_eq_true rfl), (Nat.le_of_ble_eq_true rfl)⟩) (kpV (A := A) qP hK qD hG (krecv_3 (q0 := 0) hK hP rfl)) rfl rfl hl.1 rfl (lv_room (Nat.le_of_ble_eq_true rfl)) (kdr dgL_unwish_0 0 3 rfl rfl) ⟨(Nat.le_of_ble_eq_true rfl), (Nat.le_of_ble_eq_true rfl)⟩) hP hD hS hA (kFr_l kFr_SB) (fun H locs hP hD hS br1 => ?_)
    refine lv_i2l (v := r1.1.toInt64) hx hb (kdr dgL_unwish_0 0 4 rfl rfl) rfl ?_
    refine va_putN (host := RL) (D := (dC, dI)) (ci := 4) (v := .long r1.1.toInt64) (ty := .long) (C := RX2) (T := TX2) (N := 2) hx hb hts hiX2 tyX2 tyX2_ok nmX2 hown hK hP hD hS 15 rfl rfl 0 (by decide) (va_Nw.use rfl (hG.at 7 rfl)) (fun _ h9 => h9) rfl (by decide +kernel) rfl rfl (Nat.le_of_ble_eq_true rfl) (kdr dgL_unwish_0 0 5 rfl rfl) (fun H locs hP hD hS => ?_)
    have hP : va_P (dC, dI) vwCl ((wSB cI cJ cZ a ce fr un sb se so sc r1.2.1 r1.2.2.1 r1.2.2.2.1 r1.2.2.2.2.1 fb fe fo fc rm r1.2.2.2.2.2 rf kn) ++ (wO o r1.1.toInt64 ov)) H := hP
    have hD : va_D A ((wSB cI cJ cZ a ce fr un sb se so sc r1.2.1 r1.2.2.1 r1.2.2.2.1 r1.2.2.2.2.1 fb fe fo fc rm r1.2.2.2.2.2 rf kn) ++ (wO o r1.1.toInt64 ov)) := hD
    refine lv_goto (tgt := 16) hx hb (kdr dgL_unwish_0 0 6 rfl rfl) (by decide) ?_
    refine lv_iconst (v := 0) hx hb (kdr dgL_unwish_0 1 0 rfl rfl) (by decide) ?_
    have h := Option.some.inj h
    subst h
    refine W.widen (k := 1) (n := 6) (Nat.le_of_ble_eq_true rfl) (Nat.le_of_ble_eq_true rfl) ?_
    exact kret_i (v := 0) hx hb hr rfl hlocks hS hP (kdr dgL_unwish_0 1 1 rfl rfl)
noncomputable abbrev wsL_grant : List Cond := Cond.codeWith yL_grant cL_grant 4 (some .int) [(0, 10, 13, 19)] :: kBIG
noncomputable def f_L_grant (fr : Int64) (un : Int64) (sb : Nat → Int64) (se : Nat → Int64) (so : Nat → Int32) (sc : Int32) (wb : Nat → Int64) (we : Nat → Int64) (wo : Nat → Int32) (wc : Int32) (ac : Int32) (rf : Int32) (on : Int64) (p1 : Int32) : Option ((Int32) × (Nat → Int64) × (Nat → Int64) × (Nat → Int32) × (Int32) × (Nat → Int64) × (Nat → Int64) × (Nat → Int32) × (Int32) × (Int32) × (Int32) × (Int64)) :=
  xb (fx_X1_grant wc p1) (fun k1 => if k1 = 1 then
  some (1, sb, se, so, sc, wb, we, wo, wc, ac, rf, on)
else
  none) (
  (f_X1_grant fr un sb se so sc wb we wo wc ac rf p1).bind fun r1 =>
  some (0, r1.2.1, r1.2.2.1, r1.2.2.2.1, r1.2.2.2.2.1, r1.2.2.2.2.2.1, r1.2.2.2.2.2.2.1, r1.2.2.2.2.2.2.2.1, r1.2.2.2.2.2.2.2.2.1, r1.2.2.2.2.2.2.2.2.2.1, r1.2.2.2.2.2.2.2.2.2.2, r1.1.toInt64))
theorem f_L_grant_e {fr : Int64} {un : Int64} {sb : Nat → Int64} {se : Nat → Int64} {so : Nat → Int32} {sc : Int32} {wb : Nat → Int64} {we : Nat → Int64} {wo : Nat → Int32} {wc : Int32} {ac : Int32} {rf : Int32} {on : Int64} {p1 : Int32} : f_L_grant fr un sb se so sc wb we wo wc ac rf on p1 = 
  xb (fx_X1_grant wc p1) (fun k1 => if k1 = 1 then
  some (1, sb, se, so, sc, wb, we, wo, wc, ac, rf, on)
else
  none) (
  (f_X1_grant fr un sb se so sc wb we wo wc ac rf p1).bind fun r1 =>
  some (0, r1.2.1, r1.2.2.1, r1.2.2.2.1, r1.2.2.2.2.1, r1.2.2.2.2.2.1, r1.2.2.2.2.2.2.1, r1.2.2.2.2.2.2.2.1, r1.2.2.2.2.2.2.2.2.1, r1.2.2.2.2.2.2.2.2.2.1, r1.2.2.2.2.2.2.2.2.2.2, r1.1.toInt64)) := rfl
set_option maxHeartbeats 4000000 in
set_option maxRecDepth 100000 in
theorem c_L_grant (l : Launch) (hl9 : l.stackTraces = false) (dC : Nat → ClassId) (dI : Nat → Nat → Nat) (cB cI cJ cZ : ClassId) (a : Nat → Nat) (o : Nat) (sz : Nat) (ce : Nat → Int64) (fr : Int64) (un : Int64) (sb : Nat → Int64) (se : Nat → Int64) (so : Nat → Int32) (sc : Int32) (wb : Nat → Int64) (we : Nat → Int64) (wo : Nat → Int32) (wc : Int32) (fb : Nat → Int64) (fe : Nat → Int64) (fo : Nat → Int32) (fc : Int32) (rm : Nat → Int32) (ac : Int32) (rf : Int32) (kn : Int32) (on : Int64) (ov : Value) (p1 : Int32) (res : (Int32) × (Nat → Int64) × (Nat → Int64) × (Nat → Int32) × (Int32) × (Nat → Int64) × (Nat → Int64) × (Nat → Int32) × (Int32) × (Int32) × (Int32) × (Int64)) (hf : f_L_grant fr un sb se so sc wb we wo wc ac rf on p1 = some res) : kMw l yL_grant wsL_grant (kRm 8 1 6 133) dC dI cB cI cJ cZ [.ref (a 0), .int p1, .ref o] sz ((wSB cI cJ cZ a ce fr un sb se so sc wb we wo wc fb fe fo fc rm ac rf kn) ++ (wO o on ov)) .int (res.1) ((wSB cI cJ cZ a ce fr un (res.2.1) (res.2.2.1) (res.2.2.2.1) (res.2.2.2.2.1) (res.2.2.2.2.2.1) (res.2.2.2.2.2.2.1) (res.2.2.2.2.2.2.2.1) (res.2.2.2.2.2.2.2.2.1) fb fe fo fc rm (res.2.2.2.2.2.2.2.2.2.1) (res.2.2.2.2.2.2.2.2.2.2.1) kn) ++ (wO o (res.2.2.2.2.2.2.2.2.2.2.2) ov)) 1 6 := by
  refine kmet_w (y := yL_grant) (cc := cL_grant) (maxL := 4) (ret := (some .int)) (hh := [(0, 10, 13, 19)]) RL (kvA 0 (a 0) (kvI 1 p1 (kvA 2 o kvE))) kpl_L rfl rfl (Nat.le_of_ble_eq_true rfl) rfl (fun p e s m below meth c A ls hx hb hr hml hht hts hown hlocks hP hK hG hZ hD hA hS hl => ?_)
  have hw0 := hts (.classLink RL 19 "java/lang/IndexOutOfBoundsException") (List.mem_cons_of_mem _ kw_467)
  have hiX2 : ∀ w ∈ u_ws RX2 TX2 2, w ∈ wsL_grant := fun w h => List.mem_cons_of_mem _ (ku_X2 w h)
  have h := f_L_grant_e.symm.trans hf
  refine lv_aload_n hx hb (kdr dgL_grant_0 0 0 rfl rfl) rfl (lv_at hl 2 rfl) ?_
  refine lv_aload_n hx hb (kdr dgL_grant_0 0 1 rfl rfl) rfl (lv_at hl 0 rfl) ?_
  refine lv_iload_n hx hb (kdr dgL_grant_0 0 2 rfl rfl) rfl (lv_at hl 1 rfl) ?_
  rcases g_x h with ⟨k1, j1, h⟩ | ⟨-, h⟩
  · refine kq_xh ((wSB cI cJ cZ a ce fr un sb se so sc wb we wo wc fb fe fo fc rm ac rf kn) ++ (wO o on ov)) (fun qP qD qF => vx_runV (As := [.int p1]) (rest := [.ref o]) ⟨hx, hb, hml, hown, hts⟩ (x_X1_grant l hl9 dC dI cB cI cJ cZ a _ ce fr un sb se so sc wb we wo wc fb fe fo fc rm ac rf kn p1 k1 j1) (kcwV hts kw_657 kv_X1_grant rfl rfl ⟨(Nat.le_of_ble_eq_true rfl), (Nat.le_of_ble_eq_true rfl)⟩) (kpVXq (A := A) qP hK qD hG hZ hS qF (krecv_3 (q0 := 0) hK hP rfl)) rfl rfl hl.1 rfl (lv_room (Nat.le_of_ble_eq_true rfl)) (kdr dgL_grant_0 0 3 rfl rfl) ⟨(Nat.le_of_ble_eq_true rfl), (Nat.le_of_ble_eq_true rfl)⟩) hP hD hS hA (kFr_l kFr_SB) (fun q9 ceQ H locs hP hD hS hce hcv hcl => ?_)
    by_cases e9 : k1 = 1
    · have h := g_t e9 h
      rw [kEx_1 e9] at hcl
      refine vx_catch (E := "java/lang/IndexOutOfBoundsException") (name := "java/lang/IndexOutOfBoundsException") (own := RL) hown [] ⟨0, 10, 13, 19⟩ [] hht (fun z hz => by cases hz) (by decide) (by decide) hw0 (va_Nw.use rfl (hG.at 4 rfl)) hce hcv hcl ?_
      refine lv_astore_n (lv' := (kvA 3 q9 (kvA 0 (a 0) (kvI 1 p1 (kvA 2 o kvE))))) hx hb (kdr dgL_grant_0 0 7 rfl rfl) rfl hl (by decide) rfl (fun ls hl => ?_)
      refine lv_iconst (v := 1) hx hb (kdr dgL_grant_0 0 8 rfl rfl) (by decide) ?_
      have h := Option.some.inj h
      subst h
      refine W.widen (k := 1) (n := 6) (Nat.le_of_ble_eq_true rfl) (Nat.le_of_ble_eq_true rfl) ?_
      exact kret_i (v := 1) hx hb hr rfl hlocks hS hP (kdr dgL_grant_0 0 9 rfl rfl)
    · have h := g_f e9 h
      rw [kEx_2 e9] at hcl
      cases h
  · obtain ⟨r1, g1, h⟩ := g_b h
    refine kq_i ((wSB cI cJ cZ a ce fr un r1.2.1 r1.2.2.1 r1.2.2.2.1 r1.2.2.2.2.1 r1.2.2.2.2.2.1 r1.2.2.2.2.2.2.1 r1.2.2.2.2.2.2.2.1 r1.2.2.2.2.2.2.2.2.1 fb fe fo fc rm r1.2.2.2.2.2.2.2.2.2.1 r1.2.2.2.2.2.2.2.2.2.2 kn) ++ (wO o on ov)) (fun qP qD qF => va_runV (As := [.int p1]) (rest := [.ref o]) ⟨hx, hb, hml, hown, hts⟩ (c_X1_grant l dC dI cB cI cJ cZ a _ ce fr un sb se so sc wb we wo wc fb fe fo fc rm ac rf kn p1 r1 g1) (kcwV hts kw_657 kv_X1_grant rfl rfl ⟨(Nat.le_of_ble_eq_true rfl), (Nat.le_of_ble_eq_true rfl)⟩) (kpV (A := A) qP hK qD hG (krecv_3 (q0 := 0) hK hP rfl)) rfl rfl hl.1 rfl (lv_room (Nat.le_of_ble_eq_true rfl)) (kdr dgL_grant_0 0 3 rfl rfl) ⟨(Nat.le_of_ble_eq_true rfl), (Nat.le_of_ble_eq_true rfl)⟩) hP hD hS hA (kFr_l kFr_SB) (fun H locs hP hD hS br1 => ?_)
    refine lv_i2l (v := r1.1.toInt64) hx hb (kdr dgL_grant_0 0 4 rfl rfl) rfl ?_
    refine va_putN (host := RL) (D := (dC, dI)) (ci := 4) (v := .long r1.1.toInt64) (ty := .long) (C := RX2) (T := TX2) (N := 2) hx hb hts hiX2 tyX2 tyX2_ok nmX2 hown hK hP hD hS 15 rfl rfl 0 (by decide) (va_Nw.use rfl (hG.at 7 rfl)) (fun _ h9 => h9) rfl (by decide +kernel) rfl rfl (Nat.le_of_ble_eq_true rfl) (kdr dgL_grant_0 0 5 rfl rfl) (fun H locs hP hD hS => ?_)
    have hP : va_P (dC, dI) vwCl ((wSB cI cJ cZ a ce fr un r1.2.1 r1.2.2.1 r1.2.2.2.1 r1.2.2.2.2.1 r1.2.2.2.2.2.1 r1.2.2.2.2.2.2.1 r1.2.2.2.2.2.2.2.1 r1.2.2.2.2.2.2.2.2.1 fb fe fo fc rm r1.2.2.2.2.2.2.2.2.2.1 r1.2.2.2.2.2.2.2.2.2.2 kn) ++ (wO o r1.1.toInt64 ov)) H := hP
    have hD : va_D A ((wSB cI cJ cZ a ce fr un r1.2.1 r1.2.2.1 r1.2.2.2.1 r1.2.2.2.2.1 r1.2.2.2.2.2.1 r1.2.2.2.2.2.2.1 r1.2.2.2.2.2.2.2.1 r1.2.2.2.2.2.2.2.2.1 fb fe fo fc rm r1.2.2.2.2.2.2.2.2.2.1 r1.2.2.2.2.2.2.2.2.2.2 kn) ++ (wO o r1.1.toInt64 ov)) := hD
    refine lv_goto (tgt := 16) hx hb (kdr dgL_grant_0 0 6 rfl rfl) (by decide) ?_
    refine lv_iconst (v := 0) hx hb (kdr dgL_grant_0 1 0 rfl rfl) (by decide) ?_
    have h := Option.some.inj h
    subst h
    refine W.widen (k := 1) (n := 6) (Nat.le_of_ble_eq_true rfl) (Nat.le_of_ble_eq_true rfl) ?_
    exact kret_i (v := 0) hx hb hr rfl hlocks hS hP (kdr dgL_grant_0 1 1 rfl rfl)
noncomputable abbrev wsL_second : List Cond := Cond.codeWith yL_second cL_second 4 (some .int) [(0, 10, 13, 19)] :: kBIG
noncomputable def f_L_second (ce : Nat → Int64) (on : Int64) (p1 : Int32) : Option ((Int32) × (Int64)) :=
  xb (fx_X1_second p1) (fun k1 => if k1 = 1 then
  some (1, on)
else
  none) (
  (f_X1_second ce p1).bind fun r1 =>
  some (0, r1.toInt64))
theorem f_L_second_e {ce : Nat → Int64} {on : Int64} {p1 : Int32} : f_L_second ce on p1 = 
  xb (fx_X1_second p1) (fun k1 => if k1 = 1 then
  some (1, on)
else
  none) (
  (f_X1_second ce p1).bind fun r1 =>
  some (0, r1.toInt64)) := rfl
set_option maxHeartbeats 4000000 in
set_option maxRecDepth 100000 in
theorem c_L_second (l : Launch) (hl9 : l.stackTraces = false) (dC : Nat → ClassId) (dI : Nat → Nat → Nat) (cB cI cJ cZ : ClassId) (a : Nat → Nat) (o : Nat) (sz : Nat) (ce : Nat → Int64) (fr : Int64) (un : Int64) (sb : Nat → Int64) (se : Nat → Int64) (so : Nat → Int32) (sc : Int32) (wb : Nat → Int64) (we : Nat → Int64) (wo : Nat → Int32) (wc : Int32) (fb : Nat → Int64) (fe : Nat → Int64) (fo : Nat → Int32) (fc : Int32) (rm : Nat → Int32) (ac : Int32) (rf : Int32) (kn : Int32) (on : Int64) (ov : Value) (p1 : Int32) (res : (Int32) × (Int64)) (hf : f_L_second ce on p1 = some res) : kMw l yL_second wsL_second (kRm 8 1 6 131) dC dI cB cI cJ cZ [.ref (a 0), .int p1, .ref o] sz ((wSB cI cJ cZ a ce fr un sb se so sc wb we wo wc fb fe fo fc rm ac rf kn) ++ (wO o on ov)) .int (res.1) ((wSB cI cJ cZ a ce fr un sb se so sc wb we wo wc fb fe fo fc rm ac rf kn) ++ (wO o (res.2) ov)) 1 6 := by
  refine kmet_w (y := yL_second) (cc := cL_second) (maxL := 4) (ret := (some .int)) (hh := [(0, 10, 13, 19)]) RL (kvA 0 (a 0) (kvI 1 p1 (kvA 2 o kvE))) kpl_L rfl rfl (Nat.le_of_ble_eq_true rfl) rfl (fun p e s m below meth c A ls hx hb hr hml hht hts hown hlocks hP hK hG hZ hD hA hS hl => ?_)
  have hw0 := hts (.classLink RL 19 "java/lang/IndexOutOfBoundsException") (List.mem_cons_of_mem _ kw_467)
  have hiX2 : ∀ w ∈ u_ws RX2 TX2 2, w ∈ wsL_second := fun w h => List.mem_cons_of_mem _ (ku_X2 w h)
  have h := f_L_second_e.symm.trans hf
  refine lv_aload_n hx hb (kdr dgL_second_0 0 0 rfl rfl) rfl (lv_at hl 2 rfl) ?_
  refine lv_aload_n hx hb (kdr dgL_second_0 0 1 rfl rfl) rfl (lv_at hl 0 rfl) ?_
  refine lv_iload_n hx hb (kdr dgL_second_0 0 2 rfl rfl) rfl (lv_at hl 1 rfl) ?_
  rcases g_x h with ⟨k1, j1, h⟩ | ⟨-, h⟩
  · refine kq_xh ((wSB cI cJ cZ a ce fr un sb se so sc wb we wo wc fb fe fo fc rm ac rf kn) ++ (wO o on ov)) (fun qP qD qF => vx_runV (As := [.int p1]) (rest := [.ref o]) ⟨hx, hb, hml, hown, hts⟩ (x_X1_second l hl9 dC dI cB cI cJ cZ a _ ce fr un sb se so sc wb we wo wc fb fe fo fc rm ac rf kn p1 k1 j1) (kcwV hts kw_664 kv_X1_second rfl rfl ⟨(Nat.le_of_ble_eq_true rfl), (Nat.le_of_ble_eq_true rfl)⟩) (kpVXq (A := A) qP hK qD hG hZ hS qF (krecv_3 (q0 := 0) hK hP rfl)) rfl rfl hl.1 rfl (lv_room (Nat.le_of_ble_eq_true rfl)) (kdr dgL_second_0 0 3 rfl rfl) ⟨(Nat.le_of_ble_eq_true rfl), (Nat.le_of_ble_eq_true rfl)⟩) hP hD hS hA (kFr_l kFr_SB) (fun q9 ceQ H locs hP hD hS hce hcv hcl => ?_)
    by_cases e9 : k1 = 1
    · have h := g_t e9 h
      rw [kEx_1 e9] at hcl
      refine vx_catch (E := "java/lang/IndexOutOfBoundsException") (name := "java/lang/IndexOutOfBoundsException") (own := RL) hown [] ⟨0, 10, 13, 19⟩ [] hht (fun z hz => by cases hz) (by decide) (by decide) hw0 (va_Nw.use rfl (hG.at 4 rfl)) hce hcv hcl ?_
      refine lv_astore_n (lv' := (kvA 3 q9 (kvA 0 (a 0) (kvI 1 p1 (kvA 2 o kvE))))) hx hb (kdr dgL_second_0 0 7 rfl rfl) rfl hl (by decide) rfl (fun ls hl => ?_)
      refine lv_iconst (v := 1) hx hb (kdr dgL_second_0 0 8 rfl rfl) (by decide) ?_
      have h := Option.some.inj h
      subst h
      refine W.widen (k := 1) (n := 6) (Nat.le_of_ble_eq_true rfl) (Nat.le_of_ble_eq_true rfl) ?_
      exact kret_i (v := 1) hx hb hr rfl hlocks hS hP (kdr dgL_second_0 0 9 rfl rfl)
    · have h := g_f e9 h
      rw [kEx_2 e9] at hcl
      cases h
  · obtain ⟨r1, g1, h⟩ := g_b h
    refine kq_i ((wSB cI cJ cZ a ce fr un sb se so sc wb we wo wc fb fe fo fc rm ac rf kn) ++ (wO o on ov)) (fun qP qD qF => va_runV (As := [.int p1]) (rest := [.ref o]) ⟨hx, hb, hml, hown, hts⟩ (c_X1_second l dC dI cB cI cJ cZ a _ ce fr un sb se so sc wb we wo wc fb fe fo fc rm ac rf kn p1 r1 g1) (kcwV hts kw_664 kv_X1_second rfl rfl ⟨(Nat.le_of_ble_eq_true rfl), (Nat.le_of_ble_eq_true rfl)⟩) (kpV (A := A) qP hK qD hG (krecv_3 (q0 := 0) hK hP rfl)) rfl rfl hl.1 rfl (lv_room (Nat.le_of_ble_eq_true rfl)) (kdr dgL_second_0 0 3 rfl rfl) ⟨(Nat.le_of_ble_eq_true rfl), (Nat.le_of_ble_eq_true rfl)⟩) hP hD hS hA (kFr_l kFr_SB) (fun H locs hP hD hS br1 => ?_)
    refine lv_i2l (v := r1.toInt64) hx hb (kdr dgL_second_0 0 4 rfl rfl) rfl ?_
    refine va_putN (host := RL) (D := (dC, dI)) (ci := 4) (v := .long r1.toInt64) (ty := .long) (C := RX2) (T := TX2) (N := 2) hx hb hts hiX2 tyX2 tyX2_ok nmX2 hown hK hP hD hS 15 rfl rfl 0 (by decide) (va_Nw.use rfl (hG.at 7 rfl)) (fun _ h9 => h9) rfl (by decide +kernel) rfl rfl (Nat.le_of_ble_eq_true rfl) (kdr dgL_second_0 0 5 rfl rfl) (fun H locs hP hD hS => ?_)
    have hP : va_P (dC, dI) vwCl ((wSB cI cJ cZ a ce fr un sb se so sc wb we wo wc fb fe fo fc rm ac rf kn) ++ (wO o r1.toInt64 ov)) H := hP
    have hD : va_D A ((wSB cI cJ cZ a ce fr un sb se so sc wb we wo wc fb fe fo fc rm ac rf kn) ++ (wO o r1.toInt64 ov)) := hD
    refine lv_goto (tgt := 16) hx hb (kdr dgL_second_0 0 6 rfl rfl) (by decide) ?_
    refine lv_iconst (v := 0) hx hb (kdr dgL_second_0 1 0 rfl rfl) (by decide) ?_
    have h := Option.some.inj h
    subst h
    refine W.widen (k := 1) (n := 6) (Nat.le_of_ble_eq_true rfl) (Nat.le_of_ble_eq_true rfl) ?_
    exact kret_i (v := 0) hx hb hr rfl hlocks hS hP (kdr dgL_second_0 1 1 rfl rfl)
noncomputable abbrev wsL_nano : List Cond := Cond.codeWith yL_nano cL_nano 4 (some .int) [(0, 10, 13, 19)] :: kBIG
noncomputable def f_L_nano (ce : Nat → Int64) (on : Int64) (p1 : Int32) : Option ((Int32) × (Int64)) :=
  xb (fx_X1_nano p1) (fun k1 => if k1 = 1 then
  some (1, on)
else
  none) (
  (f_X1_nano ce p1).bind fun r1 =>
  some (0, r1.toInt64))
theorem f_L_nano_e {ce : Nat → Int64} {on : Int64} {p1 : Int32} : f_L_nano ce on p1 = 
  xb (fx_X1_nano p1) (fun k1 => if k1 = 1 then
  some (1, on)
else
  none) (
  (f_X1_nano ce p1).bind fun r1 =>
  some (0, r1.toInt64)) := rfl
set_option maxHeartbeats 4000000 in
set_option maxRecDepth 100000 in
theorem c_L_nano (l : Launch) (hl9 : l.stackTraces = false) (dC : Nat → ClassId) (dI : Nat → Nat → Nat) (cB cI cJ cZ : ClassId) (a : Nat → Nat) (o : Nat) (sz : Nat) (ce : Nat → Int64) (fr : Int64) (un : Int64) (sb : Nat → Int64) (se : Nat → Int64) (so : Nat → Int32) (sc : Int32) (wb : Nat → Int64) (we : Nat → Int64) (wo : Nat → Int32) (wc : Int32) (fb : Nat → Int64) (fe : Nat → Int64) (fo : Nat → Int32) (fc : Int32) (rm : Nat → Int32) (ac : Int32) (rf : Int32) (kn : Int32) (on : Int64) (ov : Value) (p1 : Int32) (res : (Int32) × (Int64)) (hf : f_L_nano ce on p1 = some res) : kMw l yL_nano wsL_nano (kRm 8 1 6 131) dC dI cB cI cJ cZ [.ref (a 0), .int p1, .ref o] sz ((wSB cI cJ cZ a ce fr un sb se so sc wb we wo wc fb fe fo fc rm ac rf kn) ++ (wO o on ov)) .int (res.1) ((wSB cI cJ cZ a ce fr un sb se so sc wb we wo wc fb fe fo fc rm ac rf kn) ++ (wO o (res.2) ov)) 1 6 := by
  refine kmet_w (y := yL_nano) (cc := cL_nano) (maxL := 4) (ret := (some .int)) (hh := [(0, 10, 13, 19)]) RL (kvA 0 (a 0) (kvI 1 p1 (kvA 2 o kvE))) kpl_L rfl rfl (Nat.le_of_ble_eq_true rfl) rfl (fun p e s m below meth c A ls hx hb hr hml hht hts hown hlocks hP hK hG hZ hD hA hS hl => ?_)
  have hw0 := hts (.classLink RL 19 "java/lang/IndexOutOfBoundsException") (List.mem_cons_of_mem _ kw_467)
  have hiX2 : ∀ w ∈ u_ws RX2 TX2 2, w ∈ wsL_nano := fun w h => List.mem_cons_of_mem _ (ku_X2 w h)
  have h := f_L_nano_e.symm.trans hf
  refine lv_aload_n hx hb (kdr dgL_nano_0 0 0 rfl rfl) rfl (lv_at hl 2 rfl) ?_
  refine lv_aload_n hx hb (kdr dgL_nano_0 0 1 rfl rfl) rfl (lv_at hl 0 rfl) ?_
  refine lv_iload_n hx hb (kdr dgL_nano_0 0 2 rfl rfl) rfl (lv_at hl 1 rfl) ?_
  rcases g_x h with ⟨k1, j1, h⟩ | ⟨-, h⟩
  · refine kq_xh ((wSB cI cJ cZ a ce fr un sb se so sc wb we wo wc fb fe fo fc rm ac rf kn) ++ (wO o on ov)) (fun qP qD qF => vx_runV (As := [.int p1]) (rest := [.ref o]) ⟨hx, hb, hml, hown, hts⟩ (x_X1_nano l hl9 dC dI cB cI cJ cZ a _ ce fr un sb se so sc wb we wo wc fb fe fo fc rm ac rf kn p1 k1 j1) (kcwV hts kw_671 kv_X1_nano rfl rfl ⟨(Nat.le_of_ble_eq_true rfl), (Nat.le_of_ble_eq_true rfl)⟩) (kpVXq (A := A) qP hK qD hG hZ hS qF (krecv_3 (q0 := 0) hK hP rfl)) rfl rfl hl.1 rfl (lv_room (Nat.le_of_ble_eq_true rfl)) (kdr dgL_nano_0 0 3 rfl rfl) ⟨(Nat.le_of_ble_eq_true rfl), (Nat.le_of_ble_eq_true rfl)⟩) hP hD hS hA (kFr_l kFr_SB) (fun q9 ceQ H locs hP hD hS hce hcv hcl => ?_)
    by_cases e9 : k1 = 1
    · have h := g_t e9 h
      rw [kEx_1 e9] at hcl
      refine vx_catch (E := "java/lang/IndexOutOfBoundsException") (name := "java/lang/IndexOutOfBoundsException") (own := RL) hown [] ⟨0, 10, 13, 19⟩ [] hht (fun z hz => by cases hz) (by decide) (by decide) hw0 (va_Nw.use rfl (hG.at 4 rfl)) hce hcv hcl ?_
      refine lv_astore_n (lv' := (kvA 3 q9 (kvA 0 (a 0) (kvI 1 p1 (kvA 2 o kvE))))) hx hb (kdr dgL_nano_0 0 7 rfl rfl) rfl hl (by decide) rfl (fun ls hl => ?_)
      refine lv_iconst (v := 1) hx hb (kdr dgL_nano_0 0 8 rfl rfl) (by decide) ?_
      have h := Option.some.inj h
      subst h
      refine W.widen (k := 1) (n := 6) (Nat.le_of_ble_eq_true rfl) (Nat.le_of_ble_eq_true rfl) ?_
      exact kret_i (v := 1) hx hb hr rfl hlocks hS hP (kdr dgL_nano_0 0 9 rfl rfl)
    · have h := g_f e9 h
      rw [kEx_2 e9] at hcl
      cases h
  · obtain ⟨r1, g1, h⟩ := g_b h
    refine kq_i ((wSB cI cJ cZ a ce fr un sb se so sc wb we wo wc fb fe fo fc rm ac rf kn) ++ (wO o on ov)) (fun qP qD qF => va_runV (As := [.int p1]) (rest := [.ref o]) ⟨hx, hb, hml, hown, hts⟩ (c_X1_nano l dC dI cB cI cJ cZ a _ ce fr un sb se so sc wb we wo wc fb fe fo fc rm ac rf kn p1 r1 g1) (kcwV hts kw_671 kv_X1_nano rfl rfl ⟨(Nat.le_of_ble_eq_true rfl), (Nat.le_of_ble_eq_true rfl)⟩) (kpV (A := A) qP hK qD hG (krecv_3 (q0 := 0) hK hP rfl)) rfl rfl hl.1 rfl (lv_room (Nat.le_of_ble_eq_true rfl)) (kdr dgL_nano_0 0 3 rfl rfl) ⟨(Nat.le_of_ble_eq_true rfl), (Nat.le_of_ble_eq_true rfl)⟩) hP hD hS hA (kFr_l kFr_SB) (fun H locs hP hD hS br1 => ?_)
    refine lv_i2l (v := r1.toInt64) hx hb (kdr dgL_nano_0 0 4 rfl rfl) rfl ?_
    refine va_putN (host := RL) (D := (dC, dI)) (ci := 4) (v := .long r1.toInt64) (ty := .long) (C := RX2) (T := TX2) (N := 2) hx hb hts hiX2 tyX2 tyX2_ok nmX2 hown hK hP hD hS 15 rfl rfl 0 (by decide) (va_Nw.use rfl (hG.at 7 rfl)) (fun _ h9 => h9) rfl (by decide +kernel) rfl rfl (Nat.le_of_ble_eq_true rfl) (kdr dgL_nano_0 0 5 rfl rfl) (fun H locs hP hD hS => ?_)
    have hP : va_P (dC, dI) vwCl ((wSB cI cJ cZ a ce fr un sb se so sc wb we wo wc fb fe fo fc rm ac rf kn) ++ (wO o r1.toInt64 ov)) H := hP
    have hD : va_D A ((wSB cI cJ cZ a ce fr un sb se so sc wb we wo wc fb fe fo fc rm ac rf kn) ++ (wO o r1.toInt64 ov)) := hD
    refine lv_goto (tgt := 16) hx hb (kdr dgL_nano_0 0 6 rfl rfl) (by decide) ?_
    refine lv_iconst (v := 0) hx hb (kdr dgL_nano_0 1 0 rfl rfl) (by decide) ?_
    have h := Option.some.inj h
    subst h
    refine W.widen (k := 1) (n := 6) (Nat.le_of_ble_eq_true rfl) (Nat.le_of_ble_eq_true rfl) ?_
    exact kret_i (v := 0) hx hb hr rfl hlocks hS hP (kdr dgL_nano_0 1 1 rfl rfl)
noncomputable abbrev wsL_order : List Cond := Cond.codeWith yL_order cL_order 5 (some .int) [(0, 11, 14, 19)] :: kBIG
noncomputable def f_L_order (ce : Nat → Int64) (on : Int64) (p1 : Int32) (p2 : Int32) : Option ((Int32) × (Int64)) :=
  xb (fx_X1_order p1 p2) (fun k1 => if k1 = 1 then
  some (1, on)
else
  none) (
  (f_X1_order ce p1 p2).bind fun r1 =>
  some (0, r1.toInt64))
theorem f_L_order_e {ce : Nat → Int64} {on : Int64} {p1 : Int32} {p2 : Int32} : f_L_order ce on p1 p2 = 
  xb (fx_X1_order p1 p2) (fun k1 => if k1 = 1 then
  some (1, on)
else
  none) (
  (f_X1_order ce p1 p2).bind fun r1 =>
  some (0, r1.toInt64)) := rfl
set_option maxHeartbeats 4000000 in
set_option maxRecDepth 100000 in
theorem c_L_order (l : Launch) (hl9 : l.stackTraces = false) (dC : Nat → ClassId) (dI : Nat → Nat → Nat) (cB cI cJ cZ : ClassId) (a : Nat → Nat) (o : Nat) (sz : Nat) (ce : Nat → Int64) (fr : Int64) (un : Int64) (sb : Nat → Int64) (se : Nat → Int64) (so : Nat → Int32) (sc : Int32) (wb : Nat → Int64) (we : Nat → Int64) (wo : Nat → Int32) (wc : Int32) (fb : Nat → Int64) (fe : Nat → Int64) (fo : Nat → Int32) (fc : Int32) (rm : Nat → Int32) (ac : Int32) (rf : Int32) (kn : Int32) (on : Int64) (ov : Value) (p1 : Int32) (p2 : Int32) (res : (Int32) × (Int64)) (hf : f_L_order ce on p1 p2 = some res) : kMw l yL_order wsL_order (kRm 8 1 6 132) dC dI cB cI cJ cZ [.ref (a 0), .int p1, .int p2, .ref o] sz ((wSB cI cJ cZ a ce fr un sb se so sc wb we wo wc fb fe fo fc rm ac rf kn) ++ (wO o on ov)) .int (res.1) ((wSB cI cJ cZ a ce fr un sb se so sc wb we wo wc fb fe fo fc rm ac rf kn) ++ (wO o (res.2) ov)) 1 6 := by
  refine kmet_w (y := yL_order) (cc := cL_order) (maxL := 5) (ret := (some .int)) (hh := [(0, 11, 14, 19)]) RL (kvA 0 (a 0) (kvI 1 p1 (kvI 2 p2 (kvA 3 o kvE)))) kpl_L rfl rfl (Nat.le_of_ble_eq_true rfl) rfl (fun p e s m below meth c A ls hx hb hr hml hht hts hown hlocks hP hK hG hZ hD hA hS hl => ?_)
  have hw0 := hts (.classLink RL 19 "java/lang/IndexOutOfBoundsException") (List.mem_cons_of_mem _ kw_467)
  have hiX2 : ∀ w ∈ u_ws RX2 TX2 2, w ∈ wsL_order := fun w h => List.mem_cons_of_mem _ (ku_X2 w h)
  have h := f_L_order_e.symm.trans hf
  refine lv_aload_n hx hb (kdr dgL_order_0 0 0 rfl rfl) rfl (lv_at hl 3 rfl) ?_
  refine lv_aload_n hx hb (kdr dgL_order_0 0 1 rfl rfl) rfl (lv_at hl 0 rfl) ?_
  refine lv_iload_n hx hb (kdr dgL_order_0 0 2 rfl rfl) rfl (lv_at hl 1 rfl) ?_
  refine lv_iload_n hx hb (kdr dgL_order_0 0 3 rfl rfl) rfl (lv_at hl 2 rfl) ?_
  rcases g_x h with ⟨k1, j1, h⟩ | ⟨-, h⟩
  · refine kq_xh ((wSB cI cJ cZ a ce fr un sb se so sc wb we wo wc fb fe fo fc rm ac rf kn) ++ (wO o on ov)) (fun qP qD qF => vx_runV (As := [.int p1, .int p2]) (rest := [.ref o]) ⟨hx, hb, hml, hown, hts⟩ (x_X1_order l hl9 dC dI cB cI cJ cZ a _ ce fr un sb se so sc wb we wo wc fb fe fo fc rm ac rf kn p1 p2 k1 j1) (kcwV hts kw_948 kv_X1_order rfl rfl ⟨(Nat.le_of_ble_eq_true rfl), (Nat.le_of_ble_eq_true rfl)⟩) (kpVXq (A := A) qP hK qD hG hZ hS qF (krecv_3 (q0 := 0) hK hP rfl)) rfl rfl hl.1 rfl (lv_room (Nat.le_of_ble_eq_true rfl)) (kdr dgL_order_0 0 4 rfl rfl) ⟨(Nat.le_of_ble_eq_true rfl), (Nat.le_of_ble_eq_true rfl)⟩) hP hD hS hA (kFr_l kFr_SB) (fun q9 ceQ H locs hP hD hS hce hcv hcl => ?_)
    by_cases e9 : k1 = 1
    · have h := g_t e9 h
      rw [kEx_1 e9] at hcl
      refine vx_catch (E := "java/lang/IndexOutOfBoundsException") (name := "java/lang/IndexOutOfBoundsException") (own := RL) hown [] ⟨0, 11, 14, 19⟩ [] hht (fun z hz => by cases hz) (by decide) (by decide) hw0 (va_Nw.use rfl (hG.at 4 rfl)) hce hcv hcl ?_
      refine lv_astore (lv' := (kvA 4 q9 (kvA 0 (a 0) (kvI 1 p1 (kvI 2 p2 (kvA 3 o kvE)))))) hx hb (kdr dgL_order_0 0 8 rfl rfl) hl (by decide) rfl (fun ls hl => ?_)
      refine lv_iconst (v := 1) hx hb (kdr dgL_order_0 0 9 rfl rfl) (by decide) ?_
      have h := Option.some.inj h
      subst h
      refine W.widen (k := 1) (n := 6) (Nat.le_of_ble_eq_true rfl) (Nat.le_of_ble_eq_true rfl) ?_
      exact kret_i (v := 1) hx hb hr rfl hlocks hS hP (kdr dgL_order_0 1 0 rfl rfl)
    · have h := g_f e9 h
      rw [kEx_2 e9] at hcl
      cases h
  · obtain ⟨r1, g1, h⟩ := g_b h
    refine kq_i ((wSB cI cJ cZ a ce fr un sb se so sc wb we wo wc fb fe fo fc rm ac rf kn) ++ (wO o on ov)) (fun qP qD qF => va_runV (As := [.int p1, .int p2]) (rest := [.ref o]) ⟨hx, hb, hml, hown, hts⟩ (c_X1_order l dC dI cB cI cJ cZ a _ ce fr un sb se so sc wb we wo wc fb fe fo fc rm ac rf kn p1 p2 r1 g1) (kcwV hts kw_948 kv_X1_order rfl rfl ⟨(Nat.le_of_ble_eq_true rfl), (Nat.le_of_ble_eq_true rfl)⟩) (kpV (A := A) qP hK qD hG (krecv_3 (q0 := 0) hK hP rfl)) rfl rfl hl.1 rfl (lv_room (Nat.le_of_ble_eq_true rfl)) (kdr dgL_order_0 0 4 rfl rfl) ⟨(Nat.le_of_ble_eq_true rfl), (Nat.le_of_ble_eq_true rfl)⟩) hP hD hS hA (kFr_l kFr_SB) (fun H locs hP hD hS br1 => ?_)
    refine lv_i2l (v := r1.toInt64) hx hb (kdr dgL_order_0 0 5 rfl rfl) rfl ?_
    refine va_putN (host := RL) (D := (dC, dI)) (ci := 4) (v := .long r1.toInt64) (ty := .long) (C := RX2) (T := TX2) (N := 2) hx hb hts hiX2 tyX2 tyX2_ok nmX2 hown hK hP hD hS 15 rfl rfl 0 (by decide) (va_Nw.use rfl (hG.at 7 rfl)) (fun _ h9 => h9) rfl (by decide +kernel) rfl rfl (Nat.le_of_ble_eq_true rfl) (kdr dgL_order_0 0 6 rfl rfl) (fun H locs hP hD hS => ?_)
    have hP : va_P (dC, dI) vwCl ((wSB cI cJ cZ a ce fr un sb se so sc wb we wo wc fb fe fo fc rm ac rf kn) ++ (wO o r1.toInt64 ov)) H := hP
    have hD : va_D A ((wSB cI cJ cZ a ce fr un sb se so sc wb we wo wc fb fe fo fc rm ac rf kn) ++ (wO o r1.toInt64 ov)) := hD
    refine lv_goto (tgt := 18) hx hb (kdr dgL_order_0 0 7 rfl rfl) (by decide) ?_
    refine lv_iconst (v := 0) hx hb (kdr dgL_order_0 1 1 rfl rfl) (by decide) ?_
    have h := Option.some.inj h
    subst h
    refine W.widen (k := 1) (n := 6) (Nat.le_of_ble_eq_true rfl) (Nat.le_of_ble_eq_true rfl) ?_
    exact kret_i (v := 0) hx hb hr rfl hlocks hS hP (kdr dgL_order_0 1 2 rfl rfl)
noncomputable abbrev wsL_isBefore : List Cond := Cond.codeWith yL_isBefore cL_isBefore 5 (some .int) [(0, 18, 21, 19)] :: kBIG
noncomputable def f_L_isBefore (ce : Nat → Int64) (on : Int64) (p1 : Int32) (p2 : Int32) : Option ((Int32) × (Int64)) :=
  xb (fx_X1_isBefore p1 p2) (fun k1 => if k1 = 1 then
  some (1, on)
else
  none) (
  (f_X1_isBefore ce p1 p2).bind fun r1 =>
  if r1 = 0 then
    some (0, 0)
  else
    some (0, 1))
theorem f_L_isBefore_e {ce : Nat → Int64} {on : Int64} {p1 : Int32} {p2 : Int32} : f_L_isBefore ce on p1 p2 = 
  xb (fx_X1_isBefore p1 p2) (fun k1 => if k1 = 1 then
  some (1, on)
else
  none) (
  (f_X1_isBefore ce p1 p2).bind fun r1 =>
  if r1 = 0 then
    some (0, 0)
  else
    some (0, 1)) := rfl
set_option maxHeartbeats 4000000 in
set_option maxRecDepth 100000 in
theorem c_L_isBefore (l : Launch) (hl9 : l.stackTraces = false) (dC : Nat → ClassId) (dI : Nat → Nat → Nat) (cB cI cJ cZ : ClassId) (a : Nat → Nat) (o : Nat) (sz : Nat) (ce : Nat → Int64) (fr : Int64) (un : Int64) (sb : Nat → Int64) (se : Nat → Int64) (so : Nat → Int32) (sc : Int32) (wb : Nat → Int64) (we : Nat → Int64) (wo : Nat → Int32) (wc : Int32) (fb : Nat → Int64) (fe : Nat → Int64) (fo : Nat → Int32) (fc : Int32) (rm : Nat → Int32) (ac : Int32) (rf : Int32) (kn : Int32) (on : Int64) (ov : Value) (p1 : Int32) (p2 : Int32) (res : (Int32) × (Int64)) (hf : f_L_isBefore ce on p1 p2 = some res) : kMw l yL_isBefore wsL_isBefore (kRm 8 1 6 132) dC dI cB cI cJ cZ [.ref (a 0), .int p1, .int p2, .ref o] sz ((wSB cI cJ cZ a ce fr un sb se so sc wb we wo wc fb fe fo fc rm ac rf kn) ++ (wO o on ov)) .int (res.1) ((wSB cI cJ cZ a ce fr un sb se so sc wb we wo wc fb fe fo fc rm ac rf kn) ++ (wO o (res.2) ov)) 1 6 := by
  refine kmet_w (y := yL_isBefore) (cc := cL_isBefore) (maxL := 5) (ret := (some .int)) (hh := [(0, 18, 21, 19)]) RL (kvA 0 (a 0) (kvI 1 p1 (kvI 2 p2 (kvA 3 o kvE)))) kpl_L rfl rfl (Nat.le_of_ble_eq_true rfl) rfl (fun p e s m below meth c A ls hx hb hr hml hht hts hown hlocks hP hK hG hZ hD hA hS hl => ?_)
  have hw0 := hts (.classLink RL 19 "java/lang/IndexOutOfBoundsException") (List.mem_cons_of_mem _ kw_467)
  have hiX2 : ∀ w ∈ u_ws RX2 TX2 2, w ∈ wsL_isBefore := fun w h => List.mem_cons_of_mem _ (ku_X2 w h)
  have h := f_L_isBefore_e.symm.trans hf
  refine lv_aload_n hx hb (kdr dgL_isBefore_0 0 0 rfl rfl) rfl (lv_at hl 3 rfl) ?_
  refine lv_aload_n hx hb (kdr dgL_isBefore_0 0 1 rfl rfl) rfl (lv_at hl 0 rfl) ?_
  refine lv_iload_n hx hb (kdr dgL_isBefore_0 0 2 rfl rfl) rfl (lv_at hl 1 rfl) ?_
  refine lv_iload_n hx hb (kdr dgL_isBefore_0 0 3 rfl rfl) rfl (lv_at hl 2 rfl) ?_
  rcases g_x h with ⟨k1, j1, h⟩ | ⟨-, h⟩
  · refine kq_xh ((wSB cI cJ cZ a ce fr un sb se so sc wb we wo wc fb fe fo fc rm ac rf kn) ++ (wO o on ov)) (fun qP qD qF => vx_runV (As := [.int p1, .int p2]) (rest := [.ref o]) ⟨hx, hb, hml, hown, hts⟩ (x_X1_isBefore l hl9 dC dI cB cI cJ cZ a _ ce fr un sb se so sc wb we wo wc fb fe fo fc rm ac rf kn p1 p2 k1 j1) (kcwV hts kw_955 kv_X1_isBefore rfl rfl ⟨(Nat.le_of_ble_eq_true rfl), (Nat.le_of_ble_eq_true rfl)⟩) (kpVXq (A := A) qP hK qD hG hZ hS qF (krecv_3 (q0 := 0) hK hP rfl)) rfl rfl hl.1 rfl (lv_room (Nat.le_of_ble_eq_true rfl)) (kdr dgL_isBefore_0 0 4 rfl rfl) ⟨(Nat.le_of_ble_eq_true rfl), (Nat.le_of_ble_eq_true rfl)⟩) hP hD hS hA (kFr_l kFr_SB) (fun q9 ceQ H locs hP hD hS hce hcv hcl => ?_)
    by_cases e9 : k1 = 1
    · have h := g_t e9 h
      rw [kEx_1 e9] at hcl
      refine vx_catch (E := "java/lang/IndexOutOfBoundsException") (name := "java/lang/IndexOutOfBoundsException") (own := RL) hown [] ⟨0, 18, 21, 19⟩ [] hht (fun z hz => by cases hz) (by decide) (by decide) hw0 (va_Nw.use rfl (hG.at 4 rfl)) hce hcv hcl ?_
      refine lv_astore (lv' := (kvA 4 q9 (kvA 0 (a 0) (kvI 1 p1 (kvI 2 p2 (kvA 3 o kvE)))))) hx hb (kdr dgL_isBefore_0 1 1 rfl rfl) hl (by decide) rfl (fun ls hl => ?_)
      refine lv_iconst (v := 1) hx hb (kdr dgL_isBefore_0 1 2 rfl rfl) (by decide) ?_
      have h := Option.some.inj h
      subst h
      refine W.widen (k := 1) (n := 6) (Nat.le_of_ble_eq_true rfl) (Nat.le_of_ble_eq_true rfl) ?_
      exact kret_i (v := 1) hx hb hr rfl hlocks hS hP (kdr dgL_isBefore_0 1 3 rfl rfl)
    · have h := g_f e9 h
      rw [kEx_2 e9] at hcl
      cases h
  · obtain ⟨r1, g1, h⟩ := g_b h
    refine kq_i ((wSB cI cJ cZ a ce fr un sb se so sc wb we wo wc fb fe fo fc rm ac rf kn) ++ (wO o on ov)) (fun qP qD qF => va_runV (As := [.int p1, .int p2]) (rest := [.ref o]) ⟨hx, hb, hml, hown, hts⟩ (c_X1_isBefore l dC dI cB cI cJ cZ a _ ce fr un sb se so sc wb we wo wc fb fe fo fc rm ac rf kn p1 p2 r1 g1) (kcwV hts kw_955 kv_X1_isBefore rfl rfl ⟨(Nat.le_of_ble_eq_true rfl), (Nat.le_of_ble_eq_true rfl)⟩) (kpV (A := A) qP hK qD hG (krecv_3 (q0 := 0) hK hP rfl)) rfl rfl hl.1 rfl (lv_room (Nat.le_of_ble_eq_true rfl)) (kdr dgL_isBefore_0 0 4 rfl rfl) ⟨(Nat.le_of_ble_eq_true rfl), (Nat.le_of_ble_eq_true rfl)⟩) hP hD hS hA (kFr_l kFr_SB) (fun H locs hP hD hS br1 => ?_)
    refine lv_if_eq (tgt := 14) hx hb (kdr dgL_isBefore_0 0 5 rfl rfl) (by decide) (fun c2 => ?_) (fun c2 => ?_)
    · have h := g_t c2 h
      refine lv_lconst (v := 0) hx hb (kdr dgL_isBefore_0 0 8 rfl rfl) (by decide) ?_
      refine va_putN (host := RL) (D := (dC, dI)) (ci := 4) (v := .long 0) (ty := .long) (C := RX2) (T := TX2) (N := 2) hx hb hts hiX2 tyX2 tyX2_ok nmX2 hown hK hP hD hS 15 rfl rfl 0 (by decide) (va_Nw.use rfl (hG.at 7 rfl)) (fun _ h9 => h9) rfl (by decide +kernel) rfl rfl (Nat.le_of_ble_eq_true rfl) (kdr dgL_isBefore_0 0 9 rfl rfl) (fun H locs hP hD hS => ?_)
      have hP : va_P (dC, dI) vwCl ((wSB cI cJ cZ a ce fr un sb se so sc wb we wo wc fb fe fo fc rm ac rf kn) ++ (wO o 0 ov)) H := hP
      have hD : va_D A ((wSB cI cJ cZ a ce fr un sb se so sc wb we wo wc fb fe fo fc rm ac rf kn) ++ (wO o 0 ov)) := hD
      refine lv_goto (tgt := 25) hx hb (kdr dgL_isBefore_0 1 0 rfl rfl) (by decide) ?_
      refine lv_iconst (v := 0) hx hb (kdr dgL_isBefore_0 1 4 rfl rfl) (by decide) ?_
      have h := Option.some.inj h
      subst h
      refine W.widen (k := 1) (n := 6) (Nat.le_of_ble_eq_true rfl) (Nat.le_of_ble_eq_true rfl) ?_
      exact kret_i (v := 0) hx hb hr rfl hlocks hS hP (kdr dgL_isBefore_0 1 5 rfl rfl)
    · have h := g_f c2 h
      refine lv_lconst (v := 1) hx hb (kdr dgL_isBefore_0 0 6 rfl rfl) (by decide) ?_
      refine lv_goto (tgt := 15) hx hb (kdr dgL_isBefore_0 0 7 rfl rfl) (by decide) ?_
      refine va_putN (host := RL) (D := (dC, dI)) (ci := 4) (v := .long 1) (ty := .long) (C := RX2) (T := TX2) (N := 2) hx hb hts hiX2 tyX2 tyX2_ok nmX2 hown hK hP hD hS 15 rfl rfl 0 (by decide) (va_Nw.use rfl (hG.at 7 rfl)) (fun _ h9 => h9) rfl (by decide +kernel) rfl rfl (Nat.le_of_ble_eq_true rfl) (kdr dgL_isBefore_0 0 9 rfl rfl) (fun H locs hP hD hS => ?_)
      have hP : va_P (dC, dI) vwCl ((wSB cI cJ cZ a ce fr un sb se so sc wb we wo wc fb fe fo fc rm ac rf kn) ++ (wO o 1 ov)) H := hP
      have hD : va_D A ((wSB cI cJ cZ a ce fr un sb se so sc wb we wo wc fb fe fo fc rm ac rf kn) ++ (wO o 1 ov)) := hD
      refine lv_goto (tgt := 25) hx hb (kdr dgL_isBefore_0 1 0 rfl rfl) (by decide) ?_
      refine lv_iconst (v := 0) hx hb (kdr dgL_isBefore_0 1 4 rfl rfl) (by decide) ?_
      have h := Option.some.inj h
      subst h
      refine W.widen (k := 1) (n := 6) (Nat.le_of_ble_eq_true rfl) (Nat.le_of_ble_eq_true rfl) ?_
      exact kret_i (v := 0) hx hb hr rfl hlocks hS hP (kdr dgL_isBefore_0 1 5 rfl rfl)
noncomputable abbrev wsL_isAfter : List Cond := Cond.codeWith yL_isAfter cL_isAfter 5 (some .int) [(0, 18, 21, 19)] :: kBIG
noncomputable def f_L_isAfter (ce : Nat → Int64) (on : Int64) (p1 : Int32) (p2 : Int32) : Option ((Int32) × (Int64)) :=
  xb (fx_X1_isAfter p1 p2) (fun k1 => if k1 = 1 then
  some (1, on)
else
  none) (
  (f_X1_isAfter ce p1 p2).bind fun r1 =>
  if r1 = 0 then
    some (0, 0)
  else
    some (0, 1))
theorem f_L_isAfter_e {ce : Nat → Int64} {on : Int64} {p1 : Int32} {p2 : Int32} : f_L_isAfter ce on p1 p2 = 
  xb (fx_X1_isAfter p1 p2) (fun k1 => if k1 = 1 then
  some (1, on)
else
  none) (
  (f_X1_isAfter ce p1 p2).bind fun r1 =>
  if r1 = 0 then
    some (0, 0)
  else
    some (0, 1)) := rfl
set_option maxHeartbeats 4000000 in
set_option maxRecDepth 100000 in
theorem c_L_isAfter (l : Launch) (hl9 : l.stackTraces = false) (dC : Nat → ClassId) (dI : Nat → Nat → Nat) (cB cI cJ cZ : ClassId) (a : Nat → Nat) (o : Nat) (sz : Nat) (ce : Nat → Int64) (fr : Int64) (un : Int64) (sb : Nat → Int64) (se : Nat → Int64) (so : Nat → Int32) (sc : Int32) (wb : Nat → Int64) (we : Nat → Int64) (wo : Nat → Int32) (wc : Int32) (fb : Nat → Int64) (fe : Nat → Int64) (fo : Nat → Int32) (fc : Int32) (rm : Nat → Int32) (ac : Int32) (rf : Int32) (kn : Int32) (on : Int64) (ov : Value) (p1 : Int32) (p2 : Int32) (res : (Int32) × (Int64)) (hf : f_L_isAfter ce on p1 p2 = some res) : kMw l yL_isAfter wsL_isAfter (kRm 8 1 6 132) dC dI cB cI cJ cZ [.ref (a 0), .int p1, .int p2, .ref o] sz ((wSB cI cJ cZ a ce fr un sb se so sc wb we wo wc fb fe fo fc rm ac rf kn) ++ (wO o on ov)) .int (res.1) ((wSB cI cJ cZ a ce fr un sb se so sc wb we wo wc fb fe fo fc rm ac rf kn) ++ (wO o (res.2) ov)) 1 6 := by
  refine kmet_w (y := yL_isAfter) (cc := cL_isAfter) (maxL := 5) (ret := (some .int)) (hh := [(0, 18, 21, 19)]) RL (kvA 0 (a 0) (kvI 1 p1 (kvI 2 p2 (kvA 3 o kvE)))) kpl_L rfl rfl (Nat.le_of_ble_eq_true rfl) rfl (fun p e s m below meth c A ls hx hb hr hml hht hts hown hlocks hP hK hG hZ hD hA hS hl => ?_)
  have hw0 := hts (.classLink RL 19 "java/lang/IndexOutOfBoundsException") (List.mem_cons_of_mem _ kw_467)
  have hiX2 : ∀ w ∈ u_ws RX2 TX2 2, w ∈ wsL_isAfter := fun w h => List.mem_cons_of_mem _ (ku_X2 w h)
  have h := f_L_isAfter_e.symm.trans hf
  refine lv_aload_n hx hb (kdr dgL_isAfter_0 0 0 rfl rfl) rfl (lv_at hl 3 rfl) ?_
  refine lv_aload_n hx hb (kdr dgL_isAfter_0 0 1 rfl rfl) rfl (lv_at hl 0 rfl) ?_
  refine lv_iload_n hx hb (kdr dgL_isAfter_0 0 2 rfl rfl) rfl (lv_at hl 1 rfl) ?_
  refine lv_iload_n hx hb (kdr dgL_isAfter_0 0 3 rfl rfl) rfl (lv_at hl 2 rfl) ?_
  rcases g_x h with ⟨k1, j1, h⟩ | ⟨-, h⟩
  · refine kq_xh ((wSB cI cJ cZ a ce fr un sb se so sc wb we wo wc fb fe fo fc rm ac rf kn) ++ (wO o on ov)) (fun qP qD qF => vx_runV (As := [.int p1, .int p2]) (rest := [.ref o]) ⟨hx, hb, hml, hown, hts⟩ (x_X1_isAfter l hl9 dC dI cB cI cJ cZ a _ ce fr un sb se so sc wb we wo wc fb fe fo fc rm ac rf kn p1 p2 k1 j1) (kcwV hts kw_962 kv_X1_isAfter rfl rfl ⟨(Nat.le_of_ble_eq_true rfl), (Nat.le_of_ble_eq_true rfl)⟩) (kpVXq (A := A) qP hK qD hG hZ hS qF (krecv_3 (q0 := 0) hK hP rfl)) rfl rfl hl.1 rfl (lv_room (Nat.le_of_ble_eq_true rfl)) (kdr dgL_isAfter_0 0 4 rfl rfl) ⟨(Nat.le_of_ble_eq_true rfl), (Nat.le_of_ble_eq_true rfl)⟩) hP hD hS hA (kFr_l kFr_SB) (fun q9 ceQ H locs hP hD hS hce hcv hcl => ?_)
    by_cases e9 : k1 = 1
    · have h := g_t e9 h
      rw [kEx_1 e9] at hcl
      refine vx_catch (E := "java/lang/IndexOutOfBoundsException") (name := "java/lang/IndexOutOfBoundsException") (own := RL) hown [] ⟨0, 18, 21, 19⟩ [] hht (fun z hz => by cases hz) (by decide) (by decide) hw0 (va_Nw.use rfl (hG.at 4 rfl)) hce hcv hcl ?_
      refine lv_astore (lv' := (kvA 4 q9 (kvA 0 (a 0) (kvI 1 p1 (kvI 2 p2 (kvA 3 o kvE)))))) hx hb (kdr dgL_isAfter_0 1 1 rfl rfl) hl (by decide) rfl (fun ls hl => ?_)
      refine lv_iconst (v := 1) hx hb (kdr dgL_isAfter_0 1 2 rfl rfl) (by decide) ?_
      have h := Option.some.inj h
      subst h
      refine W.widen (k := 1) (n := 6) (Nat.le_of_ble_eq_true rfl) (Nat.le_of_ble_eq_true rfl) ?_
      exact kret_i (v := 1) hx hb hr rfl hlocks hS hP (kdr dgL_isAfter_0 1 3 rfl rfl)
    · have h := g_f e9 h
      rw [kEx_2 e9] at hcl
      cases h
  · obtain ⟨r1, g1, h⟩ := g_b h
    refine kq_i ((wSB cI cJ cZ a ce fr un sb se so sc wb we wo wc fb fe fo fc rm ac rf kn) ++ (wO o on ov)) (fun qP qD qF => va_runV (As := [.int p1, .int p2]) (rest := [.ref o]) ⟨hx, hb, hml, hown, hts⟩ (c_X1_isAfter l dC dI cB cI cJ cZ a _ ce fr un sb se so sc wb we wo wc fb fe fo fc rm ac rf kn p1 p2 r1 g1) (kcwV hts kw_962 kv_X1_isAfter rfl rfl ⟨(Nat.le_of_ble_eq_true rfl), (Nat.le_of_ble_eq_true rfl)⟩) (kpV (A := A) qP hK qD hG (krecv_3 (q0 := 0) hK hP rfl)) rfl rfl hl.1 rfl (lv_room (Nat.le_of_ble_eq_true rfl)) (kdr dgL_isAfter_0 0 4 rfl rfl) ⟨(Nat.le_of_ble_eq_true rfl), (Nat.le_of_ble_eq_true rfl)⟩) hP hD hS hA (kFr_l kFr_SB) (fun H locs hP hD hS br1 => ?_)
    refine lv_if_eq (tgt := 14) hx hb (kdr dgL_isAfter_0 0 5 rfl rfl) (by decide) (fun c2 => ?_) (fun c2 => ?_)
    · have h := g_t c2 h
      refine lv_lconst (v := 0) hx hb (kdr dgL_isAfter_0 0 8 rfl rfl) (by decide) ?_
      refine va_putN (host := RL) (D := (dC, dI)) (ci := 4) (v := .long 0) (ty := .long) (C := RX2) (T := TX2) (N := 2) hx hb hts hiX2 tyX2 tyX2_ok nmX2 hown hK hP hD hS 15 rfl rfl 0 (by decide) (va_Nw.use rfl (hG.at 7 rfl)) (fun _ h9 => h9) rfl (by decide +kernel) rfl rfl (Nat.le_of_ble_eq_true rfl) (kdr dgL_isAfter_0 0 9 rfl rfl) (fun H locs hP hD hS => ?_)
      have hP : va_P (dC, dI) vwCl ((wSB cI cJ cZ a ce fr un sb se so sc wb we wo wc fb fe fo fc rm ac rf kn) ++ (wO o 0 ov)) H := hP
      have hD : va_D A ((wSB cI cJ cZ a ce fr un sb se so sc wb we wo wc fb fe fo fc rm ac rf kn) ++ (wO o 0 ov)) := hD
      refine lv_goto (tgt := 25) hx hb (kdr dgL_isAfter_0 1 0 rfl rfl) (by decide) ?_
      refine lv_iconst (v := 0) hx hb (kdr dgL_isAfter_0 1 4 rfl rfl) (by decide) ?_
      have h := Option.some.inj h
      subst h
      refine W.widen (k := 1) (n := 6) (Nat.le_of_ble_eq_true rfl) (Nat.le_of_ble_eq_true rfl) ?_
      exact kret_i (v := 0) hx hb hr rfl hlocks hS hP (kdr dgL_isAfter_0 1 5 rfl rfl)
    · have h := g_f c2 h
      refine lv_lconst (v := 1) hx hb (kdr dgL_isAfter_0 0 6 rfl rfl) (by decide) ?_
      refine lv_goto (tgt := 15) hx hb (kdr dgL_isAfter_0 0 7 rfl rfl) (by decide) ?_
      refine va_putN (host := RL) (D := (dC, dI)) (ci := 4) (v := .long 1) (ty := .long) (C := RX2) (T := TX2) (N := 2) hx hb hts hiX2 tyX2 tyX2_ok nmX2 hown hK hP hD hS 15 rfl rfl 0 (by decide) (va_Nw.use rfl (hG.at 7 rfl)) (fun _ h9 => h9) rfl (by decide +kernel) rfl rfl (Nat.le_of_ble_eq_true rfl) (kdr dgL_isAfter_0 0 9 rfl rfl) (fun H locs hP hD hS => ?_)
      have hP : va_P (dC, dI) vwCl ((wSB cI cJ cZ a ce fr un sb se so sc wb we wo wc fb fe fo fc rm ac rf kn) ++ (wO o 1 ov)) H := hP
      have hD : va_D A ((wSB cI cJ cZ a ce fr un sb se so sc wb we wo wc fb fe fo fc rm ac rf kn) ++ (wO o 1 ov)) := hD
      refine lv_goto (tgt := 25) hx hb (kdr dgL_isAfter_0 1 0 rfl rfl) (by decide) ?_
      refine lv_iconst (v := 0) hx hb (kdr dgL_isAfter_0 1 4 rfl rfl) (by decide) ?_
      have h := Option.some.inj h
      subst h
      refine W.widen (k := 1) (n := 6) (Nat.le_of_ble_eq_true rfl) (Nat.le_of_ble_eq_true rfl) ?_
      exact kret_i (v := 0) hx hb hr rfl hlocks hS hP (kdr dgL_isAfter_0 1 5 rfl rfl)
noncomputable abbrev wsL_same : List Cond := Cond.codeWith yL_same cL_same 6 (some .int) [(0, 20, 23, 19), (0, 20, 27, 21)] :: kBIG
noncomputable def f_L_same (ce : Nat → Int64) (on : Int64) (p1 : Int32) (p2 : Int32) (p3 : Int32) : Option ((Int32) × (Int64)) :=
  xb (fx_X1_same p1 p2 p3) (fun k1 => if k1 = 1 then
  some (1, on)
else
  some (2, on)) (
  (f_X1_same ce p1 p2 p3).bind fun r1 =>
  if r1 = 0 then
    some (0, 0)
  else
    some (0, 1))
theorem f_L_same_e {ce : Nat → Int64} {on : Int64} {p1 : Int32} {p2 : Int32} {p3 : Int32} : f_L_same ce on p1 p2 p3 = 
  xb (fx_X1_same p1 p2 p3) (fun k1 => if k1 = 1 then
  some (1, on)
else
  some (2, on)) (
  (f_X1_same ce p1 p2 p3).bind fun r1 =>
  if r1 = 0 then
    some (0, 0)
  else
    some (0, 1)) := rfl
set_option maxHeartbeats 4000000 in
set_option maxRecDepth 100000 in
theorem c_L_same (l : Launch) (hl9 : l.stackTraces = false) (dC : Nat → ClassId) (dI : Nat → Nat → Nat) (cB cI cJ cZ : ClassId) (a : Nat → Nat) (o : Nat) (sz : Nat) (ce : Nat → Int64) (fr : Int64) (un : Int64) (sb : Nat → Int64) (se : Nat → Int64) (so : Nat → Int32) (sc : Int32) (wb : Nat → Int64) (we : Nat → Int64) (wo : Nat → Int32) (wc : Int32) (fb : Nat → Int64) (fe : Nat → Int64) (fo : Nat → Int32) (fc : Int32) (rm : Nat → Int32) (ac : Int32) (rf : Int32) (kn : Int32) (on : Int64) (ov : Value) (p1 : Int32) (p2 : Int32) (p3 : Int32) (res : (Int32) × (Int64)) (hf : f_L_same ce on p1 p2 p3 = some res) : kMw l yL_same wsL_same (kRm 8 1 6 133) dC dI cB cI cJ cZ [.ref (a 0), .int p1, .int p2, .int p3, .ref o] sz ((wSB cI cJ cZ a ce fr un sb se so sc wb we wo wc fb fe fo fc rm ac rf kn) ++ (wO o on ov)) .int (res.1) ((wSB cI cJ cZ a ce fr un sb se so sc wb we wo wc fb fe fo fc rm ac rf kn) ++ (wO o (res.2) ov)) 1 6 := by
  refine kmet_w (y := yL_same) (cc := cL_same) (maxL := 6) (ret := (some .int)) (hh := [(0, 20, 23, 19), (0, 20, 27, 21)]) RL (kvA 0 (a 0) (kvI 1 p1 (kvI 2 p2 (kvI 3 p3 (kvA 4 o kvE))))) kpl_L rfl rfl (Nat.le_of_ble_eq_true rfl) rfl (fun p e s m below meth c A ls hx hb hr hml hht hts hown hlocks hP hK hG hZ hD hA hS hl => ?_)
  have hw0 := hts (.classLink RL 19 "java/lang/IndexOutOfBoundsException") (List.mem_cons_of_mem _ kw_467)
  have hw1 := hts (.classLink RL 21 "java/lang/IllegalArgumentException") (List.mem_cons_of_mem _ kw_468)
  have hiX2 : ∀ w ∈ u_ws RX2 TX2 2, w ∈ wsL_same := fun w h => List.mem_cons_of_mem _ (ku_X2 w h)
  have h := f_L_same_e.symm.trans hf
  refine lv_aload hx hb (kdr dgL_same_0 0 0 rfl rfl) (lv_at hl 4 rfl) ?_
  refine lv_aload_n hx hb (kdr dgL_same_0 0 1 rfl rfl) rfl (lv_at hl 0 rfl) ?_
  refine lv_iload_n hx hb (kdr dgL_same_0 0 2 rfl rfl) rfl (lv_at hl 1 rfl) ?_
  refine lv_iload_n hx hb (kdr dgL_same_0 0 3 rfl rfl) rfl (lv_at hl 2 rfl) ?_
  refine lv_iload_n hx hb (kdr dgL_same_0 0 4 rfl rfl) rfl (lv_at hl 3 rfl) ?_
  rcases g_x h with ⟨k1, j1, h⟩ | ⟨-, h⟩
  · refine kq_xh ((wSB cI cJ cZ a ce fr un sb se so sc wb we wo wc fb fe fo fc rm ac rf kn) ++ (wO o on ov)) (fun qP qD qF => vx_runV (As := [.int p1, .int p2, .int p3]) (rest := [.ref o]) ⟨hx, hb, hml, hown, hts⟩ (x_X1_same l hl9 dC dI cB cI cJ cZ a _ ce fr un sb se so sc wb we wo wc fb fe fo fc rm ac rf kn p1 p2 p3 k1 j1) (kcwV hts kw_969 kv_X1_same rfl rfl ⟨(Nat.le_of_ble_eq_true rfl), (Nat.le_of_ble_eq_true rfl)⟩) (kpVXq (A := A) qP hK qD hG hZ hS qF (krecv_3 (q0 := 0) hK hP rfl)) rfl rfl hl.1 rfl (lv_room (Nat.le_of_ble_eq_true rfl)) (kdr dgL_same_0 0 5 rfl rfl) ⟨(Nat.le_of_ble_eq_true rfl), (Nat.le_of_ble_eq_true rfl)⟩) hP hD hS hA (kFr_l kFr_SB) (fun q9 ceQ H locs hP hD hS hce hcv hcl => ?_)
    by_cases e9 : k1 = 1
    · have h := g_t e9 h
      rw [kEx_1 e9] at hcl
      refine vx_catch (E := "java/lang/IndexOutOfBoundsException") (name := "java/lang/IndexOutOfBoundsException") (own := RL) hown [] ⟨0, 20, 23, 19⟩ [⟨0, 20, 27, 21⟩] hht (fun z hz => by cases hz) (by decide) (by decide) hw0 (va_Nw.use rfl (hG.at 4 rfl)) hce hcv hcl ?_
      refine lv_astore (lv' := (kvA 5 q9 (kvA 0 (a 0) (kvI 1 p1 (kvI 2 p2 (kvI 3 p3 (kvA 4 o kvE))))))) hx hb (kdr dgL_same_0 1 2 rfl rfl) hl (by decide) rfl (fun ls hl => ?_)
      refine lv_iconst (v := 1) hx hb (kdr dgL_same_0 1 3 rfl rfl) (by decide) ?_
      have h := Option.some.inj h
      subst h
      refine W.widen (k := 1) (n := 6) (Nat.le_of_ble_eq_true rfl) (Nat.le_of_ble_eq_true rfl) ?_
      exact kret_i (v := 1) hx hb hr rfl hlocks hS hP (kdr dgL_same_0 1 4 rfl rfl)
    · have h := g_f e9 h
      rw [kEx_2 e9] at hcl
      refine vx_catch (E := "java/lang/IllegalArgumentException") (name := "java/lang/IllegalArgumentException") (own := RL) hown [⟨0, 20, 23, 19⟩] ⟨0, 20, 27, 21⟩ [] hht (fun z hz => by rcases List.mem_singleton.mp hz with rfl; exact Or.inr ⟨by decide, _, hw0, hG.2⟩) (by decide) (by decide) hw1 (va_Nw.use rfl (hG.at 5 rfl)) hce hcv hcl ?_
      refine lv_astore (lv' := (kvA 5 q9 (kvA 0 (a 0) (kvI 1 p1 (kvI 2 p2 (kvI 3 p3 (kvA 4 o kvE))))))) hx hb (kdr dgL_same_0 1 5 rfl rfl) hl (by decide) rfl (fun ls hl => ?_)
      refine lv_iconst (v := 2) hx hb (kdr dgL_same_0 1 6 rfl rfl) (by decide) ?_
      have h := Option.some.inj h
      subst h
      refine W.widen (k := 1) (n := 6) (Nat.le_of_ble_eq_true rfl) (Nat.le_of_ble_eq_true rfl) ?_
      exact kret_i (v := 2) hx hb hr rfl hlocks hS hP (kdr dgL_same_0 1 7 rfl rfl)
  · obtain ⟨r1, g1, h⟩ := g_b h
    refine kq_i ((wSB cI cJ cZ a ce fr un sb se so sc wb we wo wc fb fe fo fc rm ac rf kn) ++ (wO o on ov)) (fun qP qD qF => va_runV (As := [.int p1, .int p2, .int p3]) (rest := [.ref o]) ⟨hx, hb, hml, hown, hts⟩ (c_X1_same l dC dI cB cI cJ cZ a _ ce fr un sb se so sc wb we wo wc fb fe fo fc rm ac rf kn p1 p2 p3 r1 g1) (kcwV hts kw_969 kv_X1_same rfl rfl ⟨(Nat.le_of_ble_eq_true rfl), (Nat.le_of_ble_eq_true rfl)⟩) (kpV (A := A) qP hK qD hG (krecv_3 (q0 := 0) hK hP rfl)) rfl rfl hl.1 rfl (lv_room (Nat.le_of_ble_eq_true rfl)) (kdr dgL_same_0 0 5 rfl rfl) ⟨(Nat.le_of_ble_eq_true rfl), (Nat.le_of_ble_eq_true rfl)⟩) hP hD hS hA (kFr_l kFr_SB) (fun H locs hP hD hS br1 => ?_)
    refine lv_if_eq (tgt := 16) hx hb (kdr dgL_same_0 0 6 rfl rfl) (by decide) (fun c2 => ?_) (fun c2 => ?_)
    · have h := g_t c2 h
      refine lv_lconst (v := 0) hx hb (kdr dgL_same_0 0 9 rfl rfl) (by decide) ?_
      refine va_putN (host := RL) (D := (dC, dI)) (ci := 4) (v := .long 0) (ty := .long) (C := RX2) (T := TX2) (N := 2) hx hb hts hiX2 tyX2 tyX2_ok nmX2 hown hK hP hD hS 15 rfl rfl 0 (by decide) (va_Nw.use rfl (hG.at 7 rfl)) (fun _ h9 => h9) rfl (by decide +kernel) rfl rfl (Nat.le_of_ble_eq_true rfl) (kdr dgL_same_0 1 0 rfl rfl) (fun H locs hP hD hS => ?_)
      have hP : va_P (dC, dI) vwCl ((wSB cI cJ cZ a ce fr un sb se so sc wb we wo wc fb fe fo fc rm ac rf kn) ++ (wO o 0 ov)) H := hP
      have hD : va_D A ((wSB cI cJ cZ a ce fr un sb se so sc wb we wo wc fb fe fo fc rm ac rf kn) ++ (wO o 0 ov)) := hD
      refine lv_goto (tgt := 31) hx hb (kdr dgL_same_0 1 1 rfl rfl) (by decide) ?_
      refine lv_iconst (v := 0) hx hb (kdr dgL_same_0 1 8 rfl rfl) (by decide) ?_
      have h := Option.some.inj h
      subst h
      refine W.widen (k := 1) (n := 6) (Nat.le_of_ble_eq_true rfl) (Nat.le_of_ble_eq_true rfl) ?_
      exact kret_i (v := 0) hx hb hr rfl hlocks hS hP (kdr dgL_same_0 1 9 rfl rfl)
    · have h := g_f c2 h
      refine lv_lconst (v := 1) hx hb (kdr dgL_same_0 0 7 rfl rfl) (by decide) ?_
      refine lv_goto (tgt := 17) hx hb (kdr dgL_same_0 0 8 rfl rfl) (by decide) ?_
      refine va_putN (host := RL) (D := (dC, dI)) (ci := 4) (v := .long 1) (ty := .long) (C := RX2) (T := TX2) (N := 2) hx hb hts hiX2 tyX2 tyX2_ok nmX2 hown hK hP hD hS 15 rfl rfl 0 (by decide) (va_Nw.use rfl (hG.at 7 rfl)) (fun _ h9 => h9) rfl (by decide +kernel) rfl rfl (Nat.le_of_ble_eq_true rfl) (kdr dgL_same_0 1 0 rfl rfl) (fun H locs hP hD hS => ?_)
      have hP : va_P (dC, dI) vwCl ((wSB cI cJ cZ a ce fr un sb se so sc wb we wo wc fb fe fo fc rm ac rf kn) ++ (wO o 1 ov)) H := hP
      have hD : va_D A ((wSB cI cJ cZ a ce fr un sb se so sc wb we wo wc fb fe fo fc rm ac rf kn) ++ (wO o 1 ov)) := hD
      refine lv_goto (tgt := 31) hx hb (kdr dgL_same_0 1 1 rfl rfl) (by decide) ?_
      refine lv_iconst (v := 0) hx hb (kdr dgL_same_0 1 8 rfl rfl) (by decide) ?_
      have h := Option.some.inj h
      subst h
      refine W.widen (k := 1) (n := 6) (Nat.le_of_ble_eq_true rfl) (Nat.le_of_ble_eq_true rfl) ?_
      exact kret_i (v := 0) hx hb hr rfl hlocks hS hP (kdr dgL_same_0 1 9 rfl rfl)
noncomputable abbrev wsL_apart : List Cond := Cond.codeWith yL_apart cL_apart 6 (some .int) [(0, 13, 16, 19), (0, 13, 20, 21)] :: kBIG
noncomputable def f_L_apart (ce : Nat → Int64) (on : Int64) (p1 : Int32) (p2 : Int32) (p3 : Int32) : Option ((Int32) × (Int64)) :=
  xb (fx_X1_apart p1 p2 p3) (fun k1 => if k1 = 1 then
  some (1, on)
else
  some (2, on)) (
  (f_X1_apart ce p1 p2 p3).bind fun r1 =>
  some (0, r1.toInt64))
theorem f_L_apart_e {ce : Nat → Int64} {on : Int64} {p1 : Int32} {p2 : Int32} {p3 : Int32} : f_L_apart ce on p1 p2 p3 = 
  xb (fx_X1_apart p1 p2 p3) (fun k1 => if k1 = 1 then
  some (1, on)
else
  some (2, on)) (
  (f_X1_apart ce p1 p2 p3).bind fun r1 =>
  some (0, r1.toInt64)) := rfl
set_option maxHeartbeats 4000000 in
set_option maxRecDepth 100000 in
theorem c_L_apart (l : Launch) (hl9 : l.stackTraces = false) (dC : Nat → ClassId) (dI : Nat → Nat → Nat) (cB cI cJ cZ : ClassId) (a : Nat → Nat) (o : Nat) (sz : Nat) (ce : Nat → Int64) (fr : Int64) (un : Int64) (sb : Nat → Int64) (se : Nat → Int64) (so : Nat → Int32) (sc : Int32) (wb : Nat → Int64) (we : Nat → Int64) (wo : Nat → Int32) (wc : Int32) (fb : Nat → Int64) (fe : Nat → Int64) (fo : Nat → Int32) (fc : Int32) (rm : Nat → Int32) (ac : Int32) (rf : Int32) (kn : Int32) (on : Int64) (ov : Value) (p1 : Int32) (p2 : Int32) (p3 : Int32) (res : (Int32) × (Int64)) (hf : f_L_apart ce on p1 p2 p3 = some res) : kMw l yL_apart wsL_apart (kRm 8 1 6 133) dC dI cB cI cJ cZ [.ref (a 0), .int p1, .int p2, .int p3, .ref o] sz ((wSB cI cJ cZ a ce fr un sb se so sc wb we wo wc fb fe fo fc rm ac rf kn) ++ (wO o on ov)) .int (res.1) ((wSB cI cJ cZ a ce fr un sb se so sc wb we wo wc fb fe fo fc rm ac rf kn) ++ (wO o (res.2) ov)) 1 6 := by
  refine kmet_w (y := yL_apart) (cc := cL_apart) (maxL := 6) (ret := (some .int)) (hh := [(0, 13, 16, 19), (0, 13, 20, 21)]) RL (kvA 0 (a 0) (kvI 1 p1 (kvI 2 p2 (kvI 3 p3 (kvA 4 o kvE))))) kpl_L rfl rfl (Nat.le_of_ble_eq_true rfl) rfl (fun p e s m below meth c A ls hx hb hr hml hht hts hown hlocks hP hK hG hZ hD hA hS hl => ?_)
  have hw0 := hts (.classLink RL 19 "java/lang/IndexOutOfBoundsException") (List.mem_cons_of_mem _ kw_467)
  have hw1 := hts (.classLink RL 21 "java/lang/IllegalArgumentException") (List.mem_cons_of_mem _ kw_468)
  have hiX2 : ∀ w ∈ u_ws RX2 TX2 2, w ∈ wsL_apart := fun w h => List.mem_cons_of_mem _ (ku_X2 w h)
  have h := f_L_apart_e.symm.trans hf
  refine lv_aload hx hb (kdr dgL_apart_0 0 0 rfl rfl) (lv_at hl 4 rfl) ?_
  refine lv_aload_n hx hb (kdr dgL_apart_0 0 1 rfl rfl) rfl (lv_at hl 0 rfl) ?_
  refine lv_iload_n hx hb (kdr dgL_apart_0 0 2 rfl rfl) rfl (lv_at hl 1 rfl) ?_
  refine lv_iload_n hx hb (kdr dgL_apart_0 0 3 rfl rfl) rfl (lv_at hl 2 rfl) ?_
  refine lv_iload_n hx hb (kdr dgL_apart_0 0 4 rfl rfl) rfl (lv_at hl 3 rfl) ?_
  rcases g_x h with ⟨k1, j1, h⟩ | ⟨-, h⟩
  · refine kq_xh ((wSB cI cJ cZ a ce fr un sb se so sc wb we wo wc fb fe fo fc rm ac rf kn) ++ (wO o on ov)) (fun qP qD qF => vx_runV (As := [.int p1, .int p2, .int p3]) (rest := [.ref o]) ⟨hx, hb, hml, hown, hts⟩ (x_X1_apart l hl9 dC dI cB cI cJ cZ a _ ce fr un sb se so sc wb we wo wc fb fe fo fc rm ac rf kn p1 p2 p3 k1 j1) (kcwV hts kw_976 kv_X1_apart rfl rfl ⟨(Nat.le_of_ble_eq_true rfl), (Nat.le_of_ble_eq_true rfl)⟩) (kpVXq (A := A) qP hK qD hG hZ hS qF (krecv_3 (q0 := 0) hK hP rfl)) rfl rfl hl.1 rfl (lv_room (Nat.le_of_ble_eq_true rfl)) (kdr dgL_apart_0 0 5 rfl rfl) ⟨(Nat.le_of_ble_eq_true rfl), (Nat.le_of_ble_eq_true rfl)⟩) hP hD hS hA (kFr_l kFr_SB) (fun q9 ceQ H locs hP hD hS hce hcv hcl => ?_)
    by_cases e9 : k1 = 1
    · have h := g_t e9 h
      rw [kEx_1 e9] at hcl
      refine vx_catch (E := "java/lang/IndexOutOfBoundsException") (name := "java/lang/IndexOutOfBoundsException") (own := RL) hown [] ⟨0, 13, 16, 19⟩ [⟨0, 13, 20, 21⟩] hht (fun z hz => by cases hz) (by decide) (by decide) hw0 (va_Nw.use rfl (hG.at 4 rfl)) hce hcv hcl ?_
      refine lv_astore (lv' := (kvA 5 q9 (kvA 0 (a 0) (kvI 1 p1 (kvI 2 p2 (kvI 3 p3 (kvA 4 o kvE))))))) hx hb (kdr dgL_apart_0 0 9 rfl rfl) hl (by decide) rfl (fun ls hl => ?_)
      refine lv_iconst (v := 1) hx hb (kdr dgL_apart_0 1 0 rfl rfl) (by decide) ?_
      have h := Option.some.inj h
      subst h
      refine W.widen (k := 1) (n := 6) (Nat.le_of_ble_eq_true rfl) (Nat.le_of_ble_eq_true rfl) ?_
      exact kret_i (v := 1) hx hb hr rfl hlocks hS hP (kdr dgL_apart_0 1 1 rfl rfl)
    · have h := g_f e9 h
      rw [kEx_2 e9] at hcl
      refine vx_catch (E := "java/lang/IllegalArgumentException") (name := "java/lang/IllegalArgumentException") (own := RL) hown [⟨0, 13, 16, 19⟩] ⟨0, 13, 20, 21⟩ [] hht (fun z hz => by rcases List.mem_singleton.mp hz with rfl; exact Or.inr ⟨by decide, _, hw0, hG.2⟩) (by decide) (by decide) hw1 (va_Nw.use rfl (hG.at 5 rfl)) hce hcv hcl ?_
      refine lv_astore (lv' := (kvA 5 q9 (kvA 0 (a 0) (kvI 1 p1 (kvI 2 p2 (kvI 3 p3 (kvA 4 o kvE))))))) hx hb (kdr dgL_apart_0 1 2 rfl rfl) hl (by decide) rfl (fun ls hl => ?_)
      refine lv_iconst (v := 2) hx hb (kdr dgL_apart_0 1 3 rfl rfl) (by decide) ?_
      have h := Option.some.inj h
      subst h
      refine W.widen (k := 1) (n := 6) (Nat.le_of_ble_eq_true rfl) (Nat.le_of_ble_eq_true rfl) ?_
      exact kret_i (v := 2) hx hb hr rfl hlocks hS hP (kdr dgL_apart_0 1 4 rfl rfl)
  · obtain ⟨r1, g1, h⟩ := g_b h
    refine kq_i ((wSB cI cJ cZ a ce fr un sb se so sc wb we wo wc fb fe fo fc rm ac rf kn) ++ (wO o on ov)) (fun qP qD qF => va_runV (As := [.int p1, .int p2, .int p3]) (rest := [.ref o]) ⟨hx, hb, hml, hown, hts⟩ (c_X1_apart l dC dI cB cI cJ cZ a _ ce fr un sb se so sc wb we wo wc fb fe fo fc rm ac rf kn p1 p2 p3 r1 g1) (kcwV hts kw_976 kv_X1_apart rfl rfl ⟨(Nat.le_of_ble_eq_true rfl), (Nat.le_of_ble_eq_true rfl)⟩) (kpV (A := A) qP hK qD hG (krecv_3 (q0 := 0) hK hP rfl)) rfl rfl hl.1 rfl (lv_room (Nat.le_of_ble_eq_true rfl)) (kdr dgL_apart_0 0 5 rfl rfl) ⟨(Nat.le_of_ble_eq_true rfl), (Nat.le_of_ble_eq_true rfl)⟩) hP hD hS hA (kFr_l kFr_SB) (fun H locs hP hD hS br1 => ?_)
    refine lv_i2l (v := r1.toInt64) hx hb (kdr dgL_apart_0 0 6 rfl rfl) rfl ?_
    refine va_putN (host := RL) (D := (dC, dI)) (ci := 4) (v := .long r1.toInt64) (ty := .long) (C := RX2) (T := TX2) (N := 2) hx hb hts hiX2 tyX2 tyX2_ok nmX2 hown hK hP hD hS 15 rfl rfl 0 (by decide) (va_Nw.use rfl (hG.at 7 rfl)) (fun _ h9 => h9) rfl (by decide +kernel) rfl rfl (Nat.le_of_ble_eq_true rfl) (kdr dgL_apart_0 0 7 rfl rfl) (fun H locs hP hD hS => ?_)
    have hP : va_P (dC, dI) vwCl ((wSB cI cJ cZ a ce fr un sb se so sc wb we wo wc fb fe fo fc rm ac rf kn) ++ (wO o r1.toInt64 ov)) H := hP
    have hD : va_D A ((wSB cI cJ cZ a ce fr un sb se so sc wb we wo wc fb fe fo fc rm ac rf kn) ++ (wO o r1.toInt64 ov)) := hD
    refine lv_goto (tgt := 24) hx hb (kdr dgL_apart_0 0 8 rfl rfl) (by decide) ?_
    refine lv_iconst (v := 0) hx hb (kdr dgL_apart_0 1 5 rfl rfl) (by decide) ?_
    have h := Option.some.inj h
    subst h
    refine W.widen (k := 1) (n := 6) (Nat.le_of_ble_eq_true rfl) (Nat.le_of_ble_eq_true rfl) ?_
    exact kret_i (v := 0) hx hb hr rfl hlocks hS hP (kdr dgL_apart_0 1 6 rfl rfl)
noncomputable abbrev wsL_calendar : List Cond := Cond.codeWith yL_calendar cL_calendar 4 (some .int) [(0, 10, 13, 21)] :: kBIG
noncomputable def f_L_calendar (fr : Int64) (un : Int64) (on : Int64) (p1 : Int32) : Option ((Int32) × (Int64)) :=
  xb (fx_X1_calendar p1) (fun k1 => if k1 = 1 then
  none
else
  some (1, on)) (
  (f_X1_calendar fr un p1).bind fun r1 =>
  some (0, r1.toInt64))
theorem f_L_calendar_e {fr : Int64} {un : Int64} {on : Int64} {p1 : Int32} : f_L_calendar fr un on p1 = 
  xb (fx_X1_calendar p1) (fun k1 => if k1 = 1 then
  none
else
  some (1, on)) (
  (f_X1_calendar fr un p1).bind fun r1 =>
  some (0, r1.toInt64)) := rfl
set_option maxHeartbeats 4000000 in
set_option maxRecDepth 100000 in
theorem c_L_calendar (l : Launch) (hl9 : l.stackTraces = false) (dC : Nat → ClassId) (dI : Nat → Nat → Nat) (cB cI cJ cZ : ClassId) (a : Nat → Nat) (o : Nat) (sz : Nat) (ce : Nat → Int64) (fr : Int64) (un : Int64) (sb : Nat → Int64) (se : Nat → Int64) (so : Nat → Int32) (sc : Int32) (wb : Nat → Int64) (we : Nat → Int64) (wo : Nat → Int32) (wc : Int32) (fb : Nat → Int64) (fe : Nat → Int64) (fo : Nat → Int32) (fc : Int32) (rm : Nat → Int32) (ac : Int32) (rf : Int32) (kn : Int32) (on : Int64) (ov : Value) (p1 : Int32) (res : (Int32) × (Int64)) (hf : f_L_calendar fr un on p1 = some res) : kMw l yL_calendar wsL_calendar (kRm 8 1 6 131) dC dI cB cI cJ cZ [.ref (a 0), .int p1, .ref o] sz ((wSB cI cJ cZ a ce fr un sb se so sc wb we wo wc fb fe fo fc rm ac rf kn) ++ (wO o on ov)) .int (res.1) ((wSB cI cJ cZ a ce fr un sb se so sc wb we wo wc fb fe fo fc rm ac rf kn) ++ (wO o (res.2) ov)) 1 6 := by
  refine kmet_w (y := yL_calendar) (cc := cL_calendar) (maxL := 4) (ret := (some .int)) (hh := [(0, 10, 13, 21)]) RL (kvA 0 (a 0) (kvI 1 p1 (kvA 2 o kvE))) kpl_L rfl rfl (Nat.le_of_ble_eq_true rfl) rfl (fun p e s m below meth c A ls hx hb hr hml hht hts hown hlocks hP hK hG hZ hD hA hS hl => ?_)
  have hw0 := hts (.classLink RL 21 "java/lang/IllegalArgumentException") (List.mem_cons_of_mem _ kw_468)
  have hiX2 : ∀ w ∈ u_ws RX2 TX2 2, w ∈ wsL_calendar := fun w h => List.mem_cons_of_mem _ (ku_X2 w h)
  have h := f_L_calendar_e.symm.trans hf
  refine lv_aload_n hx hb (kdr dgL_calendar_0 0 0 rfl rfl) rfl (lv_at hl 2 rfl) ?_
  refine lv_aload_n hx hb (kdr dgL_calendar_0 0 1 rfl rfl) rfl (lv_at hl 0 rfl) ?_
  refine lv_iload_n hx hb (kdr dgL_calendar_0 0 2 rfl rfl) rfl (lv_at hl 1 rfl) ?_
  rcases g_x h with ⟨k1, j1, h⟩ | ⟨-, h⟩
  · refine kq_xh ((wSB cI cJ cZ a ce fr un sb se so sc wb we wo wc fb fe fo fc rm ac rf kn) ++ (wO o on ov)) (fun qP qD qF => vx_runV (As := [.int p1]) (rest := [.ref o]) ⟨hx, hb, hml, hown, hts⟩ (x_X1_calendar l hl9 dC dI cB cI cJ cZ a _ ce fr un sb se so sc wb we wo wc fb fe fo fc rm ac rf kn p1 k1 j1) (kcwV hts kw_983 kv_X1_calendar rfl rfl ⟨(Nat.le_of_ble_eq_true rfl), (Nat.le_of_ble_eq_true rfl)⟩) (kpVXq (A := A) qP hK qD hG hZ hS qF (krecv_3 (q0 := 0) hK hP rfl)) rfl rfl hl.1 rfl (lv_room (Nat.le_of_ble_eq_true rfl)) (kdr dgL_calendar_0 0 3 rfl rfl) ⟨(Nat.le_of_ble_eq_true rfl), (Nat.le_of_ble_eq_true rfl)⟩) hP hD hS hA (kFr_l kFr_SB) (fun q9 ceQ H locs hP hD hS hce hcv hcl => ?_)
    by_cases e9 : k1 = 1
    · have h := g_t e9 h
      rw [kEx_1 e9] at hcl
      cases h
    · have h := g_f e9 h
      rw [kEx_2 e9] at hcl
      refine vx_catch (E := "java/lang/IllegalArgumentException") (name := "java/lang/IllegalArgumentException") (own := RL) hown [] ⟨0, 10, 13, 21⟩ [] hht (fun z hz => by cases hz) (by decide) (by decide) hw0 (va_Nw.use rfl (hG.at 5 rfl)) hce hcv hcl ?_
      refine lv_astore_n (lv' := (kvA 3 q9 (kvA 0 (a 0) (kvI 1 p1 (kvA 2 o kvE))))) hx hb (kdr dgL_calendar_0 0 7 rfl rfl) rfl hl (by decide) rfl (fun ls hl => ?_)
      refine lv_iconst (v := 1) hx hb (kdr dgL_calendar_0 0 8 rfl rfl) (by decide) ?_
      have h := Option.some.inj h
      subst h
      refine W.widen (k := 1) (n := 6) (Nat.le_of_ble_eq_true rfl) (Nat.le_of_ble_eq_true rfl) ?_
      exact kret_i (v := 1) hx hb hr rfl hlocks hS hP (kdr dgL_calendar_0 0 9 rfl rfl)
  · obtain ⟨r1, g1, h⟩ := g_b h
    refine kq_i ((wSB cI cJ cZ a ce fr un sb se so sc wb we wo wc fb fe fo fc rm ac rf kn) ++ (wO o on ov)) (fun qP qD qF => va_runV (As := [.int p1]) (rest := [.ref o]) ⟨hx, hb, hml, hown, hts⟩ (c_X1_calendar l dC dI cB cI cJ cZ a _ ce fr un sb se so sc wb we wo wc fb fe fo fc rm ac rf kn p1 r1 g1) (kcwV hts kw_983 kv_X1_calendar rfl rfl ⟨(Nat.le_of_ble_eq_true rfl), (Nat.le_of_ble_eq_true rfl)⟩) (kpV (A := A) qP hK qD hG (krecv_3 (q0 := 0) hK hP rfl)) rfl rfl hl.1 rfl (lv_room (Nat.le_of_ble_eq_true rfl)) (kdr dgL_calendar_0 0 3 rfl rfl) ⟨(Nat.le_of_ble_eq_true rfl), (Nat.le_of_ble_eq_true rfl)⟩) hP hD hS hA (kFr_l kFr_SB) (fun H locs hP hD hS br1 => ?_)
    refine lv_i2l (v := r1.toInt64) hx hb (kdr dgL_calendar_0 0 4 rfl rfl) rfl ?_
    refine va_putN (host := RL) (D := (dC, dI)) (ci := 4) (v := .long r1.toInt64) (ty := .long) (C := RX2) (T := TX2) (N := 2) hx hb hts hiX2 tyX2 tyX2_ok nmX2 hown hK hP hD hS 15 rfl rfl 0 (by decide) (va_Nw.use rfl (hG.at 7 rfl)) (fun _ h9 => h9) rfl (by decide +kernel) rfl rfl (Nat.le_of_ble_eq_true rfl) (kdr dgL_calendar_0 0 5 rfl rfl) (fun H locs hP hD hS => ?_)
    have hP : va_P (dC, dI) vwCl ((wSB cI cJ cZ a ce fr un sb se so sc wb we wo wc fb fe fo fc rm ac rf kn) ++ (wO o r1.toInt64 ov)) H := hP
    have hD : va_D A ((wSB cI cJ cZ a ce fr un sb se so sc wb we wo wc fb fe fo fc rm ac rf kn) ++ (wO o r1.toInt64 ov)) := hD
    refine lv_goto (tgt := 16) hx hb (kdr dgL_calendar_0 0 6 rfl rfl) (by decide) ?_
    refine lv_iconst (v := 0) hx hb (kdr dgL_calendar_0 1 0 rfl rfl) (by decide) ?_
    have h := Option.some.inj h
    subst h
    refine W.widen (k := 1) (n := 6) (Nat.le_of_ble_eq_true rfl) (Nat.le_of_ble_eq_true rfl) ?_
    exact kret_i (v := 0) hx hb hr rfl hlocks hS hP (kdr dgL_calendar_0 1 1 rfl rfl)
noncomputable abbrev wsL_ofSpan : List Cond := Cond.codeWith yL_ofSpan cL_ofSpan 5 (some .int) [(0, 11, 14, 19), (0, 11, 18, 21)] :: kBIG
noncomputable def f_L_ofSpan (sb : Nat → Int64) (se : Nat → Int64) (so : Nat → Int32) (sc : Int32) (on : Int64) (p1 : Int32) (p2 : Int32) : Option ((Int32) × (Int64)) :=
  xb (fx_X1_ofSpan sc p1 p2) (fun k1 => if k1 = 1 then
  some (1, on)
else
  some (2, on)) (
  (f_X1_ofSpan sb se so sc p1 p2).bind fun r1 =>
  some (0, r1.toInt64))
theorem f_L_ofSpan_e {sb : Nat → Int64} {se : Nat → Int64} {so : Nat → Int32} {sc : Int32} {on : Int64} {p1 : Int32} {p2 : Int32} : f_L_ofSpan sb se so sc on p1 p2 = 
  xb (fx_X1_ofSpan sc p1 p2) (fun k1 => if k1 = 1 then
  some (1, on)
else
  some (2, on)) (
  (f_X1_ofSpan sb se so sc p1 p2).bind fun r1 =>
  some (0, r1.toInt64)) := rfl
set_option maxHeartbeats 4000000 in
set_option maxRecDepth 100000 in
theorem c_L_ofSpan (l : Launch) (hl9 : l.stackTraces = false) (dC : Nat → ClassId) (dI : Nat → Nat → Nat) (cB cI cJ cZ : ClassId) (a : Nat → Nat) (o : Nat) (sz : Nat) (ce : Nat → Int64) (fr : Int64) (un : Int64) (sb : Nat → Int64) (se : Nat → Int64) (so : Nat → Int32) (sc : Int32) (wb : Nat → Int64) (we : Nat → Int64) (wo : Nat → Int32) (wc : Int32) (fb : Nat → Int64) (fe : Nat → Int64) (fo : Nat → Int32) (fc : Int32) (rm : Nat → Int32) (ac : Int32) (rf : Int32) (kn : Int32) (on : Int64) (ov : Value) (p1 : Int32) (p2 : Int32) (res : (Int32) × (Int64)) (hf : f_L_ofSpan sb se so sc on p1 p2 = some res) : kMw l yL_ofSpan wsL_ofSpan (kRm 8 1 6 133) dC dI cB cI cJ cZ [.ref (a 0), .int p1, .int p2, .ref o] sz ((wSB cI cJ cZ a ce fr un sb se so sc wb we wo wc fb fe fo fc rm ac rf kn) ++ (wO o on ov)) .int (res.1) ((wSB cI cJ cZ a ce fr un sb se so sc wb we wo wc fb fe fo fc rm ac rf kn) ++ (wO o (res.2) ov)) 1 6 := by
  refine kmet_w (y := yL_ofSpan) (cc := cL_ofSpan) (maxL := 5) (ret := (some .int)) (hh := [(0, 11, 14, 19), (0, 11, 18, 21)]) RL (kvA 0 (a 0) (kvI 1 p1 (kvI 2 p2 (kvA 3 o kvE)))) kpl_L rfl rfl (Nat.le_of_ble_eq_true rfl) rfl (fun p e s m below meth c A ls hx hb hr hml hht hts hown hlocks hP hK hG hZ hD hA hS hl => ?_)
  have hw0 := hts (.classLink RL 19 "java/lang/IndexOutOfBoundsException") (List.mem_cons_of_mem _ kw_467)
  have hw1 := hts (.classLink RL 21 "java/lang/IllegalArgumentException") (List.mem_cons_of_mem _ kw_468)
  have hiX2 : ∀ w ∈ u_ws RX2 TX2 2, w ∈ wsL_ofSpan := fun w h => List.mem_cons_of_mem _ (ku_X2 w h)
  have h := f_L_ofSpan_e.symm.trans hf
  refine lv_aload_n hx hb (kdr dgL_ofSpan_0 0 0 rfl rfl) rfl (lv_at hl 3 rfl) ?_
  refine lv_aload_n hx hb (kdr dgL_ofSpan_0 0 1 rfl rfl) rfl (lv_at hl 0 rfl) ?_
  refine lv_iload_n hx hb (kdr dgL_ofSpan_0 0 2 rfl rfl) rfl (lv_at hl 1 rfl) ?_
  refine lv_iload_n hx hb (kdr dgL_ofSpan_0 0 3 rfl rfl) rfl (lv_at hl 2 rfl) ?_
  rcases g_x h with ⟨k1, j1, h⟩ | ⟨-, h⟩
  · refine kq_xh ((wSB cI cJ cZ a ce fr un sb se so sc wb we wo wc fb fe fo fc rm ac rf kn) ++ (wO o on ov)) (fun qP qD qF => vx_runV (As := [.int p1, .int p2]) (rest := [.ref o]) ⟨hx, hb, hml, hown, hts⟩ (x_X1_ofSpan l hl9 dC dI cB cI cJ cZ a _ ce fr un sb se so sc wb we wo wc fb fe fo fc rm ac rf kn p1 p2 k1 j1) (kcwV hts kw_987 kv_X1_ofSpan rfl rfl ⟨(Nat.le_of_ble_eq_true rfl), (Nat.le_of_ble_eq_true rfl)⟩) (kpVXq (A := A) qP hK qD hG hZ hS qF (krecv_3 (q0 := 0) hK hP rfl)) rfl rfl hl.1 rfl (lv_room (Nat.le_of_ble_eq_true rfl)) (kdr dgL_ofSpan_0 0 4 rfl rfl) ⟨(Nat.le_of_ble_eq_true rfl), (Nat.le_of_ble_eq_true rfl)⟩) hP hD hS hA (kFr_l kFr_SB) (fun q9 ceQ H locs hP hD hS hce hcv hcl => ?_)
    by_cases e9 : k1 = 1
    · have h := g_t e9 h
      rw [kEx_1 e9] at hcl
      refine vx_catch (E := "java/lang/IndexOutOfBoundsException") (name := "java/lang/IndexOutOfBoundsException") (own := RL) hown [] ⟨0, 11, 14, 19⟩ [⟨0, 11, 18, 21⟩] hht (fun z hz => by cases hz) (by decide) (by decide) hw0 (va_Nw.use rfl (hG.at 4 rfl)) hce hcv hcl ?_
      refine lv_astore (lv' := (kvA 4 q9 (kvA 0 (a 0) (kvI 1 p1 (kvI 2 p2 (kvA 3 o kvE)))))) hx hb (kdr dgL_ofSpan_0 0 8 rfl rfl) hl (by decide) rfl (fun ls hl => ?_)
      refine lv_iconst (v := 1) hx hb (kdr dgL_ofSpan_0 0 9 rfl rfl) (by decide) ?_
      have h := Option.some.inj h
      subst h
      refine W.widen (k := 1) (n := 6) (Nat.le_of_ble_eq_true rfl) (Nat.le_of_ble_eq_true rfl) ?_
      exact kret_i (v := 1) hx hb hr rfl hlocks hS hP (kdr dgL_ofSpan_0 1 0 rfl rfl)
    · have h := g_f e9 h
      rw [kEx_2 e9] at hcl
      refine vx_catch (E := "java/lang/IllegalArgumentException") (name := "java/lang/IllegalArgumentException") (own := RL) hown [⟨0, 11, 14, 19⟩] ⟨0, 11, 18, 21⟩ [] hht (fun z hz => by rcases List.mem_singleton.mp hz with rfl; exact Or.inr ⟨by decide, _, hw0, hG.2⟩) (by decide) (by decide) hw1 (va_Nw.use rfl (hG.at 5 rfl)) hce hcv hcl ?_
      refine lv_astore (lv' := (kvA 4 q9 (kvA 0 (a 0) (kvI 1 p1 (kvI 2 p2 (kvA 3 o kvE)))))) hx hb (kdr dgL_ofSpan_0 1 1 rfl rfl) hl (by decide) rfl (fun ls hl => ?_)
      refine lv_iconst (v := 2) hx hb (kdr dgL_ofSpan_0 1 2 rfl rfl) (by decide) ?_
      have h := Option.some.inj h
      subst h
      refine W.widen (k := 1) (n := 6) (Nat.le_of_ble_eq_true rfl) (Nat.le_of_ble_eq_true rfl) ?_
      exact kret_i (v := 2) hx hb hr rfl hlocks hS hP (kdr dgL_ofSpan_0 1 3 rfl rfl)
  · obtain ⟨r1, g1, h⟩ := g_b h
    refine kq_i ((wSB cI cJ cZ a ce fr un sb se so sc wb we wo wc fb fe fo fc rm ac rf kn) ++ (wO o on ov)) (fun qP qD qF => va_runV (As := [.int p1, .int p2]) (rest := [.ref o]) ⟨hx, hb, hml, hown, hts⟩ (c_X1_ofSpan l dC dI cB cI cJ cZ a _ ce fr un sb se so sc wb we wo wc fb fe fo fc rm ac rf kn p1 p2 r1 g1) (kcwV hts kw_987 kv_X1_ofSpan rfl rfl ⟨(Nat.le_of_ble_eq_true rfl), (Nat.le_of_ble_eq_true rfl)⟩) (kpV (A := A) qP hK qD hG (krecv_3 (q0 := 0) hK hP rfl)) rfl rfl hl.1 rfl (lv_room (Nat.le_of_ble_eq_true rfl)) (kdr dgL_ofSpan_0 0 4 rfl rfl) ⟨(Nat.le_of_ble_eq_true rfl), (Nat.le_of_ble_eq_true rfl)⟩) hP hD hS hA (kFr_l kFr_SB) (fun H locs hP hD hS br1 => ?_)
    refine lv_i2l (v := r1.toInt64) hx hb (kdr dgL_ofSpan_0 0 5 rfl rfl) rfl ?_
    refine va_putN (host := RL) (D := (dC, dI)) (ci := 4) (v := .long r1.toInt64) (ty := .long) (C := RX2) (T := TX2) (N := 2) hx hb hts hiX2 tyX2 tyX2_ok nmX2 hown hK hP hD hS 15 rfl rfl 0 (by decide) (va_Nw.use rfl (hG.at 7 rfl)) (fun _ h9 => h9) rfl (by decide +kernel) rfl rfl (Nat.le_of_ble_eq_true rfl) (kdr dgL_ofSpan_0 0 6 rfl rfl) (fun H locs hP hD hS => ?_)
    have hP : va_P (dC, dI) vwCl ((wSB cI cJ cZ a ce fr un sb se so sc wb we wo wc fb fe fo fc rm ac rf kn) ++ (wO o r1.toInt64 ov)) H := hP
    have hD : va_D A ((wSB cI cJ cZ a ce fr un sb se so sc wb we wo wc fb fe fo fc rm ac rf kn) ++ (wO o r1.toInt64 ov)) := hD
    refine lv_goto (tgt := 22) hx hb (kdr dgL_ofSpan_0 0 7 rfl rfl) (by decide) ?_
    refine lv_iconst (v := 0) hx hb (kdr dgL_ofSpan_0 1 4 rfl rfl) (by decide) ?_
    have h := Option.some.inj h
    subst h
    refine W.widen (k := 1) (n := 6) (Nat.le_of_ble_eq_true rfl) (Nat.le_of_ble_eq_true rfl) ?_
    exact kret_i (v := 0) hx hb hr rfl hlocks hS hP (kdr dgL_ofSpan_0 1 5 rfl rfl)
noncomputable abbrev wsL_meets : List Cond := Cond.codeWith yL_meets cL_meets 5 (some .int) [(0, 18, 21, 19)] :: kBIG
noncomputable def f_L_meets (sb : Nat → Int64) (se : Nat → Int64) (sc : Int32) (on : Int64) (p1 : Int32) (p2 : Int32) : Option ((Int32) × (Int64)) :=
  xb (fx_X1_meets sc p1 p2) (fun k1 => if k1 = 1 then
  some (1, on)
else
  none) (
  (f_X1_meets sb se sc p1 p2).bind fun r1 =>
  if r1 = 0 then
    some (0, 0)
  else
    some (0, 1))
theorem f_L_meets_e {sb : Nat → Int64} {se : Nat → Int64} {sc : Int32} {on : Int64} {p1 : Int32} {p2 : Int32} : f_L_meets sb se sc on p1 p2 = 
  xb (fx_X1_meets sc p1 p2) (fun k1 => if k1 = 1 then
  some (1, on)
else
  none) (
  (f_X1_meets sb se sc p1 p2).bind fun r1 =>
  if r1 = 0 then
    some (0, 0)
  else
    some (0, 1)) := rfl
set_option maxHeartbeats 4000000 in
set_option maxRecDepth 100000 in
theorem c_L_meets (l : Launch) (hl9 : l.stackTraces = false) (dC : Nat → ClassId) (dI : Nat → Nat → Nat) (cB cI cJ cZ : ClassId) (a : Nat → Nat) (o : Nat) (sz : Nat) (ce : Nat → Int64) (fr : Int64) (un : Int64) (sb : Nat → Int64) (se : Nat → Int64) (so : Nat → Int32) (sc : Int32) (wb : Nat → Int64) (we : Nat → Int64) (wo : Nat → Int32) (wc : Int32) (fb : Nat → Int64) (fe : Nat → Int64) (fo : Nat → Int32) (fc : Int32) (rm : Nat → Int32) (ac : Int32) (rf : Int32) (kn : Int32) (on : Int64) (ov : Value) (p1 : Int32) (p2 : Int32) (res : (Int32) × (Int64)) (hf : f_L_meets sb se sc on p1 p2 = some res) : kMw l yL_meets wsL_meets (kRm 8 1 6 133) dC dI cB cI cJ cZ [.ref (a 0), .int p1, .int p2, .ref o] sz ((wSB cI cJ cZ a ce fr un sb se so sc wb we wo wc fb fe fo fc rm ac rf kn) ++ (wO o on ov)) .int (res.1) ((wSB cI cJ cZ a ce fr un sb se so sc wb we wo wc fb fe fo fc rm ac rf kn) ++ (wO o (res.2) ov)) 1 6 := by
  refine kmet_w (y := yL_meets) (cc := cL_meets) (maxL := 5) (ret := (some .int)) (hh := [(0, 18, 21, 19)]) RL (kvA 0 (a 0) (kvI 1 p1 (kvI 2 p2 (kvA 3 o kvE)))) kpl_L rfl rfl (Nat.le_of_ble_eq_true rfl) rfl (fun p e s m below meth c A ls hx hb hr hml hht hts hown hlocks hP hK hG hZ hD hA hS hl => ?_)
  have hw0 := hts (.classLink RL 19 "java/lang/IndexOutOfBoundsException") (List.mem_cons_of_mem _ kw_467)
  have hiX2 : ∀ w ∈ u_ws RX2 TX2 2, w ∈ wsL_meets := fun w h => List.mem_cons_of_mem _ (ku_X2 w h)
  have h := f_L_meets_e.symm.trans hf
  refine lv_aload_n hx hb (kdr dgL_meets_0 0 0 rfl rfl) rfl (lv_at hl 3 rfl) ?_
  refine lv_aload_n hx hb (kdr dgL_meets_0 0 1 rfl rfl) rfl (lv_at hl 0 rfl) ?_
  refine lv_iload_n hx hb (kdr dgL_meets_0 0 2 rfl rfl) rfl (lv_at hl 1 rfl) ?_
  refine lv_iload_n hx hb (kdr dgL_meets_0 0 3 rfl rfl) rfl (lv_at hl 2 rfl) ?_
  rcases g_x h with ⟨k1, j1, h⟩ | ⟨-, h⟩
  · refine kq_xh ((wSB cI cJ cZ a ce fr un sb se so sc wb we wo wc fb fe fo fc rm ac rf kn) ++ (wO o on ov)) (fun qP qD qF => vx_runV (As := [.int p1, .int p2]) (rest := [.ref o]) ⟨hx, hb, hml, hown, hts⟩ (x_X1_meets l hl9 dC dI cB cI cJ cZ a _ ce fr un sb se so sc wb we wo wc fb fe fo fc rm ac rf kn p1 p2 k1 j1) (kcwV hts kw_994 kv_X1_meets rfl rfl ⟨(Nat.le_of_ble_eq_true rfl), (Nat.le_of_ble_eq_true rfl)⟩) (kpVXq (A := A) qP hK qD hG hZ hS qF (krecv_3 (q0 := 0) hK hP rfl)) rfl rfl hl.1 rfl (lv_room (Nat.le_of_ble_eq_true rfl)) (kdr dgL_meets_0 0 4 rfl rfl) ⟨(Nat.le_of_ble_eq_true rfl), (Nat.le_of_ble_eq_true rfl)⟩) hP hD hS hA (kFr_l kFr_SB) (fun q9 ceQ H locs hP hD hS hce hcv hcl => ?_)
    by_cases e9 : k1 = 1
    · have h := g_t e9 h
      rw [kEx_1 e9] at hcl
      refine vx_catch (E := "java/lang/IndexOutOfBoundsException") (name := "java/lang/IndexOutOfBoundsException") (own := RL) hown [] ⟨0, 18, 21, 19⟩ [] hht (fun z hz => by cases hz) (by decide) (by decide) hw0 (va_Nw.use rfl (hG.at 4 rfl)) hce hcv hcl ?_
      refine lv_astore (lv' := (kvA 4 q9 (kvA 0 (a 0) (kvI 1 p1 (kvI 2 p2 (kvA 3 o kvE)))))) hx hb (kdr dgL_meets_0 1 1 rfl rfl) hl (by decide) rfl (fun ls hl => ?_)
      refine lv_iconst (v := 1) hx hb (kdr dgL_meets_0 1 2 rfl rfl) (by decide) ?_
      have h := Option.some.inj h
      subst h
      refine W.widen (k := 1) (n := 6) (Nat.le_of_ble_eq_true rfl) (Nat.le_of_ble_eq_true rfl) ?_
      exact kret_i (v := 1) hx hb hr rfl hlocks hS hP (kdr dgL_meets_0 1 3 rfl rfl)
    · have h := g_f e9 h
      rw [kEx_2 e9] at hcl
      cases h
  · obtain ⟨r1, g1, h⟩ := g_b h
    refine kq_i ((wSB cI cJ cZ a ce fr un sb se so sc wb we wo wc fb fe fo fc rm ac rf kn) ++ (wO o on ov)) (fun qP qD qF => va_runV (As := [.int p1, .int p2]) (rest := [.ref o]) ⟨hx, hb, hml, hown, hts⟩ (c_X1_meets l dC dI cB cI cJ cZ a _ ce fr un sb se so sc wb we wo wc fb fe fo fc rm ac rf kn p1 p2 r1 g1) (kcwV hts kw_994 kv_X1_meets rfl rfl ⟨(Nat.le_of_ble_eq_true rfl), (Nat.le_of_ble_eq_true rfl)⟩) (kpV (A := A) qP hK qD hG (krecv_3 (q0 := 0) hK hP rfl)) rfl rfl hl.1 rfl (lv_room (Nat.le_of_ble_eq_true rfl)) (kdr dgL_meets_0 0 4 rfl rfl) ⟨(Nat.le_of_ble_eq_true rfl), (Nat.le_of_ble_eq_true rfl)⟩) hP hD hS hA (kFr_l kFr_SB) (fun H locs hP hD hS br1 => ?_)
    refine lv_if_eq (tgt := 14) hx hb (kdr dgL_meets_0 0 5 rfl rfl) (by decide) (fun c2 => ?_) (fun c2 => ?_)
    · have h := g_t c2 h
      refine lv_lconst (v := 0) hx hb (kdr dgL_meets_0 0 8 rfl rfl) (by decide) ?_
      refine va_putN (host := RL) (D := (dC, dI)) (ci := 4) (v := .long 0) (ty := .long) (C := RX2) (T := TX2) (N := 2) hx hb hts hiX2 tyX2 tyX2_ok nmX2 hown hK hP hD hS 15 rfl rfl 0 (by decide) (va_Nw.use rfl (hG.at 7 rfl)) (fun _ h9 => h9) rfl (by decide +kernel) rfl rfl (Nat.le_of_ble_eq_true rfl) (kdr dgL_meets_0 0 9 rfl rfl) (fun H locs hP hD hS => ?_)
      have hP : va_P (dC, dI) vwCl ((wSB cI cJ cZ a ce fr un sb se so sc wb we wo wc fb fe fo fc rm ac rf kn) ++ (wO o 0 ov)) H := hP
      have hD : va_D A ((wSB cI cJ cZ a ce fr un sb se so sc wb we wo wc fb fe fo fc rm ac rf kn) ++ (wO o 0 ov)) := hD
      refine lv_goto (tgt := 25) hx hb (kdr dgL_meets_0 1 0 rfl rfl) (by decide) ?_
      refine lv_iconst (v := 0) hx hb (kdr dgL_meets_0 1 4 rfl rfl) (by decide) ?_
      have h := Option.some.inj h
      subst h
      refine W.widen (k := 1) (n := 6) (Nat.le_of_ble_eq_true rfl) (Nat.le_of_ble_eq_true rfl) ?_
      exact kret_i (v := 0) hx hb hr rfl hlocks hS hP (kdr dgL_meets_0 1 5 rfl rfl)
    · have h := g_f c2 h
      refine lv_lconst (v := 1) hx hb (kdr dgL_meets_0 0 6 rfl rfl) (by decide) ?_
      refine lv_goto (tgt := 15) hx hb (kdr dgL_meets_0 0 7 rfl rfl) (by decide) ?_
      refine va_putN (host := RL) (D := (dC, dI)) (ci := 4) (v := .long 1) (ty := .long) (C := RX2) (T := TX2) (N := 2) hx hb hts hiX2 tyX2 tyX2_ok nmX2 hown hK hP hD hS 15 rfl rfl 0 (by decide) (va_Nw.use rfl (hG.at 7 rfl)) (fun _ h9 => h9) rfl (by decide +kernel) rfl rfl (Nat.le_of_ble_eq_true rfl) (kdr dgL_meets_0 0 9 rfl rfl) (fun H locs hP hD hS => ?_)
      have hP : va_P (dC, dI) vwCl ((wSB cI cJ cZ a ce fr un sb se so sc wb we wo wc fb fe fo fc rm ac rf kn) ++ (wO o 1 ov)) H := hP
      have hD : va_D A ((wSB cI cJ cZ a ce fr un sb se so sc wb we wo wc fb fe fo fc rm ac rf kn) ++ (wO o 1 ov)) := hD
      refine lv_goto (tgt := 25) hx hb (kdr dgL_meets_0 1 0 rfl rfl) (by decide) ?_
      refine lv_iconst (v := 0) hx hb (kdr dgL_meets_0 1 4 rfl rfl) (by decide) ?_
      have h := Option.some.inj h
      subst h
      refine W.widen (k := 1) (n := 6) (Nat.le_of_ble_eq_true rfl) (Nat.le_of_ble_eq_true rfl) ?_
      exact kret_i (v := 0) hx hb hr rfl hlocks hS hP (kdr dgL_meets_0 1 5 rfl rfl)
noncomputable abbrev wsL_at : List Cond := Cond.codeWith yL_at cL_at 4 (some .int) [(0, 10, 13, 19)] :: kBIG
noncomputable def f_L_at (ce : Nat → Int64) (sb : Nat → Int64) (se : Nat → Int64) (sc : Int32) (on : Int64) (p1 : Int32) : Option ((Int32) × (Int64)) :=
  xb (fx_X1_at p1) (fun k1 => if k1 = 1 then
  some (1, on)
else
  none) (
  (f_X1_at ce sb se sc p1).bind fun r1 =>
  some (0, r1.toInt64))
theorem f_L_at_e {ce : Nat → Int64} {sb : Nat → Int64} {se : Nat → Int64} {sc : Int32} {on : Int64} {p1 : Int32} : f_L_at ce sb se sc on p1 = 
  xb (fx_X1_at p1) (fun k1 => if k1 = 1 then
  some (1, on)
else
  none) (
  (f_X1_at ce sb se sc p1).bind fun r1 =>
  some (0, r1.toInt64)) := rfl
set_option maxHeartbeats 4000000 in
set_option maxRecDepth 100000 in
theorem c_L_at (l : Launch) (hl9 : l.stackTraces = false) (dC : Nat → ClassId) (dI : Nat → Nat → Nat) (cB cI cJ cZ : ClassId) (a : Nat → Nat) (o : Nat) (sz : Nat) (ce : Nat → Int64) (fr : Int64) (un : Int64) (sb : Nat → Int64) (se : Nat → Int64) (so : Nat → Int32) (sc : Int32) (wb : Nat → Int64) (we : Nat → Int64) (wo : Nat → Int32) (wc : Int32) (fb : Nat → Int64) (fe : Nat → Int64) (fo : Nat → Int32) (fc : Int32) (rm : Nat → Int32) (ac : Int32) (rf : Int32) (kn : Int32) (on : Int64) (ov : Value) (p1 : Int32) (res : (Int32) × (Int64)) (hf : f_L_at ce sb se sc on p1 = some res) : kMw l yL_at wsL_at (kRm 8 1 6 131) dC dI cB cI cJ cZ [.ref (a 0), .int p1, .ref o] sz ((wSB cI cJ cZ a ce fr un sb se so sc wb we wo wc fb fe fo fc rm ac rf kn) ++ (wO o on ov)) .int (res.1) ((wSB cI cJ cZ a ce fr un sb se so sc wb we wo wc fb fe fo fc rm ac rf kn) ++ (wO o (res.2) ov)) 1 6 := by
  refine kmet_w (y := yL_at) (cc := cL_at) (maxL := 4) (ret := (some .int)) (hh := [(0, 10, 13, 19)]) RL (kvA 0 (a 0) (kvI 1 p1 (kvA 2 o kvE))) kpl_L rfl rfl (Nat.le_of_ble_eq_true rfl) rfl (fun p e s m below meth c A ls hx hb hr hml hht hts hown hlocks hP hK hG hZ hD hA hS hl => ?_)
  have hw0 := hts (.classLink RL 19 "java/lang/IndexOutOfBoundsException") (List.mem_cons_of_mem _ kw_467)
  have hiX2 : ∀ w ∈ u_ws RX2 TX2 2, w ∈ wsL_at := fun w h => List.mem_cons_of_mem _ (ku_X2 w h)
  have h := f_L_at_e.symm.trans hf
  refine lv_aload_n hx hb (kdr dgL_at_0 0 0 rfl rfl) rfl (lv_at hl 2 rfl) ?_
  refine lv_aload_n hx hb (kdr dgL_at_0 0 1 rfl rfl) rfl (lv_at hl 0 rfl) ?_
  refine lv_iload_n hx hb (kdr dgL_at_0 0 2 rfl rfl) rfl (lv_at hl 1 rfl) ?_
  rcases g_x h with ⟨k1, j1, h⟩ | ⟨-, h⟩
  · refine kq_xh ((wSB cI cJ cZ a ce fr un sb se so sc wb we wo wc fb fe fo fc rm ac rf kn) ++ (wO o on ov)) (fun qP qD qF => vx_runV (As := [.int p1]) (rest := [.ref o]) ⟨hx, hb, hml, hown, hts⟩ (x_X1_at l hl9 dC dI cB cI cJ cZ a _ ce fr un sb se so sc wb we wo wc fb fe fo fc rm ac rf kn p1 k1 j1) (kcwV hts kw_1001 kv_X1_at rfl rfl ⟨(Nat.le_of_ble_eq_true rfl), (Nat.le_of_ble_eq_true rfl)⟩) (kpVXq (A := A) qP hK qD hG hZ hS qF (krecv_3 (q0 := 0) hK hP rfl)) rfl rfl hl.1 rfl (lv_room (Nat.le_of_ble_eq_true rfl)) (kdr dgL_at_0 0 3 rfl rfl) ⟨(Nat.le_of_ble_eq_true rfl), (Nat.le_of_ble_eq_true rfl)⟩) hP hD hS hA (kFr_l kFr_SB) (fun q9 ceQ H locs hP hD hS hce hcv hcl => ?_)
    by_cases e9 : k1 = 1
    · have h := g_t e9 h
      rw [kEx_1 e9] at hcl
      refine vx_catch (E := "java/lang/IndexOutOfBoundsException") (name := "java/lang/IndexOutOfBoundsException") (own := RL) hown [] ⟨0, 10, 13, 19⟩ [] hht (fun z hz => by cases hz) (by decide) (by decide) hw0 (va_Nw.use rfl (hG.at 4 rfl)) hce hcv hcl ?_
      refine lv_astore_n (lv' := (kvA 3 q9 (kvA 0 (a 0) (kvI 1 p1 (kvA 2 o kvE))))) hx hb (kdr dgL_at_0 0 7 rfl rfl) rfl hl (by decide) rfl (fun ls hl => ?_)
      refine lv_iconst (v := 1) hx hb (kdr dgL_at_0 0 8 rfl rfl) (by decide) ?_
      have h := Option.some.inj h
      subst h
      refine W.widen (k := 1) (n := 6) (Nat.le_of_ble_eq_true rfl) (Nat.le_of_ble_eq_true rfl) ?_
      exact kret_i (v := 1) hx hb hr rfl hlocks hS hP (kdr dgL_at_0 0 9 rfl rfl)
    · have h := g_f e9 h
      rw [kEx_2 e9] at hcl
      cases h
  · obtain ⟨r1, g1, h⟩ := g_b h
    refine kq_i ((wSB cI cJ cZ a ce fr un sb se so sc wb we wo wc fb fe fo fc rm ac rf kn) ++ (wO o on ov)) (fun qP qD qF => va_runV (As := [.int p1]) (rest := [.ref o]) ⟨hx, hb, hml, hown, hts⟩ (c_X1_at l dC dI cB cI cJ cZ a _ ce fr un sb se so sc wb we wo wc fb fe fo fc rm ac rf kn p1 r1 g1) (kcwV hts kw_1001 kv_X1_at rfl rfl ⟨(Nat.le_of_ble_eq_true rfl), (Nat.le_of_ble_eq_true rfl)⟩) (kpV (A := A) qP hK qD hG (krecv_3 (q0 := 0) hK hP rfl)) rfl rfl hl.1 rfl (lv_room (Nat.le_of_ble_eq_true rfl)) (kdr dgL_at_0 0 3 rfl rfl) ⟨(Nat.le_of_ble_eq_true rfl), (Nat.le_of_ble_eq_true rfl)⟩) hP hD hS hA (kFr_l kFr_SB) (fun H locs hP hD hS br1 => ?_)
    refine lv_i2l (v := r1.toInt64) hx hb (kdr dgL_at_0 0 4 rfl rfl) rfl ?_
    refine va_putN (host := RL) (D := (dC, dI)) (ci := 4) (v := .long r1.toInt64) (ty := .long) (C := RX2) (T := TX2) (N := 2) hx hb hts hiX2 tyX2 tyX2_ok nmX2 hown hK hP hD hS 15 rfl rfl 0 (by decide) (va_Nw.use rfl (hG.at 7 rfl)) (fun _ h9 => h9) rfl (by decide +kernel) rfl rfl (Nat.le_of_ble_eq_true rfl) (kdr dgL_at_0 0 5 rfl rfl) (fun H locs hP hD hS => ?_)
    have hP : va_P (dC, dI) vwCl ((wSB cI cJ cZ a ce fr un sb se so sc wb we wo wc fb fe fo fc rm ac rf kn) ++ (wO o r1.toInt64 ov)) H := hP
    have hD : va_D A ((wSB cI cJ cZ a ce fr un sb se so sc wb we wo wc fb fe fo fc rm ac rf kn) ++ (wO o r1.toInt64 ov)) := hD
    refine lv_goto (tgt := 16) hx hb (kdr dgL_at_0 0 6 rfl rfl) (by decide) ?_
    refine lv_iconst (v := 0) hx hb (kdr dgL_at_0 1 0 rfl rfl) (by decide) ?_
    have h := Option.some.inj h
    subst h
    refine W.widen (k := 1) (n := 6) (Nat.le_of_ble_eq_true rfl) (Nat.le_of_ble_eq_true rfl) ?_
    exact kret_i (v := 0) hx hb hr rfl hlocks hS hP (kdr dgL_at_0 1 1 rfl rfl)
noncomputable abbrev wsL_isFree : List Cond := Cond.codeWith yL_isFree cL_isFree 5 (some .int) [(0, 18, 21, 19)] :: kBIG
noncomputable def f_L_isFree (ce : Nat → Int64) (fr : Int64) (un : Int64) (sb : Nat → Int64) (se : Nat → Int64) (sc : Int32) (on : Int64) (p1 : Int32) (p2 : Int32) : Option ((Int32) × (Int64)) :=
  xb (fx_X1_isFree p1 p2) (fun k1 => if k1 = 1 then
  some (1, on)
else
  none) (
  (f_X1_isFree ce fr un sb se sc p1 p2).bind fun r1 =>
  if r1 = 0 then
    some (0, 0)
  else
    some (0, 1))
theorem f_L_isFree_e {ce : Nat → Int64} {fr : Int64} {un : Int64} {sb : Nat → Int64} {se : Nat → Int64} {sc : Int32} {on : Int64} {p1 : Int32} {p2 : Int32} : f_L_isFree ce fr un sb se sc on p1 p2 = 
  xb (fx_X1_isFree p1 p2) (fun k1 => if k1 = 1 then
  some (1, on)
else
  none) (
  (f_X1_isFree ce fr un sb se sc p1 p2).bind fun r1 =>
  if r1 = 0 then
    some (0, 0)
  else
    some (0, 1)) := rfl
set_option maxHeartbeats 4000000 in
set_option maxRecDepth 100000 in
theorem c_L_isFree (l : Launch) (hl9 : l.stackTraces = false) (dC : Nat → ClassId) (dI : Nat → Nat → Nat) (cB cI cJ cZ : ClassId) (a : Nat → Nat) (o : Nat) (sz : Nat) (ce : Nat → Int64) (fr : Int64) (un : Int64) (sb : Nat → Int64) (se : Nat → Int64) (so : Nat → Int32) (sc : Int32) (wb : Nat → Int64) (we : Nat → Int64) (wo : Nat → Int32) (wc : Int32) (fb : Nat → Int64) (fe : Nat → Int64) (fo : Nat → Int32) (fc : Int32) (rm : Nat → Int32) (ac : Int32) (rf : Int32) (kn : Int32) (on : Int64) (ov : Value) (p1 : Int32) (p2 : Int32) (res : (Int32) × (Int64)) (hf : f_L_isFree ce fr un sb se sc on p1 p2 = some res) : kMw l yL_isFree wsL_isFree (kRm 8 1 6 136) dC dI cB cI cJ cZ [.ref (a 0), .int p1, .int p2, .ref o] sz ((wSB cI cJ cZ a ce fr un sb se so sc wb we wo wc fb fe fo fc rm ac rf kn) ++ (wO o on ov)) .int (res.1) ((wSB cI cJ cZ a ce fr un sb se so sc wb we wo wc fb fe fo fc rm ac rf kn) ++ (wO o (res.2) ov)) 1 6 := by
  refine kmet_w (y := yL_isFree) (cc := cL_isFree) (maxL := 5) (ret := (some .int)) (hh := [(0, 18, 21, 19)]) RL (kvA 0 (a 0) (kvI 1 p1 (kvI 2 p2 (kvA 3 o kvE)))) kpl_L rfl rfl (Nat.le_of_ble_eq_true rfl) rfl (fun p e s m below meth c A ls hx hb hr hml hht hts hown hlocks hP hK hG hZ hD hA hS hl => ?_)
  have hw0 := hts (.classLink RL 19 "java/lang/IndexOutOfBoundsException") (List.mem_cons_of_mem _ kw_467)
  have hiX2 : ∀ w ∈ u_ws RX2 TX2 2, w ∈ wsL_isFree := fun w h => List.mem_cons_of_mem _ (ku_X2 w h)
  have h := f_L_isFree_e.symm.trans hf
  refine lv_aload_n hx hb (kdr dgL_isFree_0 0 0 rfl rfl) rfl (lv_at hl 3 rfl) ?_
  refine lv_aload_n hx hb (kdr dgL_isFree_0 0 1 rfl rfl) rfl (lv_at hl 0 rfl) ?_
  refine lv_iload_n hx hb (kdr dgL_isFree_0 0 2 rfl rfl) rfl (lv_at hl 1 rfl) ?_
  refine lv_iload_n hx hb (kdr dgL_isFree_0 0 3 rfl rfl) rfl (lv_at hl 2 rfl) ?_
  rcases g_x h with ⟨k1, j1, h⟩ | ⟨-, h⟩
  · refine kq_xh ((wSB cI cJ cZ a ce fr un sb se so sc wb we wo wc fb fe fo fc rm ac rf kn) ++ (wO o on ov)) (fun qP qD qF => vx_runV (As := [.int p1, .int p2]) (rest := [.ref o]) ⟨hx, hb, hml, hown, hts⟩ (x_X1_isFree l hl9 dC dI cB cI cJ cZ a _ ce fr un sb se so sc wb we wo wc fb fe fo fc rm ac rf kn p1 p2 k1 j1) (kcwV hts kw_1008 kv_X1_isFree rfl rfl ⟨(Nat.le_of_ble_eq_true rfl), (Nat.le_of_ble_eq_true rfl)⟩) (kpVXq (A := A) qP hK qD hG hZ hS qF (krecv_3 (q0 := 0) hK hP rfl)) rfl rfl hl.1 rfl (lv_room (Nat.le_of_ble_eq_true rfl)) (kdr dgL_isFree_0 0 4 rfl rfl) ⟨(Nat.le_of_ble_eq_true rfl), (Nat.le_of_ble_eq_true rfl)⟩) hP hD hS hA (kFr_l kFr_SB) (fun q9 ceQ H locs hP hD hS hce hcv hcl => ?_)
    by_cases e9 : k1 = 1
    · have h := g_t e9 h
      rw [kEx_1 e9] at hcl
      refine vx_catch (E := "java/lang/IndexOutOfBoundsException") (name := "java/lang/IndexOutOfBoundsException") (own := RL) hown [] ⟨0, 18, 21, 19⟩ [] hht (fun z hz => by cases hz) (by decide) (by decide) hw0 (va_Nw.use rfl (hG.at 4 rfl)) hce hcv hcl ?_
      refine lv_astore (lv' := (kvA 4 q9 (kvA 0 (a 0) (kvI 1 p1 (kvI 2 p2 (kvA 3 o kvE)))))) hx hb (kdr dgL_isFree_0 1 1 rfl rfl) hl (by decide) rfl (fun ls hl => ?_)
      refine lv_iconst (v := 1) hx hb (kdr dgL_isFree_0 1 2 rfl rfl) (by decide) ?_
      have h := Option.some.inj h
      subst h
      refine W.widen (k := 1) (n := 6) (Nat.le_of_ble_eq_true rfl) (Nat.le_of_ble_eq_true rfl) ?_
      exact kret_i (v := 1) hx hb hr rfl hlocks hS hP (kdr dgL_isFree_0 1 3 rfl rfl)
    · have h := g_f e9 h
      rw [kEx_2 e9] at hcl
      cases h
  · obtain ⟨r1, g1, h⟩ := g_b h
    refine kq_i ((wSB cI cJ cZ a ce fr un sb se so sc wb we wo wc fb fe fo fc rm ac rf kn) ++ (wO o on ov)) (fun qP qD qF => va_runV (As := [.int p1, .int p2]) (rest := [.ref o]) ⟨hx, hb, hml, hown, hts⟩ (c_X1_isFree l dC dI cB cI cJ cZ a _ ce fr un sb se so sc wb we wo wc fb fe fo fc rm ac rf kn p1 p2 r1 g1) (kcwV hts kw_1008 kv_X1_isFree rfl rfl ⟨(Nat.le_of_ble_eq_true rfl), (Nat.le_of_ble_eq_true rfl)⟩) (kpV (A := A) qP hK qD hG (krecv_3 (q0 := 0) hK hP rfl)) rfl rfl hl.1 rfl (lv_room (Nat.le_of_ble_eq_true rfl)) (kdr dgL_isFree_0 0 4 rfl rfl) ⟨(Nat.le_of_ble_eq_true rfl), (Nat.le_of_ble_eq_true rfl)⟩) hP hD hS hA (kFr_l kFr_SB) (fun H locs hP hD hS br1 => ?_)
    refine lv_if_eq (tgt := 14) hx hb (kdr dgL_isFree_0 0 5 rfl rfl) (by decide) (fun c2 => ?_) (fun c2 => ?_)
    · have h := g_t c2 h
      refine lv_lconst (v := 0) hx hb (kdr dgL_isFree_0 0 8 rfl rfl) (by decide) ?_
      refine va_putN (host := RL) (D := (dC, dI)) (ci := 4) (v := .long 0) (ty := .long) (C := RX2) (T := TX2) (N := 2) hx hb hts hiX2 tyX2 tyX2_ok nmX2 hown hK hP hD hS 15 rfl rfl 0 (by decide) (va_Nw.use rfl (hG.at 7 rfl)) (fun _ h9 => h9) rfl (by decide +kernel) rfl rfl (Nat.le_of_ble_eq_true rfl) (kdr dgL_isFree_0 0 9 rfl rfl) (fun H locs hP hD hS => ?_)
      have hP : va_P (dC, dI) vwCl ((wSB cI cJ cZ a ce fr un sb se so sc wb we wo wc fb fe fo fc rm ac rf kn) ++ (wO o 0 ov)) H := hP
      have hD : va_D A ((wSB cI cJ cZ a ce fr un sb se so sc wb we wo wc fb fe fo fc rm ac rf kn) ++ (wO o 0 ov)) := hD
      refine lv_goto (tgt := 25) hx hb (kdr dgL_isFree_0 1 0 rfl rfl) (by decide) ?_
      refine lv_iconst (v := 0) hx hb (kdr dgL_isFree_0 1 4 rfl rfl) (by decide) ?_
      have h := Option.some.inj h
      subst h
      refine W.widen (k := 1) (n := 6) (Nat.le_of_ble_eq_true rfl) (Nat.le_of_ble_eq_true rfl) ?_
      exact kret_i (v := 0) hx hb hr rfl hlocks hS hP (kdr dgL_isFree_0 1 5 rfl rfl)
    · have h := g_f c2 h
      refine lv_lconst (v := 1) hx hb (kdr dgL_isFree_0 0 6 rfl rfl) (by decide) ?_
      refine lv_goto (tgt := 15) hx hb (kdr dgL_isFree_0 0 7 rfl rfl) (by decide) ?_
      refine va_putN (host := RL) (D := (dC, dI)) (ci := 4) (v := .long 1) (ty := .long) (C := RX2) (T := TX2) (N := 2) hx hb hts hiX2 tyX2 tyX2_ok nmX2 hown hK hP hD hS 15 rfl rfl 0 (by decide) (va_Nw.use rfl (hG.at 7 rfl)) (fun _ h9 => h9) rfl (by decide +kernel) rfl rfl (Nat.le_of_ble_eq_true rfl) (kdr dgL_isFree_0 0 9 rfl rfl) (fun H locs hP hD hS => ?_)
      have hP : va_P (dC, dI) vwCl ((wSB cI cJ cZ a ce fr un sb se so sc wb we wo wc fb fe fo fc rm ac rf kn) ++ (wO o 1 ov)) H := hP
      have hD : va_D A ((wSB cI cJ cZ a ce fr un sb se so sc wb we wo wc fb fe fo fc rm ac rf kn) ++ (wO o 1 ov)) := hD
      refine lv_goto (tgt := 25) hx hb (kdr dgL_isFree_0 1 0 rfl rfl) (by decide) ?_
      refine lv_iconst (v := 0) hx hb (kdr dgL_isFree_0 1 4 rfl rfl) (by decide) ?_
      have h := Option.some.inj h
      subst h
      refine W.widen (k := 1) (n := 6) (Nat.le_of_ble_eq_true rfl) (Nat.le_of_ble_eq_true rfl) ?_
      exact kret_i (v := 0) hx hb hr rfl hlocks hS hP (kdr dgL_isFree_0 1 5 rfl rfl)
noncomputable abbrev wsL_ofFree : List Cond := Cond.codeWith yL_ofFree cL_ofFree 5 (some .int) [(0, 11, 14, 19), (0, 11, 18, 21)] :: kBIG
noncomputable def f_L_ofFree (fr : Int64) (un : Int64) (sb : Nat → Int64) (se : Nat → Int64) (sc : Int32) (fb : Nat → Int64) (fe : Nat → Int64) (fo : Nat → Int32) (fc : Int32) (on : Int64) (p1 : Int32) (p2 : Int32) : Option ((Int32) × (Nat → Int64) × (Nat → Int64) × (Nat → Int32) × (Int32) × (Int64)) :=
  xb (fx_X1_ofFree fr un sb se sc fb fe fo fc p1 p2) (fun k1 => if k1.1 = 1 then
  some (1, k1.2.1, k1.2.2.1, k1.2.2.2.1, k1.2.2.2.2, on)
else
  some (2, k1.2.1, k1.2.2.1, k1.2.2.2.1, k1.2.2.2.2, on)) (
  (f_X1_ofFree fr un sb se sc fb fe fo fc p1 p2).bind fun r1 =>
  some (0, r1.2.1, r1.2.2.1, r1.2.2.2.1, r1.2.2.2.2, r1.1.toInt64))
theorem f_L_ofFree_e {fr : Int64} {un : Int64} {sb : Nat → Int64} {se : Nat → Int64} {sc : Int32} {fb : Nat → Int64} {fe : Nat → Int64} {fo : Nat → Int32} {fc : Int32} {on : Int64} {p1 : Int32} {p2 : Int32} : f_L_ofFree fr un sb se sc fb fe fo fc on p1 p2 = 
  xb (fx_X1_ofFree fr un sb se sc fb fe fo fc p1 p2) (fun k1 => if k1.1 = 1 then
  some (1, k1.2.1, k1.2.2.1, k1.2.2.2.1, k1.2.2.2.2, on)
else
  some (2, k1.2.1, k1.2.2.1, k1.2.2.2.1, k1.2.2.2.2, on)) (
  (f_X1_ofFree fr un sb se sc fb fe fo fc p1 p2).bind fun r1 =>
  some (0, r1.2.1, r1.2.2.1, r1.2.2.2.1, r1.2.2.2.2, r1.1.toInt64)) := rfl
set_option maxHeartbeats 4000000 in
set_option maxRecDepth 100000 in
theorem c_L_ofFree (l : Launch) (hl9 : l.stackTraces = false) (dC : Nat → ClassId) (dI : Nat → Nat → Nat) (cB cI cJ cZ : ClassId) (a : Nat → Nat) (o : Nat) (sz : Nat) (ce : Nat → Int64) (fr : Int64) (un : Int64) (sb : Nat → Int64) (se : Nat → Int64) (so : Nat → Int32) (sc : Int32) (wb : Nat → Int64) (we : Nat → Int64) (wo : Nat → Int32) (wc : Int32) (fb : Nat → Int64) (fe : Nat → Int64) (fo : Nat → Int32) (fc : Int32) (rm : Nat → Int32) (ac : Int32) (rf : Int32) (kn : Int32) (on : Int64) (ov : Value) (p1 : Int32) (p2 : Int32) (res : (Int32) × (Nat → Int64) × (Nat → Int64) × (Nat → Int32) × (Int32) × (Int64)) (hf : f_L_ofFree fr un sb se sc fb fe fo fc on p1 p2 = some res) : kMw l yL_ofFree wsL_ofFree (kRm 8 1 6 133) dC dI cB cI cJ cZ [.ref (a 0), .int p1, .int p2, .ref o] sz ((wSB cI cJ cZ a ce fr un sb se so sc wb we wo wc fb fe fo fc rm ac rf kn) ++ (wO o on ov)) .int (res.1) ((wSB cI cJ cZ a ce fr un sb se so sc wb we wo wc (res.2.1) (res.2.2.1) (res.2.2.2.1) (res.2.2.2.2.1) rm ac rf kn) ++ (wO o (res.2.2.2.2.2) ov)) 1 6 := by
  refine kmet_w (y := yL_ofFree) (cc := cL_ofFree) (maxL := 5) (ret := (some .int)) (hh := [(0, 11, 14, 19), (0, 11, 18, 21)]) RL (kvA 0 (a 0) (kvI 1 p1 (kvI 2 p2 (kvA 3 o kvE)))) kpl_L rfl rfl (Nat.le_of_ble_eq_true rfl) rfl (fun p e s m below meth c A ls hx hb hr hml hht hts hown hlocks hP hK hG hZ hD hA hS hl => ?_)
  have hw0 := hts (.classLink RL 19 "java/lang/IndexOutOfBoundsException") (List.mem_cons_of_mem _ kw_467)
  have hw1 := hts (.classLink RL 21 "java/lang/IllegalArgumentException") (List.mem_cons_of_mem _ kw_468)
  have hiX2 : ∀ w ∈ u_ws RX2 TX2 2, w ∈ wsL_ofFree := fun w h => List.mem_cons_of_mem _ (ku_X2 w h)
  have h := f_L_ofFree_e.symm.trans hf
  refine lv_aload_n hx hb (kdr dgL_ofFree_0 0 0 rfl rfl) rfl (lv_at hl 3 rfl) ?_
  refine lv_aload_n hx hb (kdr dgL_ofFree_0 0 1 rfl rfl) rfl (lv_at hl 0 rfl) ?_
  refine lv_iload_n hx hb (kdr dgL_ofFree_0 0 2 rfl rfl) rfl (lv_at hl 1 rfl) ?_
  refine lv_iload_n hx hb (kdr dgL_ofFree_0 0 3 rfl rfl) rfl (lv_at hl 2 rfl) ?_
  rcases g_x h with ⟨k1, j1, h⟩ | ⟨-, h⟩
  · refine kq_xh ((wSB cI cJ cZ a ce fr un sb se so sc wb we wo wc k1.2.1 k1.2.2.1 k1.2.2.2.1 k1.2.2.2.2 rm ac rf kn) ++ (wO o on ov)) (fun qP qD qF => vx_runV (As := [.int p1, .int p2]) (rest := [.ref o]) ⟨hx, hb, hml, hown, hts⟩ (x_X1_ofFree l hl9 dC dI cB cI cJ cZ a _ ce fr un sb se so sc wb we wo wc fb fe fo fc rm ac rf kn p1 p2 k1 j1) (kcwV hts kw_1015 kv_X1_ofFree rfl rfl ⟨(Nat.le_of_ble_eq_true rfl), (Nat.le_of_ble_eq_true rfl)⟩) (kpVXq (A := A) qP hK qD hG hZ hS qF (krecv_3 (q0 := 0) hK hP rfl)) rfl rfl hl.1 rfl (lv_room (Nat.le_of_ble_eq_true rfl)) (kdr dgL_ofFree_0 0 4 rfl rfl) ⟨(Nat.le_of_ble_eq_true rfl), (Nat.le_of_ble_eq_true rfl)⟩) hP hD hS hA (kFr_l kFr_SB) (fun q9 ceQ H locs hP hD hS hce hcv hcl => ?_)
    by_cases e9 : k1.1 = 1
    · have h := g_t e9 h
      rw [kEx_1 e9] at hcl
      refine vx_catch (E := "java/lang/IndexOutOfBoundsException") (name := "java/lang/IndexOutOfBoundsException") (own := RL) hown [] ⟨0, 11, 14, 19⟩ [⟨0, 11, 18, 21⟩] hht (fun z hz => by cases hz) (by decide) (by decide) hw0 (va_Nw.use rfl (hG.at 4 rfl)) hce hcv hcl ?_
      refine lv_astore (lv' := (kvA 4 q9 (kvA 0 (a 0) (kvI 1 p1 (kvI 2 p2 (kvA 3 o kvE)))))) hx hb (kdr dgL_ofFree_0 0 8 rfl rfl) hl (by decide) rfl (fun ls hl => ?_)
      refine lv_iconst (v := 1) hx hb (kdr dgL_ofFree_0 0 9 rfl rfl) (by decide) ?_
      have h := Option.some.inj h
      subst h
      refine W.widen (k := 1) (n := 6) (Nat.le_of_ble_eq_true rfl) (Nat.le_of_ble_eq_true rfl) ?_
      exact kret_i (v := 1) hx hb hr rfl hlocks hS hP (kdr dgL_ofFree_0 1 0 rfl rfl)
    · have h := g_f e9 h
      rw [kEx_2 e9] at hcl
      refine vx_catch (E := "java/lang/IllegalArgumentException") (name := "java/lang/IllegalArgumentException") (own := RL) hown [⟨0, 11, 14, 19⟩] ⟨0, 11, 18, 21⟩ [] hht (fun z hz => by rcases List.mem_singleton.mp hz with rfl; exact Or.inr ⟨by decide, _, hw0, hG.2⟩) (by decide) (by decide) hw1 (va_Nw.use rfl (hG.at 5 rfl)) hce hcv hcl ?_
      refine lv_astore (lv' := (kvA 4 q9 (kvA 0 (a 0) (kvI 1 p1 (kvI 2 p2 (kvA 3 o kvE)))))) hx hb (kdr dgL_ofFree_0 1 1 rfl rfl) hl (by decide) rfl (fun ls hl => ?_)
      refine lv_iconst (v := 2) hx hb (kdr dgL_ofFree_0 1 2 rfl rfl) (by decide) ?_
      have h := Option.some.inj h
      subst h
      refine W.widen (k := 1) (n := 6) (Nat.le_of_ble_eq_true rfl) (Nat.le_of_ble_eq_true rfl) ?_
      exact kret_i (v := 2) hx hb hr rfl hlocks hS hP (kdr dgL_ofFree_0 1 3 rfl rfl)
  · obtain ⟨r1, g1, h⟩ := g_b h
    refine kq_i ((wSB cI cJ cZ a ce fr un sb se so sc wb we wo wc r1.2.1 r1.2.2.1 r1.2.2.2.1 r1.2.2.2.2 rm ac rf kn) ++ (wO o on ov)) (fun qP qD qF => va_runV (As := [.int p1, .int p2]) (rest := [.ref o]) ⟨hx, hb, hml, hown, hts⟩ (c_X1_ofFree l dC dI cB cI cJ cZ a _ ce fr un sb se so sc wb we wo wc fb fe fo fc rm ac rf kn p1 p2 r1 g1) (kcwV hts kw_1015 kv_X1_ofFree rfl rfl ⟨(Nat.le_of_ble_eq_true rfl), (Nat.le_of_ble_eq_true rfl)⟩) (kpV (A := A) qP hK qD hG (krecv_3 (q0 := 0) hK hP rfl)) rfl rfl hl.1 rfl (lv_room (Nat.le_of_ble_eq_true rfl)) (kdr dgL_ofFree_0 0 4 rfl rfl) ⟨(Nat.le_of_ble_eq_true rfl), (Nat.le_of_ble_eq_true rfl)⟩) hP hD hS hA (kFr_l kFr_SB) (fun H locs hP hD hS br1 => ?_)
    refine lv_i2l (v := r1.1.toInt64) hx hb (kdr dgL_ofFree_0 0 5 rfl rfl) rfl ?_
    refine va_putN (host := RL) (D := (dC, dI)) (ci := 4) (v := .long r1.1.toInt64) (ty := .long) (C := RX2) (T := TX2) (N := 2) hx hb hts hiX2 tyX2 tyX2_ok nmX2 hown hK hP hD hS 15 rfl rfl 0 (by decide) (va_Nw.use rfl (hG.at 7 rfl)) (fun _ h9 => h9) rfl (by decide +kernel) rfl rfl (Nat.le_of_ble_eq_true rfl) (kdr dgL_ofFree_0 0 6 rfl rfl) (fun H locs hP hD hS => ?_)
    have hP : va_P (dC, dI) vwCl ((wSB cI cJ cZ a ce fr un sb se so sc wb we wo wc r1.2.1 r1.2.2.1 r1.2.2.2.1 r1.2.2.2.2 rm ac rf kn) ++ (wO o r1.1.toInt64 ov)) H := hP
    have hD : va_D A ((wSB cI cJ cZ a ce fr un sb se so sc wb we wo wc r1.2.1 r1.2.2.1 r1.2.2.2.1 r1.2.2.2.2 rm ac rf kn) ++ (wO o r1.1.toInt64 ov)) := hD
    refine lv_goto (tgt := 22) hx hb (kdr dgL_ofFree_0 0 7 rfl rfl) (by decide) ?_
    refine lv_iconst (v := 0) hx hb (kdr dgL_ofFree_0 1 4 rfl rfl) (by decide) ?_
    have h := Option.some.inj h
    subst h
    refine W.widen (k := 1) (n := 6) (Nat.le_of_ble_eq_true rfl) (Nat.le_of_ble_eq_true rfl) ?_
    exact kret_i (v := 0) hx hb hr rfl hlocks hS hP (kdr dgL_ofFree_0 1 5 rfl rfl)
noncomputable abbrev wsL_freeAt : List Cond := Cond.codeWith yL_freeAt cL_freeAt 4 (some .int) [(0, 10, 13, 19)] :: kBIG
noncomputable def f_L_freeAt (ce : Nat → Int64) (fr : Int64) (un : Int64) (sb : Nat → Int64) (se : Nat → Int64) (sc : Int32) (fb : Nat → Int64) (fe : Nat → Int64) (fo : Nat → Int32) (fc : Int32) (on : Int64) (p1 : Int32) : Option ((Int32) × (Nat → Int64) × (Nat → Int64) × (Nat → Int32) × (Int32) × (Int64)) :=
  xb (fx_X1_freeAt p1) (fun k1 => if k1 = 1 then
  some (1, fb, fe, fo, fc, on)
else
  none) (
  (f_X1_freeAt ce fr un sb se sc fb fe fo fc p1).bind fun r1 =>
  some (0, r1.2.1, r1.2.2.1, r1.2.2.2.1, r1.2.2.2.2, r1.1.toInt64))
theorem f_L_freeAt_e {ce : Nat → Int64} {fr : Int64} {un : Int64} {sb : Nat → Int64} {se : Nat → Int64} {sc : Int32} {fb : Nat → Int64} {fe : Nat → Int64} {fo : Nat → Int32} {fc : Int32} {on : Int64} {p1 : Int32} : f_L_freeAt ce fr un sb se sc fb fe fo fc on p1 = 
  xb (fx_X1_freeAt p1) (fun k1 => if k1 = 1 then
  some (1, fb, fe, fo, fc, on)
else
  none) (
  (f_X1_freeAt ce fr un sb se sc fb fe fo fc p1).bind fun r1 =>
  some (0, r1.2.1, r1.2.2.1, r1.2.2.2.1, r1.2.2.2.2, r1.1.toInt64)) := rfl
set_option maxHeartbeats 4000000 in
set_option maxRecDepth 100000 in
theorem c_L_freeAt (l : Launch) (hl9 : l.stackTraces = false) (dC : Nat → ClassId) (dI : Nat → Nat → Nat) (cB cI cJ cZ : ClassId) (a : Nat → Nat) (o : Nat) (sz : Nat) (ce : Nat → Int64) (fr : Int64) (un : Int64) (sb : Nat → Int64) (se : Nat → Int64) (so : Nat → Int32) (sc : Int32) (wb : Nat → Int64) (we : Nat → Int64) (wo : Nat → Int32) (wc : Int32) (fb : Nat → Int64) (fe : Nat → Int64) (fo : Nat → Int32) (fc : Int32) (rm : Nat → Int32) (ac : Int32) (rf : Int32) (kn : Int32) (on : Int64) (ov : Value) (p1 : Int32) (res : (Int32) × (Nat → Int64) × (Nat → Int64) × (Nat → Int32) × (Int32) × (Int64)) (hf : f_L_freeAt ce fr un sb se sc fb fe fo fc on p1 = some res) : kMw l yL_freeAt wsL_freeAt (kRm 8 1 6 131) dC dI cB cI cJ cZ [.ref (a 0), .int p1, .ref o] sz ((wSB cI cJ cZ a ce fr un sb se so sc wb we wo wc fb fe fo fc rm ac rf kn) ++ (wO o on ov)) .int (res.1) ((wSB cI cJ cZ a ce fr un sb se so sc wb we wo wc (res.2.1) (res.2.2.1) (res.2.2.2.1) (res.2.2.2.2.1) rm ac rf kn) ++ (wO o (res.2.2.2.2.2) ov)) 1 6 := by
  refine kmet_w (y := yL_freeAt) (cc := cL_freeAt) (maxL := 4) (ret := (some .int)) (hh := [(0, 10, 13, 19)]) RL (kvA 0 (a 0) (kvI 1 p1 (kvA 2 o kvE))) kpl_L rfl rfl (Nat.le_of_ble_eq_true rfl) rfl (fun p e s m below meth c A ls hx hb hr hml hht hts hown hlocks hP hK hG hZ hD hA hS hl => ?_)
  have hw0 := hts (.classLink RL 19 "java/lang/IndexOutOfBoundsException") (List.mem_cons_of_mem _ kw_467)
  have hiX2 : ∀ w ∈ u_ws RX2 TX2 2, w ∈ wsL_freeAt := fun w h => List.mem_cons_of_mem _ (ku_X2 w h)
  have h := f_L_freeAt_e.symm.trans hf
  refine lv_aload_n hx hb (kdr dgL_freeAt_0 0 0 rfl rfl) rfl (lv_at hl 2 rfl) ?_
  refine lv_aload_n hx hb (kdr dgL_freeAt_0 0 1 rfl rfl) rfl (lv_at hl 0 rfl) ?_
  refine lv_iload_n hx hb (kdr dgL_freeAt_0 0 2 rfl rfl) rfl (lv_at hl 1 rfl) ?_
  rcases g_x h with ⟨k1, j1, h⟩ | ⟨-, h⟩
  · refine kq_xh ((wSB cI cJ cZ a ce fr un sb se so sc wb we wo wc fb fe fo fc rm ac rf kn) ++ (wO o on ov)) (fun qP qD qF => vx_runV (As := [.int p1]) (rest := [.ref o]) ⟨hx, hb, hml, hown, hts⟩ (x_X1_freeAt l hl9 dC dI cB cI cJ cZ a _ ce fr un sb se so sc wb we wo wc fb fe fo fc rm ac rf kn p1 k1 j1) (kcwV hts kw_1022 kv_X1_freeAt rfl rfl ⟨(Nat.le_of_ble_eq_true rfl), (Nat.le_of_ble_eq_true rfl)⟩) (kpVXq (A := A) qP hK qD hG hZ hS qF (krecv_3 (q0 := 0) hK hP rfl)) rfl rfl hl.1 rfl (lv_room (Nat.le_of_ble_eq_true rfl)) (kdr dgL_freeAt_0 0 3 rfl rfl) ⟨(Nat.le_of_ble_eq_true rfl), (Nat.le_of_ble_eq_true rfl)⟩) hP hD hS hA (kFr_l kFr_SB) (fun q9 ceQ H locs hP hD hS hce hcv hcl => ?_)
    by_cases e9 : k1 = 1
    · have h := g_t e9 h
      rw [kEx_1 e9] at hcl
      refine vx_catch (E := "java/lang/IndexOutOfBoundsException") (name := "java/lang/IndexOutOfBoundsException") (own := RL) hown [] ⟨0, 10, 13, 19⟩ [] hht (fun z hz => by cases hz) (by decide) (by decide) hw0 (va_Nw.use rfl (hG.at 4 rfl)) hce hcv hcl ?_
      refine lv_astore_n (lv' := (kvA 3 q9 (kvA 0 (a 0) (kvI 1 p1 (kvA 2 o kvE))))) hx hb (kdr dgL_freeAt_0 0 7 rfl rfl) rfl hl (by decide) rfl (fun ls hl => ?_)
      refine lv_iconst (v := 1) hx hb (kdr dgL_freeAt_0 0 8 rfl rfl) (by decide) ?_
      have h := Option.some.inj h
      subst h
      refine W.widen (k := 1) (n := 6) (Nat.le_of_ble_eq_true rfl) (Nat.le_of_ble_eq_true rfl) ?_
      exact kret_i (v := 1) hx hb hr rfl hlocks hS hP (kdr dgL_freeAt_0 0 9 rfl rfl)
    · have h := g_f e9 h
      rw [kEx_2 e9] at hcl
      cases h
  · obtain ⟨r1, g1, h⟩ := g_b h
    refine kq_i ((wSB cI cJ cZ a ce fr un sb se so sc wb we wo wc r1.2.1 r1.2.2.1 r1.2.2.2.1 r1.2.2.2.2 rm ac rf kn) ++ (wO o on ov)) (fun qP qD qF => va_runV (As := [.int p1]) (rest := [.ref o]) ⟨hx, hb, hml, hown, hts⟩ (c_X1_freeAt l dC dI cB cI cJ cZ a _ ce fr un sb se so sc wb we wo wc fb fe fo fc rm ac rf kn p1 r1 g1) (kcwV hts kw_1022 kv_X1_freeAt rfl rfl ⟨(Nat.le_of_ble_eq_true rfl), (Nat.le_of_ble_eq_true rfl)⟩) (kpV (A := A) qP hK qD hG (krecv_3 (q0 := 0) hK hP rfl)) rfl rfl hl.1 rfl (lv_room (Nat.le_of_ble_eq_true rfl)) (kdr dgL_freeAt_0 0 3 rfl rfl) ⟨(Nat.le_of_ble_eq_true rfl), (Nat.le_of_ble_eq_true rfl)⟩) hP hD hS hA (kFr_l kFr_SB) (fun H locs hP hD hS br1 => ?_)
    refine lv_i2l (v := r1.1.toInt64) hx hb (kdr dgL_freeAt_0 0 4 rfl rfl) rfl ?_
    refine va_putN (host := RL) (D := (dC, dI)) (ci := 4) (v := .long r1.1.toInt64) (ty := .long) (C := RX2) (T := TX2) (N := 2) hx hb hts hiX2 tyX2 tyX2_ok nmX2 hown hK hP hD hS 15 rfl rfl 0 (by decide) (va_Nw.use rfl (hG.at 7 rfl)) (fun _ h9 => h9) rfl (by decide +kernel) rfl rfl (Nat.le_of_ble_eq_true rfl) (kdr dgL_freeAt_0 0 5 rfl rfl) (fun H locs hP hD hS => ?_)
    have hP : va_P (dC, dI) vwCl ((wSB cI cJ cZ a ce fr un sb se so sc wb we wo wc r1.2.1 r1.2.2.1 r1.2.2.2.1 r1.2.2.2.2 rm ac rf kn) ++ (wO o r1.1.toInt64 ov)) H := hP
    have hD : va_D A ((wSB cI cJ cZ a ce fr un sb se so sc wb we wo wc r1.2.1 r1.2.2.1 r1.2.2.2.1 r1.2.2.2.2 rm ac rf kn) ++ (wO o r1.1.toInt64 ov)) := hD
    refine lv_goto (tgt := 16) hx hb (kdr dgL_freeAt_0 0 6 rfl rfl) (by decide) ?_
    refine lv_iconst (v := 0) hx hb (kdr dgL_freeAt_0 1 0 rfl rfl) (by decide) ?_
    have h := Option.some.inj h
    subst h
    refine W.widen (k := 1) (n := 6) (Nat.le_of_ble_eq_true rfl) (Nat.le_of_ble_eq_true rfl) ?_
    exact kret_i (v := 0) hx hb hr rfl hlocks hS hP (kdr dgL_freeAt_0 1 1 rfl rfl)
noncomputable abbrev wsL_length : List Cond := Cond.codeWith yL_length cL_length 4 (some .int) [(0, 10, 13, 21)] :: kBIG
noncomputable def f_L_length (fr : Int64) (un : Int64) (sb : Nat → Int64) (se : Nat → Int64) (sc : Int32) (fb : Nat → Int64) (fe : Nat → Int64) (fo : Nat → Int32) (fc : Int32) (on : Int64) (p1 : Int32) : Option ((Int32) × (Nat → Int64) × (Nat → Int64) × (Nat → Int32) × (Int32) × (Int64)) :=
  xb (fx_X1_length p1) (fun k1 => if k1 = 1 then
  none
else
  some (1, fb, fe, fo, fc, on)) (
  (f_X1_length fr un sb se sc fb fe fo fc p1).bind fun r1 =>
  some (0, r1.2.1, r1.2.2.1, r1.2.2.2.1, r1.2.2.2.2, r1.1.toInt64))
theorem f_L_length_e {fr : Int64} {un : Int64} {sb : Nat → Int64} {se : Nat → Int64} {sc : Int32} {fb : Nat → Int64} {fe : Nat → Int64} {fo : Nat → Int32} {fc : Int32} {on : Int64} {p1 : Int32} : f_L_length fr un sb se sc fb fe fo fc on p1 = 
  xb (fx_X1_length p1) (fun k1 => if k1 = 1 then
  none
else
  some (1, fb, fe, fo, fc, on)) (
  (f_X1_length fr un sb se sc fb fe fo fc p1).bind fun r1 =>
  some (0, r1.2.1, r1.2.2.1, r1.2.2.2.1, r1.2.2.2.2, r1.1.toInt64)) := rfl
set_option maxHeartbeats 4000000 in
set_option maxRecDepth 100000 in
theorem c_L_length (l : Launch) (hl9 : l.stackTraces = false) (dC : Nat → ClassId) (dI : Nat → Nat → Nat) (cB cI cJ cZ : ClassId) (a : Nat → Nat) (o : Nat) (sz : Nat) (ce : Nat → Int64) (fr : Int64) (un : Int64) (sb : Nat → Int64) (se : Nat → Int64) (so : Nat → Int32) (sc : Int32) (wb : Nat → Int64) (we : Nat → Int64) (wo : Nat → Int32) (wc : Int32) (fb : Nat → Int64) (fe : Nat → Int64) (fo : Nat → Int32) (fc : Int32) (rm : Nat → Int32) (ac : Int32) (rf : Int32) (kn : Int32) (on : Int64) (ov : Value) (p1 : Int32) (res : (Int32) × (Nat → Int64) × (Nat → Int64) × (Nat → Int32) × (Int32) × (Int64)) (hf : f_L_length fr un sb se sc fb fe fo fc on p1 = some res) : kMw l yL_length wsL_length (kRm 8 1 6 131) dC dI cB cI cJ cZ [.ref (a 0), .int p1, .ref o] sz ((wSB cI cJ cZ a ce fr un sb se so sc wb we wo wc fb fe fo fc rm ac rf kn) ++ (wO o on ov)) .int (res.1) ((wSB cI cJ cZ a ce fr un sb se so sc wb we wo wc (res.2.1) (res.2.2.1) (res.2.2.2.1) (res.2.2.2.2.1) rm ac rf kn) ++ (wO o (res.2.2.2.2.2) ov)) 1 6 := by
  refine kmet_w (y := yL_length) (cc := cL_length) (maxL := 4) (ret := (some .int)) (hh := [(0, 10, 13, 21)]) RL (kvA 0 (a 0) (kvI 1 p1 (kvA 2 o kvE))) kpl_L rfl rfl (Nat.le_of_ble_eq_true rfl) rfl (fun p e s m below meth c A ls hx hb hr hml hht hts hown hlocks hP hK hG hZ hD hA hS hl => ?_)
  have hw0 := hts (.classLink RL 21 "java/lang/IllegalArgumentException") (List.mem_cons_of_mem _ kw_468)
  have hiX2 : ∀ w ∈ u_ws RX2 TX2 2, w ∈ wsL_length := fun w h => List.mem_cons_of_mem _ (ku_X2 w h)
  have h := f_L_length_e.symm.trans hf
  refine lv_aload_n hx hb (kdr dgL_length_0 0 0 rfl rfl) rfl (lv_at hl 2 rfl) ?_
  refine lv_aload_n hx hb (kdr dgL_length_0 0 1 rfl rfl) rfl (lv_at hl 0 rfl) ?_
  refine lv_iload_n hx hb (kdr dgL_length_0 0 2 rfl rfl) rfl (lv_at hl 1 rfl) ?_
  rcases g_x h with ⟨k1, j1, h⟩ | ⟨-, h⟩
  · refine kq_xh ((wSB cI cJ cZ a ce fr un sb se so sc wb we wo wc fb fe fo fc rm ac rf kn) ++ (wO o on ov)) (fun qP qD qF => vx_runV (As := [.int p1]) (rest := [.ref o]) ⟨hx, hb, hml, hown, hts⟩ (x_X1_length l hl9 dC dI cB cI cJ cZ a _ ce fr un sb se so sc wb we wo wc fb fe fo fc rm ac rf kn p1 k1 j1) (kcwV hts kw_1029 kv_X1_length rfl rfl ⟨(Nat.le_of_ble_eq_true rfl), (Nat.le_of_ble_eq_true rfl)⟩) (kpVXq (A := A) qP hK qD hG hZ hS qF (krecv_3 (q0 := 0) hK hP rfl)) rfl rfl hl.1 rfl (lv_room (Nat.le_of_ble_eq_true rfl)) (kdr dgL_length_0 0 3 rfl rfl) ⟨(Nat.le_of_ble_eq_true rfl), (Nat.le_of_ble_eq_true rfl)⟩) hP hD hS hA (kFr_l kFr_SB) (fun q9 ceQ H locs hP hD hS hce hcv hcl => ?_)
    by_cases e9 : k1 = 1
    · have h := g_t e9 h
      rw [kEx_1 e9] at hcl
      cases h
    · have h := g_f e9 h
      rw [kEx_2 e9] at hcl
      refine vx_catch (E := "java/lang/IllegalArgumentException") (name := "java/lang/IllegalArgumentException") (own := RL) hown [] ⟨0, 10, 13, 21⟩ [] hht (fun z hz => by cases hz) (by decide) (by decide) hw0 (va_Nw.use rfl (hG.at 5 rfl)) hce hcv hcl ?_
      refine lv_astore_n (lv' := (kvA 3 q9 (kvA 0 (a 0) (kvI 1 p1 (kvA 2 o kvE))))) hx hb (kdr dgL_length_0 0 7 rfl rfl) rfl hl (by decide) rfl (fun ls hl => ?_)
      refine lv_iconst (v := 1) hx hb (kdr dgL_length_0 0 8 rfl rfl) (by decide) ?_
      have h := Option.some.inj h
      subst h
      refine W.widen (k := 1) (n := 6) (Nat.le_of_ble_eq_true rfl) (Nat.le_of_ble_eq_true rfl) ?_
      exact kret_i (v := 1) hx hb hr rfl hlocks hS hP (kdr dgL_length_0 0 9 rfl rfl)
  · obtain ⟨r1, g1, h⟩ := g_b h
    refine kq_i ((wSB cI cJ cZ a ce fr un sb se so sc wb we wo wc r1.2.1 r1.2.2.1 r1.2.2.2.1 r1.2.2.2.2 rm ac rf kn) ++ (wO o on ov)) (fun qP qD qF => va_runV (As := [.int p1]) (rest := [.ref o]) ⟨hx, hb, hml, hown, hts⟩ (c_X1_length l dC dI cB cI cJ cZ a _ ce fr un sb se so sc wb we wo wc fb fe fo fc rm ac rf kn p1 r1 g1) (kcwV hts kw_1029 kv_X1_length rfl rfl ⟨(Nat.le_of_ble_eq_true rfl), (Nat.le_of_ble_eq_true rfl)⟩) (kpV (A := A) qP hK qD hG (krecv_3 (q0 := 0) hK hP rfl)) rfl rfl hl.1 rfl (lv_room (Nat.le_of_ble_eq_true rfl)) (kdr dgL_length_0 0 3 rfl rfl) ⟨(Nat.le_of_ble_eq_true rfl), (Nat.le_of_ble_eq_true rfl)⟩) hP hD hS hA (kFr_l kFr_SB) (fun H locs hP hD hS br1 => ?_)
    refine lv_i2l (v := r1.1.toInt64) hx hb (kdr dgL_length_0 0 4 rfl rfl) rfl ?_
    refine va_putN (host := RL) (D := (dC, dI)) (ci := 4) (v := .long r1.1.toInt64) (ty := .long) (C := RX2) (T := TX2) (N := 2) hx hb hts hiX2 tyX2 tyX2_ok nmX2 hown hK hP hD hS 15 rfl rfl 0 (by decide) (va_Nw.use rfl (hG.at 7 rfl)) (fun _ h9 => h9) rfl (by decide +kernel) rfl rfl (Nat.le_of_ble_eq_true rfl) (kdr dgL_length_0 0 5 rfl rfl) (fun H locs hP hD hS => ?_)
    have hP : va_P (dC, dI) vwCl ((wSB cI cJ cZ a ce fr un sb se so sc wb we wo wc r1.2.1 r1.2.2.1 r1.2.2.2.1 r1.2.2.2.2 rm ac rf kn) ++ (wO o r1.1.toInt64 ov)) H := hP
    have hD : va_D A ((wSB cI cJ cZ a ce fr un sb se so sc wb we wo wc r1.2.1 r1.2.2.1 r1.2.2.2.1 r1.2.2.2.2 rm ac rf kn) ++ (wO o r1.1.toInt64 ov)) := hD
    refine lv_goto (tgt := 16) hx hb (kdr dgL_length_0 0 6 rfl rfl) (by decide) ?_
    refine lv_iconst (v := 0) hx hb (kdr dgL_length_0 1 0 rfl rfl) (by decide) ?_
    have h := Option.some.inj h
    subst h
    refine W.widen (k := 1) (n := 6) (Nat.le_of_ble_eq_true rfl) (Nat.le_of_ble_eq_true rfl) ?_
    exact kret_i (v := 0) hx hb hr rfl hlocks hS hP (kdr dgL_length_0 1 1 rfl rfl)
noncomputable abbrev wsL_ofWish : List Cond := Cond.codeWith yL_ofWish cL_ofWish 5 (some .int) [(0, 11, 14, 19), (0, 11, 18, 21)] :: kBIG
noncomputable def f_L_ofWish (wb : Nat → Int64) (we : Nat → Int64) (wc : Int32) (on : Int64) (p1 : Int32) (p2 : Int32) : Option ((Int32) × (Int64)) :=
  xb (fx_X1_ofWish wc p1 p2) (fun k1 => if k1 = 1 then
  some (1, on)
else
  some (2, on)) (
  (f_X1_ofWish wb we wc p1 p2).bind fun r1 =>
  some (0, r1.toInt64))
theorem f_L_ofWish_e {wb : Nat → Int64} {we : Nat → Int64} {wc : Int32} {on : Int64} {p1 : Int32} {p2 : Int32} : f_L_ofWish wb we wc on p1 p2 = 
  xb (fx_X1_ofWish wc p1 p2) (fun k1 => if k1 = 1 then
  some (1, on)
else
  some (2, on)) (
  (f_X1_ofWish wb we wc p1 p2).bind fun r1 =>
  some (0, r1.toInt64)) := rfl
set_option maxHeartbeats 4000000 in
set_option maxRecDepth 100000 in
theorem c_L_ofWish (l : Launch) (hl9 : l.stackTraces = false) (dC : Nat → ClassId) (dI : Nat → Nat → Nat) (cB cI cJ cZ : ClassId) (a : Nat → Nat) (o : Nat) (sz : Nat) (ce : Nat → Int64) (fr : Int64) (un : Int64) (sb : Nat → Int64) (se : Nat → Int64) (so : Nat → Int32) (sc : Int32) (wb : Nat → Int64) (we : Nat → Int64) (wo : Nat → Int32) (wc : Int32) (fb : Nat → Int64) (fe : Nat → Int64) (fo : Nat → Int32) (fc : Int32) (rm : Nat → Int32) (ac : Int32) (rf : Int32) (kn : Int32) (on : Int64) (ov : Value) (p1 : Int32) (p2 : Int32) (res : (Int32) × (Int64)) (hf : f_L_ofWish wb we wc on p1 p2 = some res) : kMw l yL_ofWish wsL_ofWish (kRm 8 1 6 133) dC dI cB cI cJ cZ [.ref (a 0), .int p1, .int p2, .ref o] sz ((wSB cI cJ cZ a ce fr un sb se so sc wb we wo wc fb fe fo fc rm ac rf kn) ++ (wO o on ov)) .int (res.1) ((wSB cI cJ cZ a ce fr un sb se so sc wb we wo wc fb fe fo fc rm ac rf kn) ++ (wO o (res.2) ov)) 1 6 := by
  refine kmet_w (y := yL_ofWish) (cc := cL_ofWish) (maxL := 5) (ret := (some .int)) (hh := [(0, 11, 14, 19), (0, 11, 18, 21)]) RL (kvA 0 (a 0) (kvI 1 p1 (kvI 2 p2 (kvA 3 o kvE)))) kpl_L rfl rfl (Nat.le_of_ble_eq_true rfl) rfl (fun p e s m below meth c A ls hx hb hr hml hht hts hown hlocks hP hK hG hZ hD hA hS hl => ?_)
  have hw0 := hts (.classLink RL 19 "java/lang/IndexOutOfBoundsException") (List.mem_cons_of_mem _ kw_467)
  have hw1 := hts (.classLink RL 21 "java/lang/IllegalArgumentException") (List.mem_cons_of_mem _ kw_468)
  have hiX2 : ∀ w ∈ u_ws RX2 TX2 2, w ∈ wsL_ofWish := fun w h => List.mem_cons_of_mem _ (ku_X2 w h)
  have h := f_L_ofWish_e.symm.trans hf
  refine lv_aload_n hx hb (kdr dgL_ofWish_0 0 0 rfl rfl) rfl (lv_at hl 3 rfl) ?_
  refine lv_aload_n hx hb (kdr dgL_ofWish_0 0 1 rfl rfl) rfl (lv_at hl 0 rfl) ?_
  refine lv_iload_n hx hb (kdr dgL_ofWish_0 0 2 rfl rfl) rfl (lv_at hl 1 rfl) ?_
  refine lv_iload_n hx hb (kdr dgL_ofWish_0 0 3 rfl rfl) rfl (lv_at hl 2 rfl) ?_
  rcases g_x h with ⟨k1, j1, h⟩ | ⟨-, h⟩
  · refine kq_xh ((wSB cI cJ cZ a ce fr un sb se so sc wb we wo wc fb fe fo fc rm ac rf kn) ++ (wO o on ov)) (fun qP qD qF => vx_runV (As := [.int p1, .int p2]) (rest := [.ref o]) ⟨hx, hb, hml, hown, hts⟩ (x_X1_ofWish l hl9 dC dI cB cI cJ cZ a _ ce fr un sb se so sc wb we wo wc fb fe fo fc rm ac rf kn p1 p2 k1 j1) (kcwV hts kw_1033 kv_X1_ofWish rfl rfl ⟨(Nat.le_of_ble_eq_true rfl), (Nat.le_of_ble_eq_true rfl)⟩) (kpVXq (A := A) qP hK qD hG hZ hS qF (krecv_3 (q0 := 0) hK hP rfl)) rfl rfl hl.1 rfl (lv_room (Nat.le_of_ble_eq_true rfl)) (kdr dgL_ofWish_0 0 4 rfl rfl) ⟨(Nat.le_of_ble_eq_true rfl), (Nat.le_of_ble_eq_true rfl)⟩) hP hD hS hA (kFr_l kFr_SB) (fun q9 ceQ H locs hP hD hS hce hcv hcl => ?_)
    by_cases e9 : k1 = 1
    · have h := g_t e9 h
      rw [kEx_1 e9] at hcl
      refine vx_catch (E := "java/lang/IndexOutOfBoundsException") (name := "java/lang/IndexOutOfBoundsException") (own := RL) hown [] ⟨0, 11, 14, 19⟩ [⟨0, 11, 18, 21⟩] hht (fun z hz => by cases hz) (by decide) (by decide) hw0 (va_Nw.use rfl (hG.at 4 rfl)) hce hcv hcl ?_
      refine lv_astore (lv' := (kvA 4 q9 (kvA 0 (a 0) (kvI 1 p1 (kvI 2 p2 (kvA 3 o kvE)))))) hx hb (kdr dgL_ofWish_0 0 8 rfl rfl) hl (by decide) rfl (fun ls hl => ?_)
      refine lv_iconst (v := 1) hx hb (kdr dgL_ofWish_0 0 9 rfl rfl) (by decide) ?_
      have h := Option.some.inj h
      subst h
      refine W.widen (k := 1) (n := 6) (Nat.le_of_ble_eq_true rfl) (Nat.le_of_ble_eq_true rfl) ?_
      exact kret_i (v := 1) hx hb hr rfl hlocks hS hP (kdr dgL_ofWish_0 1 0 rfl rfl)
    · have h := g_f e9 h
      rw [kEx_2 e9] at hcl
      refine vx_catch (E := "java/lang/IllegalArgumentException") (name := "java/lang/IllegalArgumentException") (own := RL) hown [⟨0, 11, 14, 19⟩] ⟨0, 11, 18, 21⟩ [] hht (fun z hz => by rcases List.mem_singleton.mp hz with rfl; exact Or.inr ⟨by decide, _, hw0, hG.2⟩) (by decide) (by decide) hw1 (va_Nw.use rfl (hG.at 5 rfl)) hce hcv hcl ?_
      refine lv_astore (lv' := (kvA 4 q9 (kvA 0 (a 0) (kvI 1 p1 (kvI 2 p2 (kvA 3 o kvE)))))) hx hb (kdr dgL_ofWish_0 1 1 rfl rfl) hl (by decide) rfl (fun ls hl => ?_)
      refine lv_iconst (v := 2) hx hb (kdr dgL_ofWish_0 1 2 rfl rfl) (by decide) ?_
      have h := Option.some.inj h
      subst h
      refine W.widen (k := 1) (n := 6) (Nat.le_of_ble_eq_true rfl) (Nat.le_of_ble_eq_true rfl) ?_
      exact kret_i (v := 2) hx hb hr rfl hlocks hS hP (kdr dgL_ofWish_0 1 3 rfl rfl)
  · obtain ⟨r1, g1, h⟩ := g_b h
    refine kq_i ((wSB cI cJ cZ a ce fr un sb se so sc wb we wo wc fb fe fo fc rm ac rf kn) ++ (wO o on ov)) (fun qP qD qF => va_runV (As := [.int p1, .int p2]) (rest := [.ref o]) ⟨hx, hb, hml, hown, hts⟩ (c_X1_ofWish l dC dI cB cI cJ cZ a _ ce fr un sb se so sc wb we wo wc fb fe fo fc rm ac rf kn p1 p2 r1 g1) (kcwV hts kw_1033 kv_X1_ofWish rfl rfl ⟨(Nat.le_of_ble_eq_true rfl), (Nat.le_of_ble_eq_true rfl)⟩) (kpV (A := A) qP hK qD hG (krecv_3 (q0 := 0) hK hP rfl)) rfl rfl hl.1 rfl (lv_room (Nat.le_of_ble_eq_true rfl)) (kdr dgL_ofWish_0 0 4 rfl rfl) ⟨(Nat.le_of_ble_eq_true rfl), (Nat.le_of_ble_eq_true rfl)⟩) hP hD hS hA (kFr_l kFr_SB) (fun H locs hP hD hS br1 => ?_)
    refine lv_i2l (v := r1.toInt64) hx hb (kdr dgL_ofWish_0 0 5 rfl rfl) rfl ?_
    refine va_putN (host := RL) (D := (dC, dI)) (ci := 4) (v := .long r1.toInt64) (ty := .long) (C := RX2) (T := TX2) (N := 2) hx hb hts hiX2 tyX2 tyX2_ok nmX2 hown hK hP hD hS 15 rfl rfl 0 (by decide) (va_Nw.use rfl (hG.at 7 rfl)) (fun _ h9 => h9) rfl (by decide +kernel) rfl rfl (Nat.le_of_ble_eq_true rfl) (kdr dgL_ofWish_0 0 6 rfl rfl) (fun H locs hP hD hS => ?_)
    have hP : va_P (dC, dI) vwCl ((wSB cI cJ cZ a ce fr un sb se so sc wb we wo wc fb fe fo fc rm ac rf kn) ++ (wO o r1.toInt64 ov)) H := hP
    have hD : va_D A ((wSB cI cJ cZ a ce fr un sb se so sc wb we wo wc fb fe fo fc rm ac rf kn) ++ (wO o r1.toInt64 ov)) := hD
    refine lv_goto (tgt := 22) hx hb (kdr dgL_ofWish_0 0 7 rfl rfl) (by decide) ?_
    refine lv_iconst (v := 0) hx hb (kdr dgL_ofWish_0 1 4 rfl rfl) (by decide) ?_
    have h := Option.some.inj h
    subst h
    refine W.widen (k := 1) (n := 6) (Nat.le_of_ble_eq_true rfl) (Nat.le_of_ble_eq_true rfl) ?_
    exact kret_i (v := 0) hx hb hr rfl hlocks hS hP (kdr dgL_ofWish_0 1 5 rfl rfl)
noncomputable abbrev wsL_isApart : List Cond := Cond.codeWith yL_isApart cL_isApart 4 (some .int) [(0, 17, 20, 21)] :: kBIG
noncomputable def f_L_isApart (wb : Nat → Int64) (we : Nat → Int64) (wc : Int32) (on : Int64) (p1 : Int32) : Option ((Int32) × (Int64)) :=
  xb (fx_X1_isApart wc p1) (fun k1 => if k1 = 1 then
  none
else
  some (1, on)) (
  (f_X1_isApart wb we wc p1).bind fun r1 =>
  if r1 = 0 then
    some (0, 0)
  else
    some (0, 1))
theorem f_L_isApart_e {wb : Nat → Int64} {we : Nat → Int64} {wc : Int32} {on : Int64} {p1 : Int32} : f_L_isApart wb we wc on p1 = 
  xb (fx_X1_isApart wc p1) (fun k1 => if k1 = 1 then
  none
else
  some (1, on)) (
  (f_X1_isApart wb we wc p1).bind fun r1 =>
  if r1 = 0 then
    some (0, 0)
  else
    some (0, 1)) := rfl
set_option maxHeartbeats 4000000 in
set_option maxRecDepth 100000 in
theorem c_L_isApart (l : Launch) (hl9 : l.stackTraces = false) (dC : Nat → ClassId) (dI : Nat → Nat → Nat) (cB cI cJ cZ : ClassId) (a : Nat → Nat) (o : Nat) (sz : Nat) (ce : Nat → Int64) (fr : Int64) (un : Int64) (sb : Nat → Int64) (se : Nat → Int64) (so : Nat → Int32) (sc : Int32) (wb : Nat → Int64) (we : Nat → Int64) (wo : Nat → Int32) (wc : Int32) (fb : Nat → Int64) (fe : Nat → Int64) (fo : Nat → Int32) (fc : Int32) (rm : Nat → Int32) (ac : Int32) (rf : Int32) (kn : Int32) (on : Int64) (ov : Value) (p1 : Int32) (res : (Int32) × (Int64)) (hf : f_L_isApart wb we wc on p1 = some res) : kMw l yL_isApart wsL_isApart (kRm 8 1 6 131) dC dI cB cI cJ cZ [.ref (a 0), .int p1, .ref o] sz ((wSB cI cJ cZ a ce fr un sb se so sc wb we wo wc fb fe fo fc rm ac rf kn) ++ (wO o on ov)) .int (res.1) ((wSB cI cJ cZ a ce fr un sb se so sc wb we wo wc fb fe fo fc rm ac rf kn) ++ (wO o (res.2) ov)) 1 6 := by
  refine kmet_w (y := yL_isApart) (cc := cL_isApart) (maxL := 4) (ret := (some .int)) (hh := [(0, 17, 20, 21)]) RL (kvA 0 (a 0) (kvI 1 p1 (kvA 2 o kvE))) kpl_L rfl rfl (Nat.le_of_ble_eq_true rfl) rfl (fun p e s m below meth c A ls hx hb hr hml hht hts hown hlocks hP hK hG hZ hD hA hS hl => ?_)
  have hw0 := hts (.classLink RL 21 "java/lang/IllegalArgumentException") (List.mem_cons_of_mem _ kw_468)
  have hiX2 : ∀ w ∈ u_ws RX2 TX2 2, w ∈ wsL_isApart := fun w h => List.mem_cons_of_mem _ (ku_X2 w h)
  have h := f_L_isApart_e.symm.trans hf
  refine lv_aload_n hx hb (kdr dgL_isApart_0 0 0 rfl rfl) rfl (lv_at hl 2 rfl) ?_
  refine lv_aload_n hx hb (kdr dgL_isApart_0 0 1 rfl rfl) rfl (lv_at hl 0 rfl) ?_
  refine lv_iload_n hx hb (kdr dgL_isApart_0 0 2 rfl rfl) rfl (lv_at hl 1 rfl) ?_
  rcases g_x h with ⟨k1, j1, h⟩ | ⟨-, h⟩
  · refine kq_xh ((wSB cI cJ cZ a ce fr un sb se so sc wb we wo wc fb fe fo fc rm ac rf kn) ++ (wO o on ov)) (fun qP qD qF => vx_runV (As := [.int p1]) (rest := [.ref o]) ⟨hx, hb, hml, hown, hts⟩ (x_X1_isApart l hl9 dC dI cB cI cJ cZ a _ ce fr un sb se so sc wb we wo wc fb fe fo fc rm ac rf kn p1 k1 j1) (kcwV hts kw_1040 kv_X1_isApart rfl rfl ⟨(Nat.le_of_ble_eq_true rfl), (Nat.le_of_ble_eq_true rfl)⟩) (kpVXq (A := A) qP hK qD hG hZ hS qF (krecv_3 (q0 := 0) hK hP rfl)) rfl rfl hl.1 rfl (lv_room (Nat.le_of_ble_eq_true rfl)) (kdr dgL_isApart_0 0 3 rfl rfl) ⟨(Nat.le_of_ble_eq_true rfl), (Nat.le_of_ble_eq_true rfl)⟩) hP hD hS hA (kFr_l kFr_SB) (fun q9 ceQ H locs hP hD hS hce hcv hcl => ?_)
    by_cases e9 : k1 = 1
    · have h := g_t e9 h
      rw [kEx_1 e9] at hcl
      cases h
    · have h := g_f e9 h
      rw [kEx_2 e9] at hcl
      refine vx_catch (E := "java/lang/IllegalArgumentException") (name := "java/lang/IllegalArgumentException") (own := RL) hown [] ⟨0, 17, 20, 21⟩ [] hht (fun z hz => by cases hz) (by decide) (by decide) hw0 (va_Nw.use rfl (hG.at 5 rfl)) hce hcv hcl ?_
      refine lv_astore_n (lv' := (kvA 3 q9 (kvA 0 (a 0) (kvI 1 p1 (kvA 2 o kvE))))) hx hb (kdr dgL_isApart_0 1 0 rfl rfl) rfl hl (by decide) rfl (fun ls hl => ?_)
      refine lv_iconst (v := 1) hx hb (kdr dgL_isApart_0 1 1 rfl rfl) (by decide) ?_
      have h := Option.some.inj h
      subst h
      refine W.widen (k := 1) (n := 6) (Nat.le_of_ble_eq_true rfl) (Nat.le_of_ble_eq_true rfl) ?_
      exact kret_i (v := 1) hx hb hr rfl hlocks hS hP (kdr dgL_isApart_0 1 2 rfl rfl)
  · obtain ⟨r1, g1, h⟩ := g_b h
    refine kq_i ((wSB cI cJ cZ a ce fr un sb se so sc wb we wo wc fb fe fo fc rm ac rf kn) ++ (wO o on ov)) (fun qP qD qF => va_runV (As := [.int p1]) (rest := [.ref o]) ⟨hx, hb, hml, hown, hts⟩ (c_X1_isApart l dC dI cB cI cJ cZ a _ ce fr un sb se so sc wb we wo wc fb fe fo fc rm ac rf kn p1 r1 g1) (kcwV hts kw_1040 kv_X1_isApart rfl rfl ⟨(Nat.le_of_ble_eq_true rfl), (Nat.le_of_ble_eq_true rfl)⟩) (kpV (A := A) qP hK qD hG (krecv_3 (q0 := 0) hK hP rfl)) rfl rfl hl.1 rfl (lv_room (Nat.le_of_ble_eq_true rfl)) (kdr dgL_isApart_0 0 3 rfl rfl) ⟨(Nat.le_of_ble_eq_true rfl), (Nat.le_of_ble_eq_true rfl)⟩) hP hD hS hA (kFr_l kFr_SB) (fun H locs hP hD hS br1 => ?_)
    refine lv_if_eq (tgt := 13) hx hb (kdr dgL_isApart_0 0 4 rfl rfl) (by decide) (fun c2 => ?_) (fun c2 => ?_)
    · have h := g_t c2 h
      refine lv_lconst (v := 0) hx hb (kdr dgL_isApart_0 0 7 rfl rfl) (by decide) ?_
      refine va_putN (host := RL) (D := (dC, dI)) (ci := 4) (v := .long 0) (ty := .long) (C := RX2) (T := TX2) (N := 2) hx hb hts hiX2 tyX2 tyX2_ok nmX2 hown hK hP hD hS 15 rfl rfl 0 (by decide) (va_Nw.use rfl (hG.at 7 rfl)) (fun _ h9 => h9) rfl (by decide +kernel) rfl rfl (Nat.le_of_ble_eq_true rfl) (kdr dgL_isApart_0 0 8 rfl rfl) (fun H locs hP hD hS => ?_)
      have hP : va_P (dC, dI) vwCl ((wSB cI cJ cZ a ce fr un sb se so sc wb we wo wc fb fe fo fc rm ac rf kn) ++ (wO o 0 ov)) H := hP
      have hD : va_D A ((wSB cI cJ cZ a ce fr un sb se so sc wb we wo wc fb fe fo fc rm ac rf kn) ++ (wO o 0 ov)) := hD
      refine lv_goto (tgt := 23) hx hb (kdr dgL_isApart_0 0 9 rfl rfl) (by decide) ?_
      refine lv_iconst (v := 0) hx hb (kdr dgL_isApart_0 1 3 rfl rfl) (by decide) ?_
      have h := Option.some.inj h
      subst h
      refine W.widen (k := 1) (n := 6) (Nat.le_of_ble_eq_true rfl) (Nat.le_of_ble_eq_true rfl) ?_
      exact kret_i (v := 0) hx hb hr rfl hlocks hS hP (kdr dgL_isApart_0 1 4 rfl rfl)
    · have h := g_f c2 h
      refine lv_lconst (v := 1) hx hb (kdr dgL_isApart_0 0 5 rfl rfl) (by decide) ?_
      refine lv_goto (tgt := 14) hx hb (kdr dgL_isApart_0 0 6 rfl rfl) (by decide) ?_
      refine va_putN (host := RL) (D := (dC, dI)) (ci := 4) (v := .long 1) (ty := .long) (C := RX2) (T := TX2) (N := 2) hx hb hts hiX2 tyX2 tyX2_ok nmX2 hown hK hP hD hS 15 rfl rfl 0 (by decide) (va_Nw.use rfl (hG.at 7 rfl)) (fun _ h9 => h9) rfl (by decide +kernel) rfl rfl (Nat.le_of_ble_eq_true rfl) (kdr dgL_isApart_0 0 8 rfl rfl) (fun H locs hP hD hS => ?_)
      have hP : va_P (dC, dI) vwCl ((wSB cI cJ cZ a ce fr un sb se so sc wb we wo wc fb fe fo fc rm ac rf kn) ++ (wO o 1 ov)) H := hP
      have hD : va_D A ((wSB cI cJ cZ a ce fr un sb se so sc wb we wo wc fb fe fo fc rm ac rf kn) ++ (wO o 1 ov)) := hD
      refine lv_goto (tgt := 23) hx hb (kdr dgL_isApart_0 0 9 rfl rfl) (by decide) ?_
      refine lv_iconst (v := 0) hx hb (kdr dgL_isApart_0 1 3 rfl rfl) (by decide) ?_
      have h := Option.some.inj h
      subst h
      refine W.widen (k := 1) (n := 6) (Nat.le_of_ble_eq_true rfl) (Nat.le_of_ble_eq_true rfl) ?_
      exact kret_i (v := 0) hx hb hr rfl hlocks hS hP (kdr dgL_isApart_0 1 4 rfl rfl)
noncomputable abbrev wsL_most : List Cond := Cond.codeWith yL_most cL_most 4 (some .int) [(0, 10, 13, 21)] :: kBIG
noncomputable def f_L_most (wb : Nat → Int64) (we : Nat → Int64) (wc : Int32) (on : Int64) (p1 : Int32) : Option ((Int32) × (Int64)) :=
  xb (fx_X1_most p1) (fun k1 => if k1 = 1 then
  none
else
  some (1, on)) (
  (f_X1_most wb we wc p1).bind fun r1 =>
  some (0, r1.toInt64))
theorem f_L_most_e {wb : Nat → Int64} {we : Nat → Int64} {wc : Int32} {on : Int64} {p1 : Int32} : f_L_most wb we wc on p1 = 
  xb (fx_X1_most p1) (fun k1 => if k1 = 1 then
  none
else
  some (1, on)) (
  (f_X1_most wb we wc p1).bind fun r1 =>
  some (0, r1.toInt64)) := rfl
set_option maxHeartbeats 4000000 in
set_option maxRecDepth 100000 in
theorem c_L_most (l : Launch) (hl9 : l.stackTraces = false) (dC : Nat → ClassId) (dI : Nat → Nat → Nat) (cB cI cJ cZ : ClassId) (a : Nat → Nat) (o : Nat) (sz : Nat) (ce : Nat → Int64) (fr : Int64) (un : Int64) (sb : Nat → Int64) (se : Nat → Int64) (so : Nat → Int32) (sc : Int32) (wb : Nat → Int64) (we : Nat → Int64) (wo : Nat → Int32) (wc : Int32) (fb : Nat → Int64) (fe : Nat → Int64) (fo : Nat → Int32) (fc : Int32) (rm : Nat → Int32) (ac : Int32) (rf : Int32) (kn : Int32) (on : Int64) (ov : Value) (p1 : Int32) (res : (Int32) × (Int64)) (hf : f_L_most wb we wc on p1 = some res) : kMw l yL_most wsL_most (kRm 8 1 6 131) dC dI cB cI cJ cZ [.ref (a 0), .int p1, .ref o] sz ((wSB cI cJ cZ a ce fr un sb se so sc wb we wo wc fb fe fo fc rm ac rf kn) ++ (wO o on ov)) .int (res.1) ((wSB cI cJ cZ a ce fr un sb se so sc wb we wo wc fb fe fo fc rm ac rf kn) ++ (wO o (res.2) ov)) 1 6 := by
  refine kmet_w (y := yL_most) (cc := cL_most) (maxL := 4) (ret := (some .int)) (hh := [(0, 10, 13, 21)]) RL (kvA 0 (a 0) (kvI 1 p1 (kvA 2 o kvE))) kpl_L rfl rfl (Nat.le_of_ble_eq_true rfl) rfl (fun p e s m below meth c A ls hx hb hr hml hht hts hown hlocks hP hK hG hZ hD hA hS hl => ?_)
  have hw0 := hts (.classLink RL 21 "java/lang/IllegalArgumentException") (List.mem_cons_of_mem _ kw_468)
  have hiX2 : ∀ w ∈ u_ws RX2 TX2 2, w ∈ wsL_most := fun w h => List.mem_cons_of_mem _ (ku_X2 w h)
  have h := f_L_most_e.symm.trans hf
  refine lv_aload_n hx hb (kdr dgL_most_0 0 0 rfl rfl) rfl (lv_at hl 2 rfl) ?_
  refine lv_aload_n hx hb (kdr dgL_most_0 0 1 rfl rfl) rfl (lv_at hl 0 rfl) ?_
  refine lv_iload_n hx hb (kdr dgL_most_0 0 2 rfl rfl) rfl (lv_at hl 1 rfl) ?_
  rcases g_x h with ⟨k1, j1, h⟩ | ⟨-, h⟩
  · refine kq_xh ((wSB cI cJ cZ a ce fr un sb se so sc wb we wo wc fb fe fo fc rm ac rf kn) ++ (wO o on ov)) (fun qP qD qF => vx_runV (As := [.int p1]) (rest := [.ref o]) ⟨hx, hb, hml, hown, hts⟩ (x_X1_most l hl9 dC dI cB cI cJ cZ a _ ce fr un sb se so sc wb we wo wc fb fe fo fc rm ac rf kn p1 k1 j1) (kcwV hts kw_1047 kv_X1_most rfl rfl ⟨(Nat.le_of_ble_eq_true rfl), (Nat.le_of_ble_eq_true rfl)⟩) (kpVXq (A := A) qP hK qD hG hZ hS qF (krecv_3 (q0 := 0) hK hP rfl)) rfl rfl hl.1 rfl (lv_room (Nat.le_of_ble_eq_true rfl)) (kdr dgL_most_0 0 3 rfl rfl) ⟨(Nat.le_of_ble_eq_true rfl), (Nat.le_of_ble_eq_true rfl)⟩) hP hD hS hA (kFr_l kFr_SB) (fun q9 ceQ H locs hP hD hS hce hcv hcl => ?_)
    by_cases e9 : k1 = 1
    · have h := g_t e9 h
      rw [kEx_1 e9] at hcl
      cases h
    · have h := g_f e9 h
      rw [kEx_2 e9] at hcl
      refine vx_catch (E := "java/lang/IllegalArgumentException") (name := "java/lang/IllegalArgumentException") (own := RL) hown [] ⟨0, 10, 13, 21⟩ [] hht (fun z hz => by cases hz) (by decide) (by decide) hw0 (va_Nw.use rfl (hG.at 5 rfl)) hce hcv hcl ?_
      refine lv_astore_n (lv' := (kvA 3 q9 (kvA 0 (a 0) (kvI 1 p1 (kvA 2 o kvE))))) hx hb (kdr dgL_most_0 0 7 rfl rfl) rfl hl (by decide) rfl (fun ls hl => ?_)
      refine lv_iconst (v := 1) hx hb (kdr dgL_most_0 0 8 rfl rfl) (by decide) ?_
      have h := Option.some.inj h
      subst h
      refine W.widen (k := 1) (n := 6) (Nat.le_of_ble_eq_true rfl) (Nat.le_of_ble_eq_true rfl) ?_
      exact kret_i (v := 1) hx hb hr rfl hlocks hS hP (kdr dgL_most_0 0 9 rfl rfl)
  · obtain ⟨r1, g1, h⟩ := g_b h
    refine kq_i ((wSB cI cJ cZ a ce fr un sb se so sc wb we wo wc fb fe fo fc rm ac rf kn) ++ (wO o on ov)) (fun qP qD qF => va_runV (As := [.int p1]) (rest := [.ref o]) ⟨hx, hb, hml, hown, hts⟩ (c_X1_most l dC dI cB cI cJ cZ a _ ce fr un sb se so sc wb we wo wc fb fe fo fc rm ac rf kn p1 r1 g1) (kcwV hts kw_1047 kv_X1_most rfl rfl ⟨(Nat.le_of_ble_eq_true rfl), (Nat.le_of_ble_eq_true rfl)⟩) (kpV (A := A) qP hK qD hG (krecv_3 (q0 := 0) hK hP rfl)) rfl rfl hl.1 rfl (lv_room (Nat.le_of_ble_eq_true rfl)) (kdr dgL_most_0 0 3 rfl rfl) ⟨(Nat.le_of_ble_eq_true rfl), (Nat.le_of_ble_eq_true rfl)⟩) hP hD hS hA (kFr_l kFr_SB) (fun H locs hP hD hS br1 => ?_)
    refine lv_i2l (v := r1.toInt64) hx hb (kdr dgL_most_0 0 4 rfl rfl) rfl ?_
    refine va_putN (host := RL) (D := (dC, dI)) (ci := 4) (v := .long r1.toInt64) (ty := .long) (C := RX2) (T := TX2) (N := 2) hx hb hts hiX2 tyX2 tyX2_ok nmX2 hown hK hP hD hS 15 rfl rfl 0 (by decide) (va_Nw.use rfl (hG.at 7 rfl)) (fun _ h9 => h9) rfl (by decide +kernel) rfl rfl (Nat.le_of_ble_eq_true rfl) (kdr dgL_most_0 0 5 rfl rfl) (fun H locs hP hD hS => ?_)
    have hP : va_P (dC, dI) vwCl ((wSB cI cJ cZ a ce fr un sb se so sc wb we wo wc fb fe fo fc rm ac rf kn) ++ (wO o r1.toInt64 ov)) H := hP
    have hD : va_D A ((wSB cI cJ cZ a ce fr un sb se so sc wb we wo wc fb fe fo fc rm ac rf kn) ++ (wO o r1.toInt64 ov)) := hD
    refine lv_goto (tgt := 16) hx hb (kdr dgL_most_0 0 6 rfl rfl) (by decide) ?_
    refine lv_iconst (v := 0) hx hb (kdr dgL_most_0 1 0 rfl rfl) (by decide) ?_
    have h := Option.some.inj h
    subst h
    refine W.widen (k := 1) (n := 6) (Nat.le_of_ble_eq_true rfl) (Nat.le_of_ble_eq_true rfl) ?_
    exact kret_i (v := 0) hx hb hr rfl hlocks hS hP (kdr dgL_most_0 1 1 rfl rfl)
noncomputable abbrev wsL_room : List Cond := Cond.codeWith yL_room cL_room 4 (some .int) [(0, 10, 13, 19)] :: kBIG
noncomputable def f_L_room (wb : Nat → Int64) (we : Nat → Int64) (wc : Int32) (rm : Nat → Int32) (on : Int64) (p1 : Int32) : Option ((Int32) × (Nat → Int32) × (Int64)) :=
  xb (fx_X1_room wc p1) (fun k1 => if k1 = 1 then
  some (1, rm, on)
else
  none) (
  (f_X1_room wb we wc rm p1).bind fun r1 =>
  some (0, r1.2, r1.1.toInt64))
theorem f_L_room_e {wb : Nat → Int64} {we : Nat → Int64} {wc : Int32} {rm : Nat → Int32} {on : Int64} {p1 : Int32} : f_L_room wb we wc rm on p1 = 
  xb (fx_X1_room wc p1) (fun k1 => if k1 = 1 then
  some (1, rm, on)
else
  none) (
  (f_X1_room wb we wc rm p1).bind fun r1 =>
  some (0, r1.2, r1.1.toInt64)) := rfl
set_option maxHeartbeats 4000000 in
set_option maxRecDepth 100000 in
theorem c_L_room (l : Launch) (hl9 : l.stackTraces = false) (dC : Nat → ClassId) (dI : Nat → Nat → Nat) (cB cI cJ cZ : ClassId) (a : Nat → Nat) (o : Nat) (sz : Nat) (ce : Nat → Int64) (fr : Int64) (un : Int64) (sb : Nat → Int64) (se : Nat → Int64) (so : Nat → Int32) (sc : Int32) (wb : Nat → Int64) (we : Nat → Int64) (wo : Nat → Int32) (wc : Int32) (fb : Nat → Int64) (fe : Nat → Int64) (fo : Nat → Int32) (fc : Int32) (rm : Nat → Int32) (ac : Int32) (rf : Int32) (kn : Int32) (on : Int64) (ov : Value) (p1 : Int32) (res : (Int32) × (Nat → Int32) × (Int64)) (hf : f_L_room wb we wc rm on p1 = some res) : kMw l yL_room wsL_room (kRm 8 1 6 132) dC dI cB cI cJ cZ [.ref (a 0), .int p1, .ref o] sz ((wSB cI cJ cZ a ce fr un sb se so sc wb we wo wc fb fe fo fc rm ac rf kn) ++ (wO o on ov)) .int (res.1) ((wSB cI cJ cZ a ce fr un sb se so sc wb we wo wc fb fe fo fc (res.2.1) ac rf kn) ++ (wO o (res.2.2) ov)) 1 6 := by
  refine kmet_w (y := yL_room) (cc := cL_room) (maxL := 4) (ret := (some .int)) (hh := [(0, 10, 13, 19)]) RL (kvA 0 (a 0) (kvI 1 p1 (kvA 2 o kvE))) kpl_L rfl rfl (Nat.le_of_ble_eq_true rfl) rfl (fun p e s m below meth c A ls hx hb hr hml hht hts hown hlocks hP hK hG hZ hD hA hS hl => ?_)
  have hw0 := hts (.classLink RL 19 "java/lang/IndexOutOfBoundsException") (List.mem_cons_of_mem _ kw_467)
  have hiX2 : ∀ w ∈ u_ws RX2 TX2 2, w ∈ wsL_room := fun w h => List.mem_cons_of_mem _ (ku_X2 w h)
  have h := f_L_room_e.symm.trans hf
  refine lv_aload_n hx hb (kdr dgL_room_0 0 0 rfl rfl) rfl (lv_at hl 2 rfl) ?_
  refine lv_aload_n hx hb (kdr dgL_room_0 0 1 rfl rfl) rfl (lv_at hl 0 rfl) ?_
  refine lv_iload_n hx hb (kdr dgL_room_0 0 2 rfl rfl) rfl (lv_at hl 1 rfl) ?_
  rcases g_x h with ⟨k1, j1, h⟩ | ⟨-, h⟩
  · refine kq_xh ((wSB cI cJ cZ a ce fr un sb se so sc wb we wo wc fb fe fo fc rm ac rf kn) ++ (wO o on ov)) (fun qP qD qF => vx_runV (As := [.int p1]) (rest := [.ref o]) ⟨hx, hb, hml, hown, hts⟩ (x_X1_room l hl9 dC dI cB cI cJ cZ a _ ce fr un sb se so sc wb we wo wc fb fe fo fc rm ac rf kn p1 k1 j1) (kcwV hts kw_1054 kv_X1_room rfl rfl ⟨(Nat.le_of_ble_eq_true rfl), (Nat.le_of_ble_eq_true rfl)⟩) (kpVXq (A := A) qP hK qD hG hZ hS qF (krecv_3 (q0 := 0) hK hP rfl)) rfl rfl hl.1 rfl (lv_room (Nat.le_of_ble_eq_true rfl)) (kdr dgL_room_0 0 3 rfl rfl) ⟨(Nat.le_of_ble_eq_true rfl), (Nat.le_of_ble_eq_true rfl)⟩) hP hD hS hA (kFr_l kFr_SB) (fun q9 ceQ H locs hP hD hS hce hcv hcl => ?_)
    by_cases e9 : k1 = 1
    · have h := g_t e9 h
      rw [kEx_1 e9] at hcl
      refine vx_catch (E := "java/lang/IndexOutOfBoundsException") (name := "java/lang/IndexOutOfBoundsException") (own := RL) hown [] ⟨0, 10, 13, 19⟩ [] hht (fun z hz => by cases hz) (by decide) (by decide) hw0 (va_Nw.use rfl (hG.at 4 rfl)) hce hcv hcl ?_
      refine lv_astore_n (lv' := (kvA 3 q9 (kvA 0 (a 0) (kvI 1 p1 (kvA 2 o kvE))))) hx hb (kdr dgL_room_0 0 7 rfl rfl) rfl hl (by decide) rfl (fun ls hl => ?_)
      refine lv_iconst (v := 1) hx hb (kdr dgL_room_0 0 8 rfl rfl) (by decide) ?_
      have h := Option.some.inj h
      subst h
      refine W.widen (k := 1) (n := 6) (Nat.le_of_ble_eq_true rfl) (Nat.le_of_ble_eq_true rfl) ?_
      exact kret_i (v := 1) hx hb hr rfl hlocks hS hP (kdr dgL_room_0 0 9 rfl rfl)
    · have h := g_f e9 h
      rw [kEx_2 e9] at hcl
      cases h
  · obtain ⟨r1, g1, h⟩ := g_b h
    refine kq_i ((wSB cI cJ cZ a ce fr un sb se so sc wb we wo wc fb fe fo fc r1.2 ac rf kn) ++ (wO o on ov)) (fun qP qD qF => va_runV (As := [.int p1]) (rest := [.ref o]) ⟨hx, hb, hml, hown, hts⟩ (c_X1_room l dC dI cB cI cJ cZ a _ ce fr un sb se so sc wb we wo wc fb fe fo fc rm ac rf kn p1 r1 g1) (kcwV hts kw_1054 kv_X1_room rfl rfl ⟨(Nat.le_of_ble_eq_true rfl), (Nat.le_of_ble_eq_true rfl)⟩) (kpV (A := A) qP hK qD hG (krecv_3 (q0 := 0) hK hP rfl)) rfl rfl hl.1 rfl (lv_room (Nat.le_of_ble_eq_true rfl)) (kdr dgL_room_0 0 3 rfl rfl) ⟨(Nat.le_of_ble_eq_true rfl), (Nat.le_of_ble_eq_true rfl)⟩) hP hD hS hA (kFr_l kFr_SB) (fun H locs hP hD hS br1 => ?_)
    refine lv_i2l (v := r1.1.toInt64) hx hb (kdr dgL_room_0 0 4 rfl rfl) rfl ?_
    refine va_putN (host := RL) (D := (dC, dI)) (ci := 4) (v := .long r1.1.toInt64) (ty := .long) (C := RX2) (T := TX2) (N := 2) hx hb hts hiX2 tyX2 tyX2_ok nmX2 hown hK hP hD hS 15 rfl rfl 0 (by decide) (va_Nw.use rfl (hG.at 7 rfl)) (fun _ h9 => h9) rfl (by decide +kernel) rfl rfl (Nat.le_of_ble_eq_true rfl) (kdr dgL_room_0 0 5 rfl rfl) (fun H locs hP hD hS => ?_)
    have hP : va_P (dC, dI) vwCl ((wSB cI cJ cZ a ce fr un sb se so sc wb we wo wc fb fe fo fc r1.2 ac rf kn) ++ (wO o r1.1.toInt64 ov)) H := hP
    have hD : va_D A ((wSB cI cJ cZ a ce fr un sb se so sc wb we wo wc fb fe fo fc r1.2 ac rf kn) ++ (wO o r1.1.toInt64 ov)) := hD
    refine lv_goto (tgt := 16) hx hb (kdr dgL_room_0 0 6 rfl rfl) (by decide) ?_
    refine lv_iconst (v := 0) hx hb (kdr dgL_room_0 1 0 rfl rfl) (by decide) ?_
    have h := Option.some.inj h
    subst h
    refine W.widen (k := 1) (n := 6) (Nat.le_of_ble_eq_true rfl) (Nat.le_of_ble_eq_true rfl) ?_
    exact kret_i (v := 0) hx hb hr rfl hlocks hS hP (kdr dgL_room_0 1 1 rfl rfl)
noncomputable abbrev wsL_house : List Cond := Cond.codeWith yL_house cL_house 4 (some .int) [(0, 10, 13, 21)] :: kBIG
noncomputable def f_L_house (ac : Int32) (rf : Int32) (kn : Int32) (on : Int64) (p1 : Int32) : Option ((Int32) × (Int64)) :=
  xb (fx_X1_house p1) (fun k1 => if k1 = 1 then
  none
else
  some (1, on)) (
  (f_X1_house ac rf kn p1).bind fun r1 =>
  some (0, r1.toInt64))
theorem f_L_house_e {ac : Int32} {rf : Int32} {kn : Int32} {on : Int64} {p1 : Int32} : f_L_house ac rf kn on p1 = 
  xb (fx_X1_house p1) (fun k1 => if k1 = 1 then
  none
else
  some (1, on)) (
  (f_X1_house ac rf kn p1).bind fun r1 =>
  some (0, r1.toInt64)) := rfl
set_option maxHeartbeats 4000000 in
set_option maxRecDepth 100000 in
theorem c_L_house (l : Launch) (hl9 : l.stackTraces = false) (dC : Nat → ClassId) (dI : Nat → Nat → Nat) (cB cI cJ cZ : ClassId) (a : Nat → Nat) (o : Nat) (sz : Nat) (ce : Nat → Int64) (fr : Int64) (un : Int64) (sb : Nat → Int64) (se : Nat → Int64) (so : Nat → Int32) (sc : Int32) (wb : Nat → Int64) (we : Nat → Int64) (wo : Nat → Int32) (wc : Int32) (fb : Nat → Int64) (fe : Nat → Int64) (fo : Nat → Int32) (fc : Int32) (rm : Nat → Int32) (ac : Int32) (rf : Int32) (kn : Int32) (on : Int64) (ov : Value) (p1 : Int32) (res : (Int32) × (Int64)) (hf : f_L_house ac rf kn on p1 = some res) : kMw l yL_house wsL_house (kRm 8 1 6 131) dC dI cB cI cJ cZ [.ref (a 0), .int p1, .ref o] sz ((wSB cI cJ cZ a ce fr un sb se so sc wb we wo wc fb fe fo fc rm ac rf kn) ++ (wO o on ov)) .int (res.1) ((wSB cI cJ cZ a ce fr un sb se so sc wb we wo wc fb fe fo fc rm ac rf kn) ++ (wO o (res.2) ov)) 1 6 := by
  refine kmet_w (y := yL_house) (cc := cL_house) (maxL := 4) (ret := (some .int)) (hh := [(0, 10, 13, 21)]) RL (kvA 0 (a 0) (kvI 1 p1 (kvA 2 o kvE))) kpl_L rfl rfl (Nat.le_of_ble_eq_true rfl) rfl (fun p e s m below meth c A ls hx hb hr hml hht hts hown hlocks hP hK hG hZ hD hA hS hl => ?_)
  have hw0 := hts (.classLink RL 21 "java/lang/IllegalArgumentException") (List.mem_cons_of_mem _ kw_468)
  have hiX2 : ∀ w ∈ u_ws RX2 TX2 2, w ∈ wsL_house := fun w h => List.mem_cons_of_mem _ (ku_X2 w h)
  have h := f_L_house_e.symm.trans hf
  refine lv_aload_n hx hb (kdr dgL_house_0 0 0 rfl rfl) rfl (lv_at hl 2 rfl) ?_
  refine lv_aload_n hx hb (kdr dgL_house_0 0 1 rfl rfl) rfl (lv_at hl 0 rfl) ?_
  refine lv_iload_n hx hb (kdr dgL_house_0 0 2 rfl rfl) rfl (lv_at hl 1 rfl) ?_
  rcases g_x h with ⟨k1, j1, h⟩ | ⟨-, h⟩
  · refine kq_xh ((wSB cI cJ cZ a ce fr un sb se so sc wb we wo wc fb fe fo fc rm ac rf kn) ++ (wO o on ov)) (fun qP qD qF => vx_runV (As := [.int p1]) (rest := [.ref o]) ⟨hx, hb, hml, hown, hts⟩ (x_X1_house l hl9 dC dI cB cI cJ cZ a _ ce fr un sb se so sc wb we wo wc fb fe fo fc rm ac rf kn p1 k1 j1) (kcwV hts kw_1061 kv_X1_house rfl rfl ⟨(Nat.le_of_ble_eq_true rfl), (Nat.le_of_ble_eq_true rfl)⟩) (kpVXq (A := A) qP hK qD hG hZ hS qF (krecv_3 (q0 := 0) hK hP rfl)) rfl rfl hl.1 rfl (lv_room (Nat.le_of_ble_eq_true rfl)) (kdr dgL_house_0 0 3 rfl rfl) ⟨(Nat.le_of_ble_eq_true rfl), (Nat.le_of_ble_eq_true rfl)⟩) hP hD hS hA (kFr_l kFr_SB) (fun q9 ceQ H locs hP hD hS hce hcv hcl => ?_)
    by_cases e9 : k1 = 1
    · have h := g_t e9 h
      rw [kEx_1 e9] at hcl
      cases h
    · have h := g_f e9 h
      rw [kEx_2 e9] at hcl
      refine vx_catch (E := "java/lang/IllegalArgumentException") (name := "java/lang/IllegalArgumentException") (own := RL) hown [] ⟨0, 10, 13, 21⟩ [] hht (fun z hz => by cases hz) (by decide) (by decide) hw0 (va_Nw.use rfl (hG.at 5 rfl)) hce hcv hcl ?_
      refine lv_astore_n (lv' := (kvA 3 q9 (kvA 0 (a 0) (kvI 1 p1 (kvA 2 o kvE))))) hx hb (kdr dgL_house_0 0 7 rfl rfl) rfl hl (by decide) rfl (fun ls hl => ?_)
      refine lv_iconst (v := 1) hx hb (kdr dgL_house_0 0 8 rfl rfl) (by decide) ?_
      have h := Option.some.inj h
      subst h
      refine W.widen (k := 1) (n := 6) (Nat.le_of_ble_eq_true rfl) (Nat.le_of_ble_eq_true rfl) ?_
      exact kret_i (v := 1) hx hb hr rfl hlocks hS hP (kdr dgL_house_0 0 9 rfl rfl)
  · obtain ⟨r1, g1, h⟩ := g_b h
    refine kq_i ((wSB cI cJ cZ a ce fr un sb se so sc wb we wo wc fb fe fo fc rm ac rf kn) ++ (wO o on ov)) (fun qP qD qF => va_runV (As := [.int p1]) (rest := [.ref o]) ⟨hx, hb, hml, hown, hts⟩ (c_X1_house l dC dI cB cI cJ cZ a _ ce fr un sb se so sc wb we wo wc fb fe fo fc rm ac rf kn p1 r1 g1) (kcwV hts kw_1061 kv_X1_house rfl rfl ⟨(Nat.le_of_ble_eq_true rfl), (Nat.le_of_ble_eq_true rfl)⟩) (kpV (A := A) qP hK qD hG (krecv_3 (q0 := 0) hK hP rfl)) rfl rfl hl.1 rfl (lv_room (Nat.le_of_ble_eq_true rfl)) (kdr dgL_house_0 0 3 rfl rfl) ⟨(Nat.le_of_ble_eq_true rfl), (Nat.le_of_ble_eq_true rfl)⟩) hP hD hS hA (kFr_l kFr_SB) (fun H locs hP hD hS br1 => ?_)
    refine lv_i2l (v := r1.toInt64) hx hb (kdr dgL_house_0 0 4 rfl rfl) rfl ?_
    refine va_putN (host := RL) (D := (dC, dI)) (ci := 4) (v := .long r1.toInt64) (ty := .long) (C := RX2) (T := TX2) (N := 2) hx hb hts hiX2 tyX2 tyX2_ok nmX2 hown hK hP hD hS 15 rfl rfl 0 (by decide) (va_Nw.use rfl (hG.at 7 rfl)) (fun _ h9 => h9) rfl (by decide +kernel) rfl rfl (Nat.le_of_ble_eq_true rfl) (kdr dgL_house_0 0 5 rfl rfl) (fun H locs hP hD hS => ?_)
    have hP : va_P (dC, dI) vwCl ((wSB cI cJ cZ a ce fr un sb se so sc wb we wo wc fb fe fo fc rm ac rf kn) ++ (wO o r1.toInt64 ov)) H := hP
    have hD : va_D A ((wSB cI cJ cZ a ce fr un sb se so sc wb we wo wc fb fe fo fc rm ac rf kn) ++ (wO o r1.toInt64 ov)) := hD
    refine lv_goto (tgt := 16) hx hb (kdr dgL_house_0 0 6 rfl rfl) (by decide) ?_
    refine lv_iconst (v := 0) hx hb (kdr dgL_house_0 1 0 rfl rfl) (by decide) ?_
    have h := Option.some.inj h
    subst h
    refine W.widen (k := 1) (n := 6) (Nat.le_of_ble_eq_true rfl) (Nat.le_of_ble_eq_true rfl) ?_
    exact kret_i (v := 0) hx hb hr rfl hlocks hS hP (kdr dgL_house_0 1 1 rfl rfl)
noncomputable abbrev wsL_text : List Cond := Cond.codeWith yL_text cL_text 4 (some .int) [(0, 9, 12, 19)] :: kBIG
noncomputable def f_L_text (ce : Nat → Int64) (p1 : Int32) : Option (Int32) :=
  xb (fx_X1_text p1) (fun k1 => if k1 = 1 then
  some 1
else
  none) (
  (f_X1_text ce p1).bind fun r1 =>
  some 0)
theorem f_L_text_e {ce : Nat → Int64} {p1 : Int32} : f_L_text ce p1 = 
  xb (fx_X1_text p1) (fun k1 => if k1 = 1 then
  some 1
else
  none) (
  (f_X1_text ce p1).bind fun r1 =>
  some 0) := rfl
set_option maxHeartbeats 4000000 in
set_option maxRecDepth 100000 in
theorem c_L_text (l : Launch) (hl9 : l.stackTraces = false) (dC : Nat → ClassId) (dI : Nat → Nat → Nat) (cB cI cJ cZ : ClassId) (a : Nat → Nat) (o : Nat) (sz : Nat) (ce : Nat → Int64) (fr : Int64) (un : Int64) (sb : Nat → Int64) (se : Nat → Int64) (so : Nat → Int32) (sc : Int32) (wb : Nat → Int64) (we : Nat → Int64) (wo : Nat → Int32) (wc : Int32) (fb : Nat → Int64) (fe : Nat → Int64) (fo : Nat → Int32) (fc : Int32) (rm : Nat → Int32) (ac : Int32) (rf : Int32) (kn : Int32) (on : Int64) (ov : Value) (p1 : Int32) (res : Int32) (hf : f_L_text ce p1 = some res) : Met l yL_text wsL_text (kRm 8 7 280 193) (kPreX (dC, dI) (kTy cB cI cJ cZ) [.ref (a 0), .int p1, .ref o] sz ((wSB cI cJ cZ a ce fr un sb se so sc wb we wo wc fb fe fo fc rm ac rf kn) ++ (wO o on ov))) (kIw (dC, dI) .int (res) (fun w9 => ((wSB cI cJ cZ a ce fr un sb se so sc wb we wo wc fb fe fo fc rm ac rf kn) ++ (wO o on w9))) (va_A ((wSB cI cJ cZ a ce fr un sb se so sc wb we wo wc fb fe fo fc rm ac rf kn) ++ (wO o on ov)) sz)) 7 280 (va_A ((wSB cI cJ cZ a ce fr un sb se so sc wb we wo wc fb fe fo fc rm ac rf kn) ++ (wO o on ov)) sz) := by
  refine va_MetW (cc := cL_text) (maxL := 4) (ret := (some .int)) (hh := [(0, 9, 12, 19)]) (by decide) rfl ?_
  intro p e s m args below meth c s₁ B hml hv
  obtain ⟨rfl, hsz, hP, hK, hD0, hG, hZ⟩ := hv
  have hx := B.exec
  have hb := B.bytes
  have hr := B.returns
  have hts := atoms_spec (ws := wsL_text) B.pre
  have hht := vx_table (x := yL_text) B (hts _ List.mem_cons_self)
  have hown : s.vm.findClass RL = some m.cls := findClass_of_methodNamed B.named
  have hlocks := B.notSynchronized
  subst hsz
  have hD := hD0.self (sz := s.heap.size)
  generalize hAe : va_A ((wSB cI cJ cZ a ce fr un sb se so sc wb we wo wc fb fe fo fc rm ac rf kn) ++ (wO o on ov)) s.heap.size = A at hD hZ ⊢
  have hA : ∀ q : Nat, s.heap.size ≤ q → A q := fun q h => by rw [← hAe]; exact Or.inr h
  have hS : va_S A s.heap s.heap [] := va_S.rf
  clear hAe
  have hw0 := hts (.classLink RL 19 "java/lang/IndexOutOfBoundsException") (List.mem_cons_of_mem _ kw_467)
  have hiX2 : ∀ w ∈ u_ws RX2 TX2 2, w ∈ wsL_text := fun w h => List.mem_cons_of_mem _ (ku_X2 w h)
  have hl := lv_entry ([.ref (a 0), .int p1, .ref o]) (n := 4) (Nat.le_of_ble_eq_true rfl)
  rw [lg_entry_eq]
  generalize (lg_sl ([.ref (a 0), .int p1, .ref o]) ++ List.replicate (4 - (lg_sl ([.ref (a 0), .int p1, .ref o])).length) Slot.unset).toArray = ls at hl ⊢
  have hl : lv_has ls 4 (kvA 0 (a 0) (kvI 1 p1 (kvA 2 o kvE))) := hl
  have h := f_L_text_e.symm.trans hf
  refine lv_aload_n hx hb (kdr dgL_text_0 0 0 rfl rfl) rfl (lv_at hl 2 rfl) ?_
  refine lv_aload_n hx hb (kdr dgL_text_0 0 1 rfl rfl) rfl (lv_at hl 0 rfl) ?_
  refine lv_iload_n hx hb (kdr dgL_text_0 0 2 rfl rfl) rfl (lv_at hl 1 rfl) ?_
  rcases g_x h with ⟨k1, j1, h⟩ | ⟨-, h⟩
  · refine kq_xh ((wSB cI cJ cZ a ce fr un sb se so sc wb we wo wc fb fe fo fc rm ac rf kn) ++ (wO o on ov)) (fun qP qD qF => vx_runV (As := [.int p1]) (rest := [.ref o]) ⟨hx, hb, hml, hown, hts⟩ (x_X1_text l hl9 dC dI cB cI cJ cZ a _ ce fr un sb se so sc wb we wo wc fb fe fo fc rm ac rf kn p1 k1 j1) (kcwV hts kw_678 kv_X1_text rfl rfl ⟨(Nat.le_of_ble_eq_true rfl), (Nat.le_of_ble_eq_true rfl)⟩) (kpVXq (A := A) qP hK qD hG hZ hS qF (krecv_3 (q0 := 0) hK hP rfl)) rfl rfl hl.1 rfl (lv_room (Nat.le_of_ble_eq_true rfl)) (kdr dgL_text_0 0 3 rfl rfl) ⟨(Nat.le_of_ble_eq_true rfl), (Nat.le_of_ble_eq_true rfl)⟩) hP hD hS hA (kFr_l kFr_SB) (fun q9 ceQ H locs hP hD hS hce hcv hcl => ?_)
    by_cases e9 : k1 = 1
    · have h := g_t e9 h
      rw [kEx_1 e9] at hcl
      refine vx_catch (E := "java/lang/IndexOutOfBoundsException") (name := "java/lang/IndexOutOfBoundsException") (own := RL) hown [] ⟨0, 9, 12, 19⟩ [] hht (fun z hz => by cases hz) (by decide) (by decide) hw0 (va_Nw.use rfl (hG.at 4 rfl)) hce hcv hcl ?_
      refine lv_astore_n (lv' := (kvA 3 q9 (kvA 0 (a 0) (kvI 1 p1 (kvA 2 o kvE))))) hx hb (kdr dgL_text_0 0 6 rfl rfl) rfl hl (by decide) rfl (fun ls hl => ?_)
      refine lv_iconst (v := 1) hx hb (kdr dgL_text_0 0 7 rfl rfl) (by decide) ?_
      have h := Option.some.inj h
      subst h
      refine W.widen (k := 7) (n := 280) (Nat.le_of_ble_eq_true rfl) (Nat.le_of_ble_eq_true rfl) ?_
      exact kret_iw (v := 1) (w := ov) (F := fun w9 => ((wSB cI cJ cZ a ce fr un sb se so sc wb we wo wc fb fe fo fc rm ac rf kn) ++ (wO o on w9))) hx hb hr rfl hlocks rfl hS hP (kdr dgL_text_0 0 8 rfl rfl)
    · have h := g_f e9 h
      rw [kEx_2 e9] at hcl
      cases h
  · obtain ⟨r1, g1, h⟩ := g_b h
    refine kcall_n ((wSB cI cJ cZ a ce fr un sb se so sc wb we wo wc fb fe fo fc rm ac rf kn) ++ (wO o on ov)) (va_runV (As := [.int p1]) (rest := [.ref o]) ⟨hx, hb, hml, hown, hts⟩ (c_X1_text l dC dI cB cI cJ cZ a _ ce fr un sb se so sc wb we wo wc fb fe fo fc rm ac rf kn p1 r1 g1) (kcwV hts kw_678 kv_X1_text rfl rfl ⟨(Nat.le_of_ble_eq_true rfl), (Nat.le_of_ble_eq_true rfl)⟩) (kpVX (A := A) (hP.sub (kIT mk_39 0) (km_f (m := mk_39) rfl rfl)) hK (hD.sub (kIT mk_39 0) (km_nd mk_39) (km_T (m := mk_39) rfl rfl)) hG hZ hS hD hA (kIT mk_39 0) (km_T (m := mk_39) rfl rfl) (krecv_3 (q0 := 0) hK hP rfl)) rfl rfl hl.1 rfl (lv_room (Nat.le_of_ble_eq_true rfl)) (kdr dgL_text_0 0 3 rfl rfl) ⟨(Nat.le_of_ble_eq_true rfl), (Nat.le_of_ble_eq_true rfl)⟩) hP hD hS hA (kIT mk_39 0) (kIT mk_40 0) (km_T (m := mk_39) rfl rfl) (km_T (m := mk_39) rfl rfl) (wO o on ov) (km_T (m := mk_40) rfl rfl) (km_T (m := mk_40) rfl rfl) (km_cov (m := mk_39) (n := mk_40) rfl rfl) (km_dis (m := mk_39) (n := mk_40) rfl) rfl (fun qa1 H locs hP hD hS => ?_)
    refine va_putN (host := RL) (D := (dC, dI)) (ci := 4) (v := .ref qa1) (ty := (.object "java/lang/String")) (C := RX2) (T := TX2) (N := 2) hx hb hts hiX2 tyX2 tyX2_ok nmX2 hown hK hP hD hS 15 rfl rfl 1 (by decide) (va_Nw.use rfl (hG.at 8 rfl)) (fun _ h9 => h9) rfl (by decide +kernel) rfl rfl (Nat.le_of_ble_eq_true rfl) (kdr dgL_text_0 0 4 rfl rfl) (fun H locs hP hD hS => ?_)
    have hP : va_P (dC, dI) vwCl ((wSB cI cJ cZ a ce fr un sb se so sc wb we wo wc fb fe fo fc rm ac rf kn) ++ (wO o on (.ref qa1))) H := hP
    have hD : va_D A ((wSB cI cJ cZ a ce fr un sb se so sc wb we wo wc fb fe fo fc rm ac rf kn) ++ (wO o on (.ref qa1))) := hD
    refine lv_goto (tgt := 15) hx hb (kdr dgL_text_0 0 5 rfl rfl) (by decide) ?_
    refine lv_iconst (v := 0) hx hb (kdr dgL_text_0 0 9 rfl rfl) (by decide) ?_
    have h := Option.some.inj h
    subst h
    refine W.widen (k := 7) (n := 280) (Nat.le_of_ble_eq_true rfl) (Nat.le_of_ble_eq_true rfl) ?_
    exact kret_iw (v := 0) (w := (.ref qa1)) (F := fun w9 => ((wSB cI cJ cZ a ce fr un sb se so sc wb we wo wc fb fe fo fc rm ac rf kn) ++ (wO o on w9))) hx hb hr rfl hlocks rfl hS hP (kdr dgL_text_0 1 0 rfl rfl)
end
