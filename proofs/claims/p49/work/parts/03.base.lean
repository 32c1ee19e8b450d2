-- 03.dec.lean.txt
section
theorem dgJ9_floorDiv_f86c9_0 : kRun kT cJ9_floorDiv_f86c9.data.toList 0 (List.flatten (iqC (iqr1 0 iq30 (iqr1 1 iq32 (iqr1 2 iq109 (iqr2 3 (iq55 4) (iqr1 5 iq30 (iqr1 6 iq32 (iqr1 7 iq131 (iqr1 8 iq9 (iqr1 9 iq148 (iqr3 10 (iq156 17) iqE)))))))))) (iqC (iqr2 13 (iq22 4) (iqr1 15 iq32 (iqr1 16 iq105 (iqr1 17 iq30 (iqr1 18 iq148 (iqr3 19 (iq153 8) (iqr2 22 (iq22 4) (iqr1 24 iq10 (iqr1 25 iq101 (iqr1 26 iq173 iqE)))))))))) (iqC (iqr2 27 (iq22 4) (iqr1 29 iq173 iqE)) iqN)))) = true := by decide +kernel
theorem dgJ9_floorMod_f86c9_0 : kRun kT cJ9_floorMod_f86c9.data.toList 0 (List.flatten (iqC (iqr1 0 iq30 (iqr1 1 iq32 (iqr1 2 iq113 (iqr2 3 (iq55 4) (iqr1 5 iq30 (iqr1 6 iq32 (iqr1 7 iq131 (iqr1 8 iq9 (iqr1 9 iq148 (iqr3 10 (iq156 15) iqE)))))))))) (iqC (iqr2 13 (iq22 4) (iqr1 15 iq9 (iqr1 16 iq148 (iqr3 17 (iq153 8) (iqr2 20 (iq22 4) (iqr1 22 iq32 (iqr1 23 iq97 (iqr1 24 iq173 (iqr2 25 (iq22 4) (iqr1 27 iq173 iqE)))))))))) iqN))) = true := by decide +kernel
theorem dgJ6_bitCount_0f7a4_0 : kRun kT cJ6_bitCount_0f7a4.data.toList 0 (List.flatten (iqC (iqr1 0 iq26 (iqr1 1 iq26 (iqr1 2 iq4 (iqr1 3 iq124 (iqr3 4 (iq19 265) (iqr1 7 iq126 (iqr1 8 iq100 (iqr1 9 iq59 (iqr1 10 iq26 (iqr3 11 (iq19 266) iqE)))))))))) (iqC (iqr1 14 iq126 (iqr1 15 iq26 (iqr1 16 iq5 (iqr1 17 iq124 (iqr3 18 (iq19 266) (iqr1 21 iq126 (iqr1 22 iq96 (iqr1 23 iq59 (iqr1 24 iq26 (iqr1 25 iq26 iqE)))))))))) (iqC (iqr1 26 iq7 (iqr1 27 iq124 (iqr1 28 iq96 (iqr3 29 (iq19 267) (iqr1 32 iq126 (iqr1 33 iq59 (iqr1 34 iq26 (iqr1 35 iq26 (iqr2 36 (iq16 8) (iqr1 38 iq124 iqE)))))))))) (iqC (iqr1 39 iq96 (iqr1 40 iq59 (iqr1 41 iq26 (iqr1 42 iq26 (iqr2 43 (iq16 16) (iqr1 45 iq124 (iqr1 46 iq96 (iqr1 47 iq59 (iqr1 48 iq26 (iqr2 49 (iq16 63) iqE)))))))))) (iqC (iqr1 51 iq126 (iqr1 52 iq172 iqE)) iqN)))))) = true := by decide +kernel
theorem dgX0_count_0 : kRun kT cX0_count.data.toList 0 (List.flatten (iqC (iqr1 0 iq42 (iqr3 1 (iq180 22) (iqr1 4 iq172 iqE))) iqN)) = true := by decide +kernel
theorem dgX0_isIn_0 : kRun kT cX0_isIn.data.toList 0 (List.flatten (iqC (iqr1 0 iq27 (iqr3 1 (iq155 15) (iqr1 4 iq27 (iqr1 5 iq42 (iqr3 6 (iq180 22) (iqr3 9 (iq162 7) (iqr1 12 iq4 (iqr3 13 (iq167 4) (iqr1 16 iq3 (iqr1 17 iq172 iqE)))))))))) iqN)) = true := by decide +kernel
theorem dgX0_begin_0 : kRun kT cX0_begin.data.toList 0 (List.flatten (iqC (iqr1 0 iq42 (iqr1 1 iq27 (iqr3 2 (iq182 26) (iqr3 5 (iq153 12) (iqr1 8 iq42 (iqr3 9 (iq180 9) (iqr1 12 iq27 (iqr1 13 iq47 (iqr3 14 (iq167 4) (iqr1 17 iq9 iqE)))))))))) (iqC (iqr1 18 iq173 iqE) iqN))) = true := by decide +kernel
theorem dgX0_end_0 : kRun kT cX0_end.data.toList 0 (List.flatten (iqC (iqr1 0 iq42 (iqr1 1 iq27 (iqr3 2 (iq182 26) (iqr3 5 (iq153 12) (iqr1 8 iq42 (iqr3 9 (iq180 15) (iqr1 12 iq27 (iqr1 13 iq47 (iqr3 14 (iq167 4) (iqr1 17 iq9 iqE)))))))))) (iqC (iqr1 18 iq173 iqE) iqN))) = true := by decide +kernel
theorem dgX0_isOver_0 : kRun kT cX0_isOver.data.toList 0 (List.flatten (iqC (iqr1 0 iq42 (iqr1 1 iq27 (iqr3 2 (iq182 26) (iqr3 5 (iq153 16) (iqr1 8 iq42 (iqr3 9 (iq180 18) (iqr1 12 iq27 (iqr1 13 iq51 (iqr3 14 (iq153 7) (iqr1 17 iq4 iqE)))))))))) (iqC (iqr3 18 (iq167 4) (iqr1 21 iq3 (iqr1 22 iq172 iqE))) iqN))) = true := by decide +kernel
theorem dgX0_clear_0 : kRun kT cX0_clear.data.toList 0 (List.flatten (iqC (iqr1 0 iq42 (iqr3 1 (iq180 22) (iqr1 4 iq60 (iqr1 5 iq42 (iqr1 6 iq3 (iqr3 7 (iq181 22) (iqr1 10 iq27 (iqr1 11 iq172 iqE)))))))) iqN)) = true := by decide +kernel
theorem dgX0_add_0 : kRun kT cX0_add.data.toList 0 (List.flatten (iqC (iqr1 0 iq42 (iqr3 1 (iq180 22) (iqr2 4 (iq16 11) (iqr3 6 (iq161 5) (iqr1 9 iq2 (iqr1 10 iq172 (iqr1 11 iq42 (iqr3 12 (iq180 9) (iqr1 15 iq42 (iqr3 16 (iq180 22) iqE)))))))))) (iqC (iqr1 19 iq31 (iqr1 20 iq80 (iqr1 21 iq42 (iqr3 22 (iq180 15) (iqr1 25 iq42 (iqr3 26 (iq180 22) (iqr1 29 iq33 (iqr1 30 iq80 (iqr1 31 iq42 (iqr3 32 (iq180 18) iqE)))))))))) (iqC (iqr1 35 iq42 (iqr3 36 (iq180 22) (iqr2 39 (iq21 5) (iqr1 41 iq84 (iqr1 42 iq42 (iqr1 43 iq89 (iqr3 44 (iq180 22) (iqr1 47 iq4 (iqr1 48 iq96 (iqr3 49 (iq181 22) iqE)))))))))) (iqC (iqr1 52 iq42 (iqr3 53 (iq180 22) (iqr1 56 iq4 (iqr1 57 iq100 (iqr1 58 iq172 iqE))))) iqN))))) = true := by decide +kernel
theorem dgX0_remove_0 : kRun kT cX0_remove.data.toList 0 (List.flatten (iqC (iqr1 0 iq42 (iqr1 1 iq27 (iqr3 2 (iq182 26) (iqr3 5 (iq153 71) (iqr1 8 iq42 (iqr1 9 iq89 (iqr3 10 (iq180 22) (iqr1 13 iq4 (iqr1 14 iq100 (iqr3 15 (iq181 22) iqE)))))))))) (iqC (iqr1 18 iq27 (iqr1 19 iq61 (iqr1 20 iq28 (iqr1 21 iq42 (iqr3 22 (iq180 22) (iqr3 25 (iq162 51) (iqr1 28 iq42 (iqr3 29 (iq180 9) (iqr1 32 iq28 (iqr1 33 iq42 iqE)))))))))) (iqC (iqr3 34 (iq180 9) (iqr1 37 iq28 (iqr1 38 iq4 (iqr1 39 iq96 (iqr1 40 iq47 (iqr1 41 iq80 (iqr1 42 iq42 (iqr3 43 (iq180 15) (iqr1 46 iq28 (iqr1 47 iq42 iqE)))))))))) (iqC (iqr3 48 (iq180 15) (iqr1 51 iq28 (iqr1 52 iq4 (iqr1 53 iq96 (iqr1 54 iq47 (iqr1 55 iq80 (iqr1 56 iq42 (iqr3 57 (iq180 18) (iqr1 60 iq28 (iqr1 61 iq42 iqE)))))))))) (iqC (iqr3 62 (iq180 18) (iqr1 65 iq28 (iqr1 66 iq4 (iqr1 67 iq96 (iqr1 68 iq51 (iqr1 69 iq84 (iqr3 70 (iq132 2 1) (iqr3 73 (iq167 (-53)) (iqr1 76 iq42 (iqr3 77 (iq180 22) iqE)))))))))) (iqC (iqr1 80 iq172 iqE) iqN))))))) = true := by decide +kernel
theorem dgX0_put_0 : kRun kT cX0_put.data.toList 0 (List.flatten (iqC (iqr1 0 iq42 (iqr1 1 iq27 (iqr3 2 (iq182 26) (iqr3 5 (iq153 18) (iqr1 8 iq42 (iqr3 9 (iq180 9) (iqr1 12 iq27 (iqr1 13 iq32 (iqr1 14 iq80 (iqr1 15 iq42 iqE)))))))))) (iqC (iqr3 16 (iq180 15) (iqr1 19 iq27 (iqr2 20 (iq22 4) (iqr1 22 iq80 (iqr1 23 iq177 iqE))))) iqN))) = true := by decide +kernel
theorem dgX1_isLet_0 : kRun kT cX1_isLet.data.toList 0 (List.flatten (iqC (iqr1 0 iq30 (iqr3 1 (iq20 280) (iqr1 4 iq148 (iqr3 5 (iq155 15) (iqr1 8 iq30 (iqr3 9 (iq20 282) (iqr1 12 iq148 (iqr3 13 (iq157 7) (iqr1 16 iq4 (iqr3 17 (iq167 4) iqE)))))))))) (iqC (iqr1 20 iq3 (iqr1 21 iq172 iqE)) iqN))) = true := by decide +kernel
theorem dgX0_isLetAfter_0 : kRun kT cX0_isLetAfter.data.toList 0 (List.flatten (iqC (iqr1 0 iq3 (iqr1 1 iq62 (iqr1 2 iq29 (iqr1 3 iq42 (iqr3 4 (iq180 22) (iqr3 7 (iq162 39) (iqr1 10 iq42 (iqr3 11 (iq180 9) (iqr1 14 iq29 (iqr1 15 iq47 iqE)))))))))) (iqC (iqr1 16 iq31 (iqr1 17 iq97 (iqr3 18 (iq184 30) (iqr3 21 (iq153 17) (iqr1 24 iq42 (iqr3 25 (iq180 15) (iqr1 28 iq29 (iqr1 29 iq47 (iqr1 30 iq31 (iqr1 31 iq97 iqE)))))))))) (iqC (iqr3 32 (iq184 30) (iqr3 35 (iq154 5) (iqr1 38 iq3 (iqr1 39 iq172 (iqr3 40 (iq132 3 1) (iqr3 43 (iq167 (-41)) (iqr1 46 iq4 (iqr1 47 iq172 iqE)))))))) iqN)))) = true := by decide +kernel
theorem dgX0_goOn_0 : kRun kT cX0_goOn.data.toList 0 (List.flatten (iqC (iqr1 0 iq3 (iqr1 1 iq62 (iqr1 2 iq29 (iqr1 3 iq42 (iqr3 4 (iq180 22) (iqr3 7 (iq162 29) (iqr1 10 iq42 (iqr3 11 (iq180 9) (iqr1 14 iq29 (iqr1 15 iq92 iqE)))))))))) (iqC (iqr1 16 iq47 (iqr1 17 iq31 (iqr1 18 iq97 (iqr1 19 iq80 (iqr1 20 iq42 (iqr3 21 (iq180 15) (iqr1 24 iq29 (iqr1 25 iq92 (iqr1 26 iq47 (iqr1 27 iq31 iqE)))))))))) (iqC (iqr1 28 iq97 (iqr1 29 iq80 (iqr3 30 (iq132 3 1) (iqr3 33 (iq167 (-31)) (iqr1 36 iq177 iqE))))) iqN)))) = true := by decide +kernel
theorem dgX0_doMeet_0 : kRun kT cX0_doMeet.data.toList 0 (List.flatten (iqC (iqr1 0 iq27 (iqr3 1 (iq155 23) (iqr1 4 iq27 (iqr1 5 iq42 (iqr3 6 (iq180 22) (iqr3 9 (iq162 15) (iqr1 12 iq28 (iqr3 13 (iq155 11) (iqr1 16 iq28 (iqr1 17 iq42 iqE)))))))))) (iqC (iqr3 18 (iq180 22) (iqr3 21 (iq161 5) (iqr1 24 iq3 (iqr1 25 iq172 (iqr1 26 iq42 (iqr3 27 (iq180 9) (iqr1 30 iq27 (iqr1 31 iq47 (iqr1 32 iq42 (iqr3 33 (iq180 15) iqE)))))))))) (iqC (iqr1 36 iq28 (iqr1 37 iq47 (iqr1 38 iq148 (iqr3 39 (iq156 23) (iqr1 42 iq42 (iqr3 43 (iq180 9) (iqr1 46 iq28 (iqr1 47 iq47 (iqr1 48 iq42 (iqr3 49 (iq180 15) iqE)))))))))) (iqC (iqr1 52 iq27 (iqr1 53 iq47 (iqr1 54 iq148 (iqr3 55 (iq156 7) (iqr1 58 iq4 (iqr3 59 (iq167 4) (iqr1 62 iq3 (iqr1 63 iq172 iqE)))))))) iqN))))) = true := by decide +kernel
theorem dgX0_firstMeeting_0 : kRun kT cX0_firstMeeting.data.toList 0 (List.flatten (iqC (iqr1 0 iq3 (iqr2 1 (iq54 6) (iqr2 3 (iq21 6) (iqr1 5 iq42 (iqr3 6 (iq180 22) (iqr3 9 (iq162 43) (iqr2 12 (iq21 6) (iqr2 14 (iq21 5) (iqr3 16 (iq159 30) (iqr1 19 iq42 iqE)))))))))) (iqC (iqr3 20 (iq180 9) (iqr2 23 (iq21 6) (iqr1 25 iq47 (iqr1 26 iq33 (iqr1 27 iq148 (iqr3 28 (iq156 18) (iqr1 31 iq31 (iqr1 32 iq42 (iqr3 33 (iq180 15) (iqr2 36 (iq21 6) iqE)))))))))) (iqC (iqr1 38 iq47 (iqr1 39 iq148 (iqr3 40 (iq156 6) (iqr2 43 (iq21 6) (iqr1 45 iq172 (iqr3 46 (iq132 6 1) (iqr3 49 (iq167 (-46)) (iqr1 52 iq2 (iqr1 53 iq172 iqE))))))))) iqN)))) = true := by decide +kernel
theorem dgX0_firstWith_0 : kRun kT cX0_firstWith.data.toList 0 (List.flatten (iqC (iqr1 0 iq42 (iqr1 1 iq31 (iqr1 2 iq31 (iqr1 3 iq10 (iqr1 4 iq97 (iqr1 5 iq2 (iqr3 6 (iq182 34) (iqr1 9 iq172 iqE)))))))) iqN)) = true := by decide +kernel
theorem dgX0_nextBegin_0 : kRun kT cX0_nextBegin.data.toList 0 (List.flatten (iqC (iqr1 0 iq33 (iqr2 1 (iq55 5) (iqr1 3 iq3 (iqr2 4 (iq54 7) (iqr2 6 (iq21 7) (iqr1 8 iq42 (iqr3 9 (iq180 22) (iqr3 12 (iq162 43) (iqr1 15 iq42 (iqr3 16 (iq180 9) iqE)))))))))) (iqC (iqr2 19 (iq21 7) (iqr1 21 iq47 (iqr1 22 iq31 (iqr1 23 iq148 (iqr3 24 (iq155 25) (iqr1 27 iq42 (iqr3 28 (iq180 9) (iqr2 31 (iq21 7) (iqr1 33 iq47 (iqr2 34 (iq22 5) iqE)))))))))) (iqC (iqr1 36 iq148 (iqr3 37 (iq156 12) (iqr1 40 iq42 (iqr3 41 (iq180 9) (iqr2 44 (iq21 7) (iqr1 46 iq47 (iqr2 47 (iq55 5) (iqr3 49 (iq132 7 1) (iqr3 52 (iq167 (-46)) (iqr2 55 (iq22 5) iqE)))))))))) (iqC (iqr1 57 iq173 iqE) iqN))))) = true := by decide +kernel
theorem dgX0_beginsBefore_0 : kRun kT cX0_beginsBefore.data.toList 0 (List.flatten (iqC (iqr1 0 iq3 (iqr1 1 iq62 (iqr1 2 iq3 (iqr2 3 (iq54 4) (iqr2 5 (iq21 4) (iqr1 7 iq42 (iqr3 8 (iq180 22) (iqr3 11 (iq162 24) (iqr1 14 iq42 (iqr3 15 (iq180 9) iqE)))))))))) (iqC (iqr2 18 (iq21 4) (iqr1 20 iq47 (iqr1 21 iq31 (iqr1 22 iq148 (iqr3 23 (iq156 6) (iqr3 26 (iq132 3 1) (iqr3 29 (iq132 4 1) (iqr3 32 (iq167 (-27)) (iqr1 35 iq29 (iqr1 36 iq172 iqE)))))))))) iqN))) = true := by decide +kernel
theorem dgX0_endsBefore_0 : kRun kT cX0_endsBefore.data.toList 0 (List.flatten (iqC (iqr1 0 iq3 (iqr1 1 iq62 (iqr1 2 iq3 (iqr2 3 (iq54 4) (iqr2 5 (iq21 4) (iqr1 7 iq42 (iqr3 8 (iq180 22) (iqr3 11 (iq162 24) (iqr1 14 iq42 (iqr3 15 (iq180 15) iqE)))))))))) (iqC (iqr2 18 (iq21 4) (iqr1 20 iq47 (iqr1 21 iq31 (iqr1 22 iq148 (iqr3 23 (iq156 6) (iqr3 26 (iq132 3 1) (iqr3 29 (iq132 4 1) (iqr3 32 (iq167 (-27)) (iqr1 35 iq29 (iqr1 36 iq172 iqE)))))))))) iqN))) = true := by decide +kernel
theorem dgX0_depth_0 : kRun kT cX0_depth.data.toList 0 (List.flatten (iqC (iqr1 0 iq3 (iqr1 1 iq60 (iqr1 2 iq3 (iqr1 3 iq61 (iqr1 4 iq28 (iqr1 5 iq42 (iqr3 6 (iq180 22) (iqr3 9 (iq162 72) (iqr1 12 iq3 (iqr1 13 iq62 iqE)))))))))) (iqC (iqr1 14 iq3 (iqr2 15 (iq54 4) (iqr2 17 (iq21 4) (iqr1 19 iq42 (iqr3 20 (iq180 22) (iqr3 23 (iq162 46) (iqr1 26 iq42 (iqr3 27 (iq180 9) (iqr2 30 (iq21 4) (iqr1 32 iq47 iqE)))))))))) (iqC (iqr1 33 iq42 (iqr3 34 (iq180 9) (iqr1 37 iq28 (iqr1 38 iq47 (iqr1 39 iq148 (iqr3 40 (iq157 23) (iqr1 43 iq42 (iqr3 44 (iq180 9) (iqr1 47 iq28 (iqr1 48 iq47 iqE)))))))))) (iqC (iqr1 49 iq42 (iqr3 50 (iq180 15) (iqr2 53 (iq21 4) (iqr1 55 iq47 (iqr1 56 iq148 (iqr3 57 (iq156 6) (iqr3 60 (iq132 3 1) (iqr3 63 (iq132 4 1) (iqr3 66 (iq167 (-49)) (iqr1 69 iq27 iqE)))))))))) (iqC (iqr1 70 iq29 (iqr3 71 (iq184 38) (iqr1 74 iq60 (iqr3 75 (iq132 2 1) (iqr3 78 (iq167 (-74)) (iqr1 81 iq27 (iqr1 82 iq172 iqE))))))) iqN)))))) = true := by decide +kernel
theorem dgX1_isWithin_0 : kRun kT cX1_isWithin.data.toList 0 (List.flatten (iqC (iqr1 0 iq26 (iqr1 1 iq27 (iqr3 2 (iq161 12) (iqr1 5 iq26 (iqr1 6 iq28 (iqr3 7 (iq163 7) (iqr1 10 iq4 (iqr3 11 (iq167 4) (iqr1 14 iq3 (iqr1 15 iq172 iqE)))))))))) iqN)) = true := by decide +kernel
theorem dgX1_done_0 : kRun kT cX1_done.data.toList 0 (List.flatten (iqC (iqr1 0 iq42 (iqr1 1 iq89 (iqr3 2 (iq180 224) (iqr1 5 iq4 (iqr1 6 iq96 (iqr3 7 (iq181 224) (iqr1 10 iq27 (iqr1 11 iq172 iqE)))))))) iqN)) = true := by decide +kernel
theorem dgX1_refuse_0 : kRun kT cX1_refuse.data.toList 0 (List.flatten (iqC (iqr1 0 iq42 (iqr1 1 iq89 (iqr3 2 (iq180 228) (iqr1 5 iq4 (iqr1 6 iq96 (iqr3 7 (iq181 228) (iqr2 10 (iq16 (-9)) (iqr1 12 iq172 iqE)))))))) iqN)) = true := by decide +kernel
theorem dgX1_secondOf_0 : kRun kT cX1_secondOf.data.toList 0 (List.flatten (iqC (iqr1 0 iq30 (iqr3 1 (iq20 55) (iqr3 4 (iq184 284) (iqr1 7 iq136 (iqr1 8 iq172 iqE))))) iqN)) = true := by decide +kernel
theorem dgX1_nanoOf_0 : kRun kT cX1_nanoOf.data.toList 0 (List.flatten (iqC (iqr1 0 iq30 (iqr3 1 (iq20 55) (iqr3 4 (iq184 287) (iqr1 7 iq136 (iqr1 8 iq172 iqE))))) iqN)) = true := by decide +kernel
theorem dgX1_partOf_0 : kRun kT cX1_partOf.data.toList 0 (List.flatten (iqC (iqr1 0 iq28 (iqr1 1 iq4 (iqr1 2 iq126 (iqr3 3 (iq154 10) (iqr1 6 iq30 (iqr3 7 (iq184 65) (iqr3 10 (iq167 7) (iqr1 13 iq30 (iqr3 14 (iq184 142) (iqr1 17 iq172 iqE)))))))))) iqN)) = true := by decide +kernel
theorem dgX1_partIn_0 : kRun kT cX1_partIn.data.toList 0 (List.flatten (iqC (iqr1 0 iq28 (iqr1 1 iq5 (iqr3 2 (iq162 11) (iqr1 5 iq42 (iqr1 6 iq27 (iqr3 7 (iq182 113) (iqr3 10 (iq167 8) (iqr1 13 iq42 (iqr1 14 iq27 (iqr3 15 (iq182 117) iqE)))))))))) (iqC (iqr1 18 iq28 (iqr3 19 (iq184 159) (iqr1 22 iq172 iqE))) iqN))) = true := by decide +kernel
theorem dgX1_lengthOf_0 : kRun kT cX1_lengthOf.data.toList 0 (List.flatten (iqC (iqr1 0 iq26 (iqr3 1 (iq154 10) (iqr1 4 iq27 (iqr1 5 iq133 (iqr3 6 (iq20 55) (iqr1 9 iq105 (iqr1 10 iq173 (iqr1 11 iq27 (iqr1 12 iq133 (iqr1 13 iq26 iqE)))))))))) (iqC (iqr1 14 iq4 (iqr3 15 (iq160 9) (iqr3 18 (iq20 290) (iqr3 21 (iq167 4) (iqr1 24 iq10 (iqr1 25 iq105 (iqr1 26 iq173 iqE))))))) iqN))) = true := by decide +kernel
theorem dgX1_sideOf_0 : kRun kT cX1_sideOf.data.toList 0 (List.flatten (iqC (iqr1 0 iq30 (iqr1 1 iq32 (iqr1 2 iq148 (iqr3 3 (iq154 5) (iqr1 6 iq3 (iqr1 7 iq172 (iqr1 8 iq30 (iqr1 9 iq32 (iqr1 10 iq148 (iqr3 11 (iq156 7) iqE)))))))))) (iqC (iqr1 14 iq2 (iqr3 15 (iq167 4) (iqr1 18 iq4 (iqr1 19 iq172 iqE)))) iqN))) = true := by decide +kernel
theorem dgX1_bring_0 : kRun kT cX1_bring.data.toList 0 (List.flatten (iqC (iqr1 0 iq42 (iqr3 1 (iq180 9) (iqr1 4 iq29 (iqr1 5 iq47 (iqr1 6 iq31 (iqr1 7 iq148 (iqr3 8 (iq154 7) (iqr1 11 iq3 (iqr3 12 (iq167 4) (iqr1 15 iq4 iqE)))))))))) (iqC (iqr2 16 (iq54 4) (iqr1 18 iq42 (iqr3 19 (iq180 9) (iqr1 22 iq29 (iqr1 23 iq31 (iqr1 24 iq80 (iqr2 25 (iq21 4) (iqr1 27 iq172 iqE)))))))) iqN))) = true := by decide +kernel
theorem dgX1_isAllLetAfter_0 : kRun kT cX1_isAllLetAfter.data.toList 0 (List.flatten (iqC (iqr1 0 iq3 (iqr1 1 iq62 (iqr1 2 iq29 (iqr1 3 iq7 (iqr3 4 (iq162 25) (iqr1 7 iq42 (iqr3 8 (iq180 9) (iqr1 11 iq29 (iqr1 12 iq47 (iqr1 13 iq31 iqE)))))))))) (iqC (iqr1 14 iq97 (iqr3 15 (iq184 57) (iqr3 18 (iq154 5) (iqr1 21 iq3 (iqr1 22 iq172 (iqr3 23 (iq132 3 1) (iqr3 26 (iq167 (-24)) (iqr1 29 iq42 (iqr3 30 (iq180 13) (iqr1 33 iq31 iqE)))))))))) (iqC (iqr1 34 iq97 (iqr3 35 (iq184 57) (iqr3 38 (iq153 41) (iqr1 41 iq42 (iqr3 42 (iq180 19) (iqr1 45 iq31 (iqr1 46 iq97 (iqr3 47 (iq184 57) (iqr3 50 (iq153 29) (iqr1 53 iq42 iqE)))))))))) (iqC (iqr3 54 (iq180 25) (iqr1 57 iq31 (iqr3 58 (iq182 292) (iqr3 61 (iq153 18) (iqr1 64 iq42 (iqr3 65 (iq180 29) (iqr1 68 iq31 (iqr3 69 (iq182 292) (iqr3 72 (iq153 7) (iqr1 75 iq4 iqE)))))))))) (iqC (iqr3 76 (iq167 4) (iqr1 79 iq3 (iqr1 80 iq172 iqE))) iqN)))))) = true := by decide +kernel
theorem dgX1_isInCalendar_0 : kRun kT cX1_isInCalendar.data.toList 0 (List.flatten (iqC (iqr1 0 iq31 (iqr1 1 iq42 (iqr3 2 (iq180 13) (iqr1 5 iq148 (iqr3 6 (iq155 16) (iqr1 9 iq33 (iqr1 10 iq42 (iqr3 11 (iq180 19) (iqr1 14 iq148 (iqr3 15 (iq157 7) iqE)))))))))) (iqC (iqr1 18 iq4 (iqr3 19 (iq167 4) (iqr1 22 iq3 (iqr1 23 iq172 iqE)))) iqN))) = true := by decide +kernel
theorem dgX1_addSpan_0 : kRun kT cX1_addSpan.data.toList 0 (List.flatten (iqC (iqr1 0 iq31 (iqr1 1 iq33 (iqr1 2 iq148 (iqr3 3 (iq156 24) (iqr1 6 iq42 (iqr1 7 iq31 (iqr1 8 iq33 (iqr3 9 (iq182 180) (iqr3 12 (iq153 15) (iqr1 15 iq42 iqE)))))))))) (iqC (iqr3 16 (iq180 25) (iqr3 19 (iq182 96) (iqr2 22 (iq16 10) (iqr3 24 (iq161 5) (iqr1 27 iq2 (iqr1 28 iq172 (iqr2 29 (iq21 5) (iqr3 31 (iq154 19) (iqr1 34 iq42 (iqr3 35 (iq180 25) iqE)))))))))) (iqC (iqr1 38 iq31 (iqr1 39 iq33 (iqr1 40 iq2 (iqr3 41 (iq182 184) (iqr1 44 iq2 (iqr3 45 (iq159 5) (iqr1 48 iq2 (iqr1 49 iq172 (iqr1 50 iq42 (iqr3 51 (iq180 25) iqE)))))))))) (iqC (iqr1 54 iq31 (iqr1 55 iq33 (iqr2 56 (iq21 5) (iqr3 58 (iq182 139) (iqr1 61 iq172 iqE))))) iqN))))) = true := by decide +kernel
theorem dgX1_changeSpan_0 : kRun kT cX1_changeSpan.data.toList 0 (List.flatten (iqC (iqr1 0 iq32 (iqr2 1 (iq22 4) (iqr1 3 iq148 (iqr3 4 (iq156 28) (iqr1 7 iq42 (iqr1 8 iq32 (iqr2 9 (iq22 4) (iqr3 11 (iq182 180) (iqr3 14 (iq153 18) (iqr1 17 iq42 iqE)))))))))) (iqC (iqr3 18 (iq180 25) (iqr1 21 iq32 (iqr2 22 (iq22 4) (iqr1 24 iq27 (iqr3 25 (iq182 184) (iqr1 28 iq2 (iqr3 29 (iq159 5) (iqr1 32 iq3 (iqr1 33 iq172 (iqr1 34 iq42 iqE)))))))))) (iqC (iqr3 35 (iq180 25) (iqr1 38 iq27 (iqr1 39 iq32 (iqr2 40 (iq22 4) (iqr3 42 (iq182 295) (iqr1 45 iq4 (iqr1 46 iq172 iqE))))))) iqN)))) = true := by decide +kernel
theorem dgX1_firstWithoutSpan_0 : kRun kT cX1_firstWithoutSpan.data.toList 0 (List.flatten (iqC (iqr1 0 iq31 (iqr2 1 (iq55 5) (iqr1 3 iq3 (iqr2 4 (iq54 7) (iqr2 6 (iq21 7) (iqr1 8 iq42 (iqr3 9 (iq180 25) (iqr3 12 (iq182 96) (iqr3 15 (iq162 45) (iqr1 18 iq42 iqE)))))))))) (iqC (iqr3 19 (iq180 25) (iqr2 22 (iq22 5) (iqr2 24 (iq22 5) (iqr1 26 iq33 (iqr1 27 iq97 (iqr1 28 iq2 (iqr3 29 (iq182 184) (iqr2 32 (iq54 8) (iqr2 34 (iq21 8) (iqr1 36 iq2 iqE)))))))))) (iqC (iqr3 37 (iq160 6) (iqr2 40 (iq22 5) (iqr1 42 iq173 (iqr1 43 iq42 (iqr3 44 (iq180 25) (iqr2 47 (iq21 8) (iqr3 49 (iq182 117) (iqr2 52 (iq55 5) (iqr3 54 (iq132 7 1) (iqr3 57 (iq167 (-51)) iqE)))))))))) (iqC (iqr2 60 (iq22 5) (iqr1 62 iq173 iqE)) iqN))))) = true := by decide +kernel
theorem dgX1_firstTaken_0 : kRun kT cX1_firstTaken.data.toList 0 (List.flatten (iqC (iqr1 0 iq42 (iqr3 1 (iq180 25) (iqr1 4 iq31 (iqr3 5 (iq182 174) (iqr1 8 iq2 (iqr3 9 (iq160 18) (iqr1 12 iq42 (iqr3 13 (iq180 25) (iqr1 16 iq31 (iqr1 17 iq42 iqE)))))))))) (iqC (iqr3 18 (iq180 19) (iqr3 21 (iq182 299) (iqr3 24 (iq167 4) (iqr1 27 iq31 (iqr1 28 iq173 iqE))))) iqN))) = true := by decide +kernel
theorem dgX1_findFrees_0 : kRun kT cX1_findFrees.data.toList 0 (List.flatten (iqC (iqr1 0 iq42 (iqr3 1 (iq180 32) (iqr3 4 (iq182 99) (iqr1 7 iq87 (iqr1 8 iq42 (iqr3 9 (iq180 13) (iqr1 12 iq64 (iqr1 13 iq3 (iqr1 14 iq62 (iqr1 15 iq29 iqE)))))))))) (iqC (iqr1 16 iq42 (iqr3 17 (iq180 25) (iqr3 20 (iq182 96) (iqr3 23 (iq163 52) (iqr1 26 iq31 (iqr1 27 iq42 (iqr3 28 (iq180 19) (iqr1 31 iq148 (iqr3 32 (iq156 43) (iqr1 35 iq42 iqE)))))))))) (iqC (iqr1 36 iq31 (iqr1 37 iq10 (iqr3 38 (iq182 136) (iqr2 41 (iq55 4) (iqr1 43 iq42 (iqr2 44 (iq22 4) (iqr3 46 (iq182 302) (iqr1 49 iq64 (iqr2 50 (iq22 4) (iqr1 52 iq31 iqE)))))))))) (iqC (iqr1 53 iq148 (iqr3 54 (iq156 15) (iqr1 57 iq42 (iqr3 58 (iq180 32) (iqr2 61 (iq22 4) (iqr1 63 iq31 (iqr1 64 iq3 (iqr3 65 (iq182 139) (iqr1 68 iq87 (iqr3 69 (iq132 3 1) iqE)))))))))) (iqC (iqr3 72 (iq167 (-57)) (iqr1 75 iq177 iqE)) iqN)))))) = true := by decide +kernel
theorem dgX1_freeLength_0 : kRun kT cX1_freeLength.data.toList 0 (List.flatten (iqC (iqr1 0 iq9 (iqr1 1 iq64 (iqr1 2 iq3 (iqr1 3 iq62 (iqr1 4 iq29 (iqr1 5 iq42 (iqr3 6 (iq180 32) (iqr3 9 (iq182 96) (iqr3 12 (iq162 29) (iqr1 15 iq31 iqE)))))))))) (iqC (iqr1 16 iq42 (iqr3 17 (iq180 32) (iqr1 20 iq29 (iqr3 21 (iq182 117) (iqr1 24 iq42 (iqr3 25 (iq180 32) (iqr1 28 iq29 (iqr3 29 (iq182 113) (iqr1 32 iq101 (iqr1 33 iq97 iqE)))))))))) (iqC (iqr1 34 iq64 (iqr3 35 (iq132 3 1) (iqr3 38 (iq167 (-34)) (iqr1 41 iq31 (iqr1 42 iq173 iqE))))) iqN)))) = true := by decide +kernel
theorem dgX1_takenLength_0 : kRun kT cX1_takenLength.data.toList 0 (List.flatten (iqC (iqr1 0 iq9 (iqr1 1 iq64 (iqr1 2 iq42 (iqr3 3 (iq180 13) (iqr1 6 iq66 (iqr1 7 iq3 (iqr2 8 (iq54 5) (iqr2 10 (iq21 5) (iqr1 12 iq42 (iqr3 13 (iq180 25) iqE)))))))))) (iqC (iqr3 16 (iq182 96) (iqr3 19 (iq163 40) (iqr1 22 iq33 (iqr1 23 iq42 (iqr3 24 (iq180 19) (iqr1 27 iq148 (iqr3 28 (iq156 31) (iqr1 31 iq42 (iqr1 32 iq33 (iqr3 33 (iq182 302) iqE)))))))))) (iqC (iqr2 36 (iq55 6) (iqr1 38 iq42 (iqr2 39 (iq22 6) (iqr1 41 iq10 (iqr3 42 (iq182 136) (iqr1 45 iq66 (iqr1 46 iq31 (iqr1 47 iq33 (iqr2 48 (iq22 6) (iqr1 50 iq101 iqE)))))))))) (iqC (iqr1 51 iq97 (iqr1 52 iq64 (iqr3 53 (iq132 5 1) (iqr3 56 (iq167 (-46)) (iqr1 59 iq31 (iqr1 60 iq173 iqE)))))) iqN))))) = true := by decide +kernel
theorem dgX1_setOfAllWishes_0 : kRun kT cX1_setOfAllWishes.data.toList 0 (List.flatten (iqC (iqr1 0 iq4 (iqr1 1 iq42 (iqr3 2 (iq180 29) (iqr3 5 (iq182 96) (iqr1 8 iq120 (iqr1 9 iq4 (iqr1 10 iq100 (iqr1 11 iq172 iqE)))))))) iqN)) = true := by decide +kernel
theorem dgX1_meetsOneOf_0 : kRun kT cX1_meetsOneOf.data.toList 0 (List.flatten (iqC (iqr1 0 iq3 (iqr1 1 iq62 (iqr1 2 iq29 (iqr1 3 iq42 (iqr3 4 (iq180 29) (iqr3 7 (iq182 96) (iqr3 10 (iq162 32) (iqr1 13 iq28 (iqr1 14 iq29 (iqr1 15 iq122 iqE)))))))))) (iqC (iqr1 16 iq4 (iqr1 17 iq126 (iqr1 18 iq4 (iqr3 19 (iq160 17) (iqr1 22 iq42 (iqr3 23 (iq180 29) (iqr1 26 iq27 (iqr1 27 iq29 (iqr3 28 (iq182 170) (iqr3 31 (iq153 5) iqE)))))))))) (iqC (iqr1 34 iq4 (iqr1 35 iq172 (iqr3 36 (iq132 3 1) (iqr3 39 (iq167 (-37)) (iqr1 42 iq3 (iqr1 43 iq172 iqE)))))) iqN)))) = true := by decide +kernel
theorem dgX1_isWithoutMeeting_0 : kRun kT cX1_isWithoutMeeting.data.toList 0 (List.flatten (iqC (iqr1 0 iq3 (iqr1 1 iq61 (iqr1 2 iq28 (iqr1 3 iq42 (iqr3 4 (iq180 29) (iqr3 7 (iq182 96) (iqr3 10 (iq162 32) (iqr1 13 iq4 (iqr1 14 iq28 (iqr1 15 iq120 iqE)))))))))) (iqC (iqr1 16 iq62 (iqr1 17 iq27 (iqr1 18 iq29 (iqr1 19 iq126 (iqr3 20 (iq153 16) (iqr1 23 iq42 (iqr1 24 iq28 (iqr1 25 iq27 (iqr1 26 iq29 (iqr1 27 iq100 iqE)))))))))) (iqC (iqr3 28 (iq182 305) (iqr3 31 (iq153 5) (iqr1 34 iq3 (iqr1 35 iq172 (iqr3 36 (iq132 2 1) (iqr3 39 (iq167 (-37)) (iqr1 42 iq4 (iqr1 43 iq172 iqE)))))))) iqN)))) = true := by decide +kernel
theorem dgX1_nextChosen_0 : kRun kT cX1_nextChosen.data.toList 0 (List.flatten (iqC (iqr1 0 iq2 (iqr1 1 iq61 (iqr1 2 iq3 (iqr1 3 iq62 (iqr1 4 iq29 (iqr1 5 iq42 (iqr3 6 (iq180 29) (iqr3 9 (iq182 96) (iqr3 12 (iq162 45) (iqr1 15 iq42 iqE)))))))))) (iqC (iqr1 16 iq29 (iqr1 17 iq27 (iqr3 18 (iq182 305) (iqr3 21 (iq154 30) (iqr1 24 iq28 (iqr1 25 iq2 (iqr3 26 (iq159 23) (iqr1 29 iq42 (iqr3 30 (iq180 29) (iqr1 33 iq29 iqE)))))))))) (iqC (iqr3 34 (iq182 117) (iqr1 37 iq42 (iqr3 38 (iq180 29) (iqr1 41 iq28 (iqr3 42 (iq182 117) (iqr1 45 iq148 (iqr3 46 (iq156 5) (iqr1 49 iq29 (iqr1 50 iq61 (iqr3 51 (iq132 3 1) iqE)))))))))) (iqC (iqr3 54 (iq167 (-50)) (iqr1 57 iq28 (iqr1 58 iq172 iqE))) iqN))))) = true := by decide +kernel
theorem dgX1_mostOfAllSets_0 : kRun kT cX1_mostOfAllSets.data.toList 0 (List.flatten (iqC (iqr1 0 iq3 (iqr1 1 iq60 (iqr1 2 iq42 (iqr3 3 (iq182 198) (iqr1 6 iq61 (iqr1 7 iq3 (iqr1 8 iq62 (iqr1 9 iq29 (iqr1 10 iq28 (iqr3 11 (iq163 32) iqE)))))))))) (iqC (iqr1 14 iq29 (iqr3 15 (iq184 210) (iqr2 18 (iq54 4) (iqr2 20 (iq21 4) (iqr1 22 iq27 (iqr3 23 (iq164 14) (iqr1 26 iq42 (iqr1 27 iq29 (iqr3 28 (iq182 201) (iqr3 31 (iq153 6) iqE)))))))))) (iqC (iqr2 34 (iq21 4) (iqr1 36 iq60 (iqr3 37 (iq132 3 1) (iqr3 40 (iq167 (-31)) (iqr1 43 iq27 (iqr1 44 iq172 iqE)))))) iqN)))) = true := by decide +kernel
theorem dgX1_firstWithoutRoom_0 : kRun kT cX1_firstWithoutRoom.data.toList 0 (List.flatten (iqC (iqr1 0 iq2 (iqr1 1 iq60 (iqr1 2 iq3 (iqr1 3 iq61 (iqr1 4 iq28 (iqr1 5 iq42 (iqr3 6 (iq180 29) (iqr3 9 (iq182 96) (iqr3 12 (iq162 46) (iqr1 15 iq42 iqE)))))))))) (iqC (iqr3 16 (iq180 35) (iqr1 19 iq28 (iqr1 20 iq46 (iqr1 21 iq2 (iqr3 22 (iq160 30) (iqr1 25 iq27 (iqr1 26 iq2 (iqr3 27 (iq159 23) (iqr1 30 iq42 (iqr3 31 (iq180 29) iqE)))))))))) (iqC (iqr1 34 iq28 (iqr3 35 (iq182 113) (iqr1 38 iq42 (iqr3 39 (iq180 29) (iqr1 42 iq27 (iqr3 43 (iq182 113) (iqr1 46 iq148 (iqr3 47 (iq156 5) (iqr1 50 iq28 (iqr1 51 iq60 iqE)))))))))) (iqC (iqr3 52 (iq132 2 1) (iqr3 55 (iq167 (-51)) (iqr1 58 iq27 (iqr1 59 iq172 iqE)))) iqN))))) = true := by decide +kernel
theorem dgX1_smallestRoom_0 : kRun kT cX1_smallestRoom.data.toList 0 (List.flatten (iqC (iqr1 0 iq3 (iqr1 1 iq61 (iqr1 2 iq3 (iqr1 3 iq62 (iqr1 4 iq29 (iqr1 5 iq42 (iqr3 6 (iq180 29) (iqr3 9 (iq182 96) (iqr3 12 (iq162 42) (iqr1 15 iq42 iqE)))))))))) (iqC (iqr3 16 (iq180 35) (iqr1 19 iq29 (iqr1 20 iq46 (iqr1 21 iq2 (iqr3 22 (iq159 26) (iqr1 25 iq42 (iqr3 26 (iq180 29) (iqr1 29 iq27 (iqr1 30 iq29 (iqr3 31 (iq182 170) iqE)))))))))) (iqC (iqr3 34 (iq153 14) (iqr1 37 iq28 (iqr1 38 iq4 (iqr1 39 iq42 (iqr3 40 (iq180 35) (iqr1 43 iq29 (iqr1 44 iq46 (iqr1 45 iq120 (iqr1 46 iq128 (iqr1 47 iq61 iqE)))))))))) (iqC (iqr3 48 (iq132 3 1) (iqr3 51 (iq167 (-47)) (iqr1 54 iq3 (iqr1 55 iq62 (iqr1 56 iq29 (iqr2 57 (iq16 8) (iqr3 59 (iq162 18) (iqr1 62 iq28 (iqr1 63 iq29 (iqr1 64 iq122 iqE)))))))))) (iqC (iqr1 65 iq4 (iqr1 66 iq126 (iqr1 67 iq4 (iqr3 68 (iq160 9) (iqr3 71 (iq132 3 1) (iqr3 74 (iq167 (-18)) (iqr1 77 iq29 (iqr1 78 iq172 iqE)))))))) iqN)))))) = true := by decide +kernel
theorem dgX1_findRooms_0 : kRun kT cX1_findRooms.data.toList 0 (List.flatten (iqC (iqr1 0 iq3 (iqr1 1 iq60 (iqr1 2 iq27 (iqr2 3 (iq16 11) (iqr3 5 (iq162 16) (iqr1 8 iq42 (iqr3 9 (iq180 35) (iqr1 12 iq27 (iqr1 13 iq2 (iqr1 14 iq79 iqE)))))))))) (iqC (iqr3 15 (iq132 1 1) (iqr3 18 (iq167 (-16)) (iqr1 21 iq3 (iqr1 22 iq60 (iqr1 23 iq27 (iqr1 24 iq42 (iqr3 25 (iq180 29) (iqr3 28 (iq182 96) (iqr3 31 (iq162 30) (iqr1 34 iq42 iqE)))))))))) (iqC (iqr3 35 (iq182 308) (iqr1 38 iq61 (iqr1 39 iq28 (iqr1 40 iq2 (iqr3 41 (iq159 14) (iqr1 44 iq42 (iqr3 45 (iq180 35) (iqr1 48 iq28 (iqr1 49 iq42 (iqr1 50 iq28 iqE)))))))))) (iqC (iqr3 51 (iq182 311) (iqr1 54 iq79 (iqr3 55 (iq132 1 1) (iqr3 58 (iq167 (-35)) (iqr1 61 iq177 iqE))))) iqN))))) = true := by decide +kernel
theorem dgX1_roomCount_0 : kRun kT cX1_roomCount.data.toList 0 (List.flatten (iqC (iqr1 0 iq3 (iqr1 1 iq60 (iqr1 2 iq3 (iqr1 3 iq61 (iqr1 4 iq28 (iqr1 5 iq42 (iqr3 6 (iq180 29) (iqr3 9 (iq182 96) (iqr3 12 (iq162 22) (iqr1 15 iq27 iqE)))))))))) (iqC (iqr1 16 iq42 (iqr3 17 (iq180 35) (iqr1 20 iq28 (iqr1 21 iq46 (iqr1 22 iq4 (iqr1 23 iq96 (iqr3 24 (iq184 314) (iqr1 27 iq60 (iqr3 28 (iq132 2 1) (iqr3 31 (iq167 (-27)) iqE)))))))))) (iqC (iqr1 34 iq27 (iqr1 35 iq172 iqE)) iqN)))) = true := by decide +kernel
theorem dgX1_needCell_0 : kRun kT cX1_needCell.data.toList 0 (List.flatten (iqC (iqr1 0 iq26 (iqr1 1 iq3 (iqr1 2 iq6 (iqr3 3 (iq184 45) (iqr3 6 (iq154 14) (iqr3 9 (iq187 266) (iqr1 12 iq89 (iqr3 13 (iq19 268) (iqr3 16 (iq183 270) (iqr1 19 iq191 iqE)))))))))) (iqC (iqr1 20 iq177 iqE) iqN))) = true := by decide +kernel
theorem dgX1_needNumberIn_0 : kRun kT cX1_needNumberIn.data.toList 0 (List.flatten (iqC (iqr1 0 iq27 (iqr1 1 iq3 (iqr1 2 iq42 (iqr3 3 (iq182 96) (iqr1 6 iq4 (iqr1 7 iq100 (iqr3 8 (iq184 45) (iqr3 11 (iq154 14) (iqr3 14 (iq187 266) (iqr1 17 iq89 iqE)))))))))) (iqC (iqr3 18 (iq19 273) (iqr3 21 (iq183 270) (iqr1 24 iq191 (iqr1 25 iq177 iqE)))) iqN))) = true := by decide +kernel
theorem dgX1_needThat_0 : kRun kT cX1_needThat.data.toList 0 (List.flatten (iqC (iqr1 0 iq26 (iqr3 1 (iq154 14) (iqr3 4 (iq187 275) (iqr1 7 iq89 (iqr3 8 (iq19 277) (iqr3 11 (iq183 279) (iqr1 14 iq191 (iqr1 15 iq177 iqE)))))))) iqN)) = true := by decide +kernel
theorem dgX1_needUnits_0 : kRun kT cX1_needUnits.data.toList 0 (List.flatten (iqC (iqr1 0 iq26 (iqr1 1 iq3 (iqr1 2 iq5 (iqr3 3 (iq184 45) (iqr3 6 (iq153 17) (iqr1 9 iq27 (iqr1 10 iq28 (iqr2 11 (iq18 50) (iqr3 13 (iq184 45) (iqr3 16 (iq153 7) iqE)))))))))) (iqC (iqr1 19 iq4 (iqr3 20 (iq167 4) (iqr1 23 iq3 (iqr3 24 (iq184 51) (iqr1 27 iq177 iqE))))) iqN))) = true := by decide +kernel
theorem dgX1_set_0 : kRun kT cX1_set.data.toList 0 (List.flatten (iqC (iqr1 0 iq27 (iqr3 1 (iq184 39) (iqr1 4 iq28 (iqr2 5 (iq18 43) (iqr2 7 (iq18 44) (iqr3 9 (iq184 45) (iqr3 12 (iq153 18) (iqr1 15 iq29 (iqr2 16 (iq18 49) (iqr2 18 (iq18 50) iqE)))))))))) (iqC (iqr3 20 (iq184 45) (iqr3 23 (iq153 7) (iqr1 26 iq4 (iqr3 27 (iq167 4) (iqr1 30 iq3 (iqr3 31 (iq184 51) (iqr1 34 iq28 (iqr1 35 iq133 (iqr3 36 (iq20 55) (iqr1 39 iq105 iqE)))))))))) (iqC (iqr1 40 iq29 (iqr1 41 iq133 (iqr1 42 iq97 (iqr2 43 (iq55 4) (iqr2 45 (iq22 4) (iqr3 47 (iq184 57) (iqr3 50 (iq154 8) (iqr1 53 iq42 (iqr3 54 (iq182 61) (iqr1 57 iq172 iqE)))))))))) (iqC (iqr1 58 iq42 (iqr3 59 (iq180 9) (iqr1 62 iq27 (iqr2 63 (iq22 4) (iqr1 65 iq80 (iqr1 66 iq42 (iqr2 67 (iq22 4) (iqr3 69 (iq184 65) (iqr1 72 iq28 (iqr1 73 iq100 iqE)))))))))) (iqC (iqr3 74 (iq182 69) (iqr1 77 iq172 iqE)) iqN)))))) = true := by decide +kernel
theorem dgX1_go_0 : kRun kT cX1_go.data.toList 0 (List.flatten (iqC (iqr1 0 iq27 (iqr3 1 (iq184 39) (iqr1 4 iq28 (iqr1 5 iq29 (iqr2 6 (iq18 49) (iqr3 8 (iq184 73) (iqr1 11 iq28 (iqr1 12 iq29 (iqr3 13 (iq184 77) (iqr2 16 (iq55 5) iqE)))))))))) (iqC (iqr2 18 (iq21 4) (iqr3 20 (iq153 15) (iqr1 23 iq42 (iqr3 24 (iq180 9) (iqr1 27 iq27 (iqr1 28 iq47 (iqr2 29 (iq22 5) (iqr1 31 iq101 (iqr3 32 (iq167 12) (iqr1 35 iq42 iqE)))))))))) (iqC (iqr3 36 (iq180 9) (iqr1 39 iq27 (iqr1 40 iq47 (iqr2 41 (iq22 5) (iqr1 43 iq97 (iqr2 44 (iq55 7) (iqr2 46 (iq22 7) (iqr3 48 (iq184 57) (iqr3 51 (iq154 8) (iqr1 54 iq42 iqE)))))))))) (iqC (iqr3 55 (iq182 61) (iqr1 58 iq172 (iqr2 59 (iq22 7) (iqr1 61 iq42 (iqr3 62 (iq180 9) (iqr1 65 iq27 (iqr1 66 iq47 (iqr3 67 (iq184 81) (iqr2 70 (iq54 9) (iqr1 72 iq42 iqE)))))))))) (iqC (iqr3 73 (iq180 9) (iqr1 76 iq27 (iqr2 77 (iq22 7) (iqr1 79 iq80 (iqr1 80 iq42 (iqr2 81 (iq21 9) (iqr3 83 (iq182 69) (iqr1 86 iq172 iqE)))))))) iqN)))))) = true := by decide +kernel
theorem dgX1_copy_0 : kRun kT cX1_copy.data.toList 0 (List.flatten (iqC (iqr1 0 iq27 (iqr3 1 (iq184 39) (iqr1 4 iq28 (iqr3 5 (iq184 39) (iqr1 8 iq42 (iqr1 9 iq42 (iqr1 10 iq42 (iqr3 11 (iq180 9) (iqr1 14 iq27 (iqr1 15 iq47 iqE)))))))))) (iqC (iqr1 16 iq28 (iqr3 17 (iq182 85) (iqr3 20 (iq182 69) (iqr1 23 iq172 iqE)))) iqN))) = true := by decide +kernel
theorem dgX1_swap_0 : kRun kT cX1_swap.data.toList 0 (List.flatten (iqC (iqr1 0 iq27 (iqr3 1 (iq184 39) (iqr1 4 iq28 (iqr3 5 (iq184 39) (iqr1 8 iq42 (iqr3 9 (iq180 9) (iqr1 12 iq28 (iqr1 13 iq47 (iqr1 14 iq66 (iqr1 15 iq42 iqE)))))))))) (iqC (iqr1 16 iq42 (iqr3 17 (iq180 9) (iqr1 20 iq27 (iqr1 21 iq47 (iqr1 22 iq28 (iqr3 23 (iq182 85) (iqr2 26 (iq54 5) (iqr1 28 iq42 (iqr3 29 (iq180 9) (iqr1 32 iq27 iqE)))))))))) (iqC (iqr1 33 iq33 (iqr1 34 iq80 (iqr1 35 iq42 (iqr2 36 (iq21 5) (iqr3 38 (iq182 69) (iqr1 41 iq172 iqE)))))) iqN)))) = true := by decide +kernel
theorem dgX1_pick_0 : kRun kT cX1_pick.data.toList 0 (List.flatten (iqC (iqr1 0 iq28 (iqr3 1 (iq184 39) (iqr1 4 iq3 (iqr1 5 iq62 (iqr1 6 iq4 (iqr2 7 (iq54 4) (iqr2 9 (iq21 4) (iqr1 11 iq7 (iqr3 12 (iq162 70) (iqr1 15 iq27 iqE)))))))))) (iqC (iqr3 16 (iq153 28) (iqr1 19 iq42 (iqr3 20 (iq180 9) (iqr2 23 (iq21 4) (iqr1 25 iq47 (iqr1 26 iq42 (iqr3 27 (iq180 9) (iqr1 30 iq29 (iqr1 31 iq47 (iqr1 32 iq148 iqE)))))))))) (iqC (iqr3 33 (iq158 7) (iqr1 36 iq4 (iqr3 37 (iq167 29) (iqr1 40 iq3 (iqr3 41 (iq167 25) (iqr1 44 iq42 (iqr3 45 (iq180 9) (iqr2 48 (iq21 4) (iqr1 50 iq47 (iqr1 51 iq42 iqE)))))))))) (iqC (iqr3 52 (iq180 9) (iqr1 55 iq29 (iqr1 56 iq47 (iqr1 57 iq148 (iqr3 58 (iq156 7) (iqr1 61 iq4 (iqr3 62 (iq167 4) (iqr1 65 iq3 (iqr2 66 (iq54 5) (iqr2 68 (iq21 5) iqE)))))))))) (iqC (iqr3 70 (iq153 6) (iqr2 73 (iq21 4) (iqr1 75 iq62 (iqr3 76 (iq132 4 1) (iqr3 79 (iq167 (-70)) (iqr1 82 iq42 (iqr3 83 (iq180 9) (iqr1 86 iq28 (iqr1 87 iq42 (iqr3 88 (iq180 9) iqE)))))))))) (iqC (iqr1 91 iq29 (iqr1 92 iq47 (iqr1 93 iq80 (iqr1 94 iq42 (iqr1 95 iq29 (iqr3 96 (iq182 69) (iqr1 99 iq172 iqE))))))) iqN))))))) = true := by decide +kernel
theorem dgX1_shift_0 : kRun kT cX1_shift.data.toList 0 (List.flatten (iqC (iqr1 0 iq27 (iqr1 1 iq28 (iqr2 2 (iq18 49) (iqr3 4 (iq184 73) (iqr1 7 iq27 (iqr1 8 iq28 (iqr3 9 (iq184 77) (iqr1 12 iq66 (iqr1 13 iq42 (iqr1 14 iq33 iqE)))))))))) (iqC (iqr3 15 (iq182 89) (iqr3 18 (iq154 8) (iqr1 21 iq42 (iqr3 22 (iq182 61) (iqr1 25 iq172 (iqr1 26 iq3 (iqr2 27 (iq54 5) (iqr2 29 (iq21 5) (iqr1 31 iq7 (iqr3 32 (iq162 20) iqE)))))))))) (iqC (iqr1 35 iq42 (iqr3 36 (iq180 9) (iqr2 39 (iq21 5) (iqr1 41 iq92 (iqr1 42 iq47 (iqr1 43 iq33 (iqr1 44 iq97 (iqr1 45 iq80 (iqr3 46 (iq132 5 1) (iqr3 49 (iq167 (-20)) iqE)))))))))) (iqC (iqr1 52 iq42 (iqr1 53 iq89 (iqr3 54 (iq180 13) (iqr1 57 iq33 (iqr1 58 iq97 (iqr3 59 (iq181 13) (iqr1 62 iq42 (iqr1 63 iq89 (iqr3 64 (iq180 19) (iqr1 67 iq33 iqE)))))))))) (iqC (iqr1 68 iq97 (iqr3 69 (iq181 19) (iqr1 72 iq42 (iqr3 73 (iq180 25) (iqr1 76 iq33 (iqr3 77 (iq182 92) (iqr1 80 iq42 (iqr3 81 (iq180 29) (iqr1 84 iq33 (iqr3 85 (iq182 92) iqE)))))))))) (iqC (iqr1 88 iq42 (iqr2 89 (iq16 6) (iqr1 91 iq5 (iqr1 92 iq42 (iqr3 93 (iq180 25) (iqr3 96 (iq182 96) (iqr1 99 iq104 (iqr1 100 iq96 (iqr1 101 iq5 (iqr1 102 iq42 iqE)))))))))) (iqC (iqr3 103 (iq180 29) (iqr3 106 (iq182 96) (iqr1 109 iq104 (iqr1 110 iq96 (iqr3 111 (iq182 69) (iqr1 114 iq172 iqE)))))) iqN)))))))) = true := by decide +kernel
theorem dgX1_open_0 : kRun kT cX1_open.data.toList 0 (List.flatten (iqC (iqr1 0 iq27 (iqr3 1 (iq184 39) (iqr1 4 iq28 (iqr3 5 (iq184 39) (iqr1 8 iq42 (iqr3 9 (iq180 9) (iqr1 12 iq27 (iqr1 13 iq47 (iqr1 14 iq42 (iqr3 15 (iq180 9) iqE)))))))))) (iqC (iqr1 18 iq28 (iqr1 19 iq47 (iqr1 20 iq148 (iqr3 21 (iq155 8) (iqr1 24 iq42 (iqr3 25 (iq182 61) (iqr1 28 iq172 (iqr1 29 iq42 (iqr1 30 iq42 (iqr3 31 (iq180 9) iqE)))))))))) (iqC (iqr1 34 iq27 (iqr1 35 iq47 (iqr3 36 (iq181 13) (iqr1 39 iq42 (iqr1 40 iq42 (iqr3 41 (iq180 9) (iqr1 44 iq28 (iqr1 45 iq47 (iqr3 46 (iq181 19) (iqr1 49 iq42 iqE)))))))))) (iqC (iqr1 50 iq42 (iqr3 51 (iq180 25) (iqr3 54 (iq182 99) (iqr3 57 (iq182 69) (iqr1 60 iq172 iqE))))) iqN))))) = true := by decide +kernel
theorem dgX1_book_0 : kRun kT cX1_book.data.toList 0 (List.flatten (iqC (iqr1 0 iq27 (iqr3 1 (iq184 39) (iqr1 4 iq28 (iqr3 5 (iq184 39) (iqr1 8 iq42 (iqr1 9 iq42 (iqr3 10 (iq180 9) (iqr1 13 iq27 (iqr1 14 iq47 (iqr1 15 iq42 iqE)))))))))) (iqC (iqr3 16 (iq180 9) (iqr1 19 iq28 (iqr1 20 iq47 (iqr1 21 iq29 (iqr3 22 (iq182 102) (iqr2 25 (iq54 4) (iqr2 27 (iq21 4) (iqr1 29 iq2 (iqr3 30 (iq160 10) (iqr1 33 iq42 iqE)))))))))) (iqC (iqr3 34 (iq182 61) (iqr3 37 (iq167 9) (iqr1 40 iq42 (iqr2 41 (iq21 4) (iqr3 43 (iq182 69) (iqr1 46 iq172 iqE)))))) iqN)))) = true := by decide +kernel
theorem dgX1_unbook_0 : kRun kT cX1_unbook.data.toList 0 (List.flatten (iqC (iqr1 0 iq42 (iqr3 1 (iq180 25) (iqr1 4 iq27 (iqr3 5 (iq184 106) (iqr1 8 iq42 (iqr1 9 iq42 (iqr3 10 (iq180 25) (iqr1 13 iq27 (iqr3 14 (iq182 110) (iqr3 17 (iq182 69) iqE)))))))))) (iqC (iqr1 20 iq172 iqE) iqN))) = true := by decide +kernel
theorem dgX1_empty_0 : kRun kT cX1_empty.data.toList 0 (List.flatten (iqC (iqr1 0 iq42 (iqr1 1 iq42 (iqr3 2 (iq180 25) (iqr3 5 (iq182 99) (iqr3 8 (iq182 69) (iqr1 11 iq172 iqE)))))) iqN)) = true := by decide +kernel
theorem dgX1_move_0 : kRun kT cX1_move.data.toList 0 (List.flatten (iqC (iqr1 0 iq42 (iqr3 1 (iq180 25) (iqr1 4 iq27 (iqr3 5 (iq184 106) (iqr1 8 iq28 (iqr1 9 iq29 (iqr2 10 (iq18 49) (iqr3 12 (iq184 73) (iqr1 15 iq28 (iqr1 16 iq29 iqE)))))))))) (iqC (iqr3 17 (iq184 77) (iqr2 20 (iq55 4) (iqr1 22 iq42 (iqr1 23 iq27 (iqr1 24 iq42 (iqr3 25 (iq180 25) (iqr1 28 iq27 (iqr3 29 (iq182 113) (iqr2 32 (iq22 4) (iqr1 34 iq97 iqE)))))))))) (iqC (iqr1 35 iq42 (iqr3 36 (iq180 25) (iqr1 39 iq27 (iqr3 40 (iq182 117) (iqr2 43 (iq22 4) (iqr1 45 iq97 (iqr3 46 (iq182 120) (iqr3 49 (iq154 8) (iqr1 52 iq42 (iqr3 53 (iq182 61) iqE)))))))))) (iqC (iqr1 56 iq172 (iqr1 57 iq42 (iqr1 58 iq42 (iqr3 59 (iq180 25) (iqr1 62 iq42 (iqr3 63 (iq180 25) (iqr1 66 iq27 (iqr3 67 (iq182 113) (iqr3 70 (iq182 124) (iqr3 73 (iq182 69) iqE)))))))))) (iqC (iqr1 76 iq172 iqE) iqN)))))) = true := by decide +kernel
theorem dgX1_stretch_0 : kRun kT cX1_stretch.data.toList 0 (List.flatten (iqC (iqr1 0 iq42 (iqr3 1 (iq180 25) (iqr1 4 iq27 (iqr3 5 (iq184 106) (iqr1 8 iq28 (iqr1 9 iq29 (iqr2 10 (iq18 49) (iqr3 12 (iq184 73) (iqr1 15 iq42 (iqr1 16 iq27 iqE)))))))))) (iqC (iqr1 17 iq42 (iqr3 18 (iq180 25) (iqr1 21 iq27 (iqr3 22 (iq182 113) (iqr1 25 iq42 (iqr3 26 (iq180 25) (iqr1 29 iq27 (iqr3 30 (iq182 117) (iqr1 33 iq28 (iqr1 34 iq29 iqE)))))))))) (iqC (iqr3 35 (iq184 77) (iqr1 38 iq97 (iqr3 39 (iq182 120) (iqr3 42 (iq154 8) (iqr1 45 iq42 (iqr3 46 (iq182 61) (iqr1 49 iq172 (iqr1 50 iq42 (iqr1 51 iq42 (iqr3 52 (iq180 25) iqE)))))))))) (iqC (iqr1 55 iq42 (iqr3 56 (iq180 25) (iqr1 59 iq27 (iqr3 60 (iq182 117) (iqr3 63 (iq182 127) (iqr3 66 (iq182 69) (iqr1 69 iq172 iqE))))))) iqN))))) = true := by decide +kernel
theorem dgX1_fit_0 : kRun kT cX1_fit.data.toList 0 (List.flatten (iqC (iqr1 0 iq27 (iqr3 1 (iq184 39) (iqr2 4 (iq21 4) (iqr3 6 (iq184 39) (iqr1 9 iq28 (iqr1 10 iq29 (iqr1 11 iq4 (iqr3 12 (iq184 73) (iqr1 15 iq28 (iqr1 16 iq29 iqE)))))))))) (iqC (iqr3 17 (iq184 77) (iqr2 20 (iq55 5) (iqr1 22 iq42 (iqr1 23 iq42 (iqr3 24 (iq180 9) (iqr1 27 iq27 (iqr1 28 iq47 (iqr1 29 iq42 (iqr3 30 (iq180 13) (iqr3 33 (iq184 130) iqE)))))))))) (iqC (iqr2 36 (iq22 5) (iqr3 38 (iq182 136) (iqr2 41 (iq55 7) (iqr2 43 (iq22 7) (iqr2 45 (iq22 5) (iqr1 47 iq97 (iqr1 48 iq42 (iqr3 49 (iq180 19) (iqr1 52 iq148 (iqr3 53 (iq158 8) iqE)))))))))) (iqC (iqr1 56 iq42 (iqr3 57 (iq182 61) (iqr1 60 iq172 (iqr1 61 iq42 (iqr1 62 iq42 (iqr2 63 (iq22 7) (iqr2 65 (iq21 4) (iqr3 67 (iq182 85) (iqr3 70 (iq182 69) (iqr1 73 iq172 iqE)))))))))) iqN))))) = true := by decide +kernel
theorem dgX1_wish_0 : kRun kT cX1_wish.data.toList 0 (List.flatten (iqC (iqr1 0 iq27 (iqr3 1 (iq184 39) (iqr1 4 iq28 (iqr3 5 (iq184 39) (iqr1 8 iq42 (iqr3 9 (iq180 9) (iqr1 12 iq27 (iqr1 13 iq47 (iqr1 14 iq42 (iqr3 15 (iq180 9) iqE)))))))))) (iqC (iqr1 18 iq28 (iqr1 19 iq47 (iqr1 20 iq148 (iqr3 21 (iq156 15) (iqr1 24 iq42 (iqr3 25 (iq180 29) (iqr3 28 (iq182 96) (iqr2 31 (iq16 8) (iqr3 33 (iq161 8) (iqr1 36 iq42 iqE)))))))))) (iqC (iqr3 37 (iq182 61) (iqr1 40 iq172 (iqr1 41 iq42 (iqr1 42 iq42 (iqr3 43 (iq180 29) (iqr1 46 iq42 (iqr3 47 (iq180 9) (iqr1 50 iq27 (iqr1 51 iq47 (iqr1 52 iq42 iqE)))))))))) (iqC (iqr3 53 (iq180 9) (iqr1 56 iq28 (iqr1 57 iq47 (iqr1 58 iq3 (iqr3 59 (iq182 139) (iqr3 62 (iq182 69) (iqr1 65 iq172 iqE))))))) iqN))))) = true := by decide +kernel
theorem dgX1_unwish_0 : kRun kT cX1_unwish.data.toList 0 (List.flatten (iqC (iqr1 0 iq42 (iqr3 1 (iq180 29) (iqr1 4 iq27 (iqr3 5 (iq184 106) (iqr1 8 iq42 (iqr1 9 iq42 (iqr3 10 (iq180 29) (iqr1 13 iq27 (iqr3 14 (iq182 110) (iqr3 17 (iq182 69) iqE)))))))))) (iqC (iqr1 20 iq172 iqE) iqN))) = true := by decide +kernel
theorem dgX1_grant_0 : kRun kT cX1_grant.data.toList 0 (List.flatten (iqC (iqr1 0 iq42 (iqr3 1 (iq180 29) (iqr1 4 iq27 (iqr3 5 (iq184 106) (iqr1 8 iq42 (iqr1 9 iq42 (iqr3 10 (iq180 29) (iqr1 13 iq27 (iqr3 14 (iq182 113) (iqr1 17 iq42 iqE)))))))))) (iqC (iqr3 18 (iq180 29) (iqr1 21 iq27 (iqr3 22 (iq182 117) (iqr1 25 iq3 (iqr3 26 (iq182 102) (iqr1 29 iq61 (iqr1 30 iq28 (iqr1 31 iq2 (iqr3 32 (iq160 8) (iqr1 35 iq42 iqE)))))))))) (iqC (iqr3 36 (iq182 61) (iqr1 39 iq172 (iqr1 40 iq42 (iqr3 41 (iq180 29) (iqr1 44 iq27 (iqr3 45 (iq182 110) (iqr1 48 iq87 (iqr1 49 iq42 (iqr1 50 iq28 (iqr3 51 (iq182 69) iqE)))))))))) (iqC (iqr1 54 iq172 iqE) iqN))))) = true := by decide +kernel
theorem dgX1_second_0 : kRun kT cX1_second.data.toList 0 (List.flatten (iqC (iqr1 0 iq27 (iqr3 1 (iq184 39) (iqr1 4 iq42 (iqr3 5 (iq180 9) (iqr1 8 iq27 (iqr1 9 iq47 (iqr3 10 (iq184 65) (iqr1 13 iq172 iqE)))))))) iqN)) = true := by decide +kernel
theorem dgX1_nano_0 : kRun kT cX1_nano.data.toList 0 (List.flatten (iqC (iqr1 0 iq27 (iqr3 1 (iq184 39) (iqr1 4 iq42 (iqr3 5 (iq180 9) (iqr1 8 iq27 (iqr1 9 iq47 (iqr3 10 (iq184 142) (iqr1 13 iq172 iqE)))))))) iqN)) = true := by decide +kernel
theorem dgX1_order_0 : kRun kT cX1_order.data.toList 0 (List.flatten (iqC (iqr1 0 iq27 (iqr3 1 (iq184 39) (iqr1 4 iq28 (iqr3 5 (iq184 39) (iqr1 8 iq42 (iqr3 9 (iq180 9) (iqr1 12 iq27 (iqr1 13 iq47 (iqr1 14 iq42 (iqr3 15 (iq180 9) iqE)))))))))) (iqC (iqr1 18 iq28 (iqr1 19 iq47 (iqr3 20 (iq184 81) (iqr1 23 iq172 iqE)))) iqN))) = true := by decide +kernel
theorem dgX1_isBefore_0 : kRun kT cX1_isBefore.data.toList 0 (List.flatten (iqC (iqr1 0 iq27 (iqr3 1 (iq184 39) (iqr1 4 iq28 (iqr3 5 (iq184 39) (iqr1 8 iq42 (iqr3 9 (iq180 9) (iqr1 12 iq27 (iqr1 13 iq47 (iqr1 14 iq42 (iqr3 15 (iq180 9) iqE)))))))))) (iqC (iqr1 18 iq28 (iqr1 19 iq47 (iqr1 20 iq148 (iqr3 21 (iq156 7) (iqr1 24 iq4 (iqr3 25 (iq167 4) (iqr1 28 iq3 (iqr1 29 iq172 iqE)))))))) iqN))) = true := by decide +kernel
theorem dgX1_isAfter_0 : kRun kT cX1_isAfter.data.toList 0 (List.flatten (iqC (iqr1 0 iq27 (iqr3 1 (iq184 39) (iqr1 4 iq28 (iqr3 5 (iq184 39) (iqr1 8 iq42 (iqr3 9 (iq180 9) (iqr1 12 iq27 (iqr1 13 iq47 (iqr1 14 iq42 (iqr3 15 (iq180 9) iqE)))))))))) (iqC (iqr1 18 iq28 (iqr1 19 iq47 (iqr1 20 iq148 (iqr3 21 (iq158 7) (iqr1 24 iq4 (iqr3 25 (iq167 4) (iqr1 28 iq3 (iqr1 29 iq172 iqE)))))))) iqN))) = true := by decide +kernel
theorem dgX1_same_0 : kRun kT cX1_same.data.toList 0 (List.flatten (iqC (iqr1 0 iq27 (iqr3 1 (iq184 39) (iqr1 4 iq28 (iqr3 5 (iq184 39) (iqr1 8 iq29 (iqr1 9 iq3 (iqr1 10 iq5 (iqr3 11 (iq184 45) (iqr3 14 (iq184 51) (iqr1 17 iq29 iqE)))))))))) (iqC (iqr1 18 iq5 (iqr3 19 (iq159 19) (iqr1 22 iq42 (iqr3 23 (iq180 9) (iqr1 26 iq27 (iqr1 27 iq47 (iqr1 28 iq42 (iqr3 29 (iq180 9) (iqr1 32 iq28 (iqr1 33 iq47 iqE)))))))))) (iqC (iqr1 34 iq148 (iqr3 35 (iq154 7) (iqr1 38 iq4 (iqr3 39 (iq167 4) (iqr1 42 iq3 (iqr1 43 iq172 iqE)))))) iqN)))) = true := by decide +kernel
theorem dgX1_apart_0 : kRun kT cX1_apart.data.toList 0 (List.flatten (iqC (iqr1 0 iq27 (iqr3 1 (iq184 39) (iqr1 4 iq28 (iqr3 5 (iq184 39) (iqr1 8 iq29 (iqr1 9 iq3 (iqr1 10 iq4 (iqr3 11 (iq184 45) (iqr3 14 (iq184 51) (iqr1 17 iq42 iqE)))))))))) (iqC (iqr3 18 (iq180 9) (iqr1 21 iq28 (iqr1 22 iq47 (iqr1 23 iq42 (iqr3 24 (iq180 9) (iqr1 27 iq27 (iqr1 28 iq47 (iqr1 29 iq101 (iqr1 30 iq29 (iqr3 31 (iq184 159) iqE)))))))))) (iqC (iqr1 34 iq172 iqE) iqN)))) = true := by decide +kernel
theorem dgX1_calendar_0 : kRun kT cX1_calendar.data.toList 0 (List.flatten (iqC (iqr1 0 iq27 (iqr1 1 iq3 (iqr1 2 iq6 (iqr3 3 (iq184 45) (iqr3 6 (iq184 51) (iqr1 9 iq27 (iqr1 10 iq5 (iqr3 11 (iq162 10) (iqr1 14 iq42 (iqr3 15 (iq180 13) iqE)))))))))) (iqC (iqr3 18 (iq167 7) (iqr1 21 iq42 (iqr3 22 (iq180 19) (iqr1 25 iq27 (iqr3 26 (iq184 159) (iqr1 29 iq172 iqE)))))) iqN))) = true := by decide +kernel
theorem dgX1_spans_0 : kRun kT cX1_spans.data.toList 0 (List.flatten (iqC (iqr1 0 iq42 (iqr3 1 (iq180 25) (iqr3 4 (iq182 96) (iqr1 7 iq172 iqE)))) iqN)) = true := by decide +kernel
theorem dgX1_ofSpan_0 : kRun kT cX1_ofSpan.data.toList 0 (List.flatten (iqC (iqr1 0 iq42 (iqr3 1 (iq180 25) (iqr1 4 iq27 (iqr3 5 (iq184 106) (iqr1 8 iq28 (iqr1 9 iq3 (iqr1 10 iq7 (iqr3 11 (iq184 45) (iqr3 14 (iq184 51) (iqr1 17 iq28 iqE)))))))))) (iqC (iqr1 18 iq7 (iqr3 19 (iq160 20) (iqr1 22 iq42 (iqr3 23 (iq180 25) (iqr1 26 iq27 (iqr3 27 (iq182 162) (iqr3 30 (iq153 7) (iqr1 33 iq4 (iqr3 34 (iq167 4) (iqr1 37 iq3 iqE)))))))))) (iqC (iqr1 38 iq172 (iqr1 39 iq42 (iqr3 40 (iq180 25) (iqr1 43 iq27 (iqr1 44 iq28 (iqr3 45 (iq184 166) (iqr1 48 iq172 iqE))))))) iqN)))) = true := by decide +kernel
theorem dgX1_meets_0 : kRun kT cX1_meets.data.toList 0 (List.flatten (iqC (iqr1 0 iq42 (iqr3 1 (iq180 25) (iqr1 4 iq27 (iqr3 5 (iq184 106) (iqr1 8 iq42 (iqr3 9 (iq180 25) (iqr1 12 iq28 (iqr3 13 (iq184 106) (iqr1 16 iq42 (iqr3 17 (iq180 25) iqE)))))))))) (iqC (iqr1 20 iq27 (iqr1 21 iq28 (iqr3 22 (iq182 170) (iqr1 25 iq172 iqE)))) iqN))) = true := by decide +kernel
theorem dgX1_clashes_0 : kRun kT cX1_clashes.data.toList 0 (List.flatten (iqC (iqr1 0 iq3 (iqr1 1 iq60 (iqr1 2 iq3 (iqr1 3 iq61 (iqr1 4 iq28 (iqr1 5 iq42 (iqr3 6 (iq180 25) (iqr3 9 (iq182 96) (iqr3 12 (iq162 37) (iqr1 15 iq3 iqE)))))))))) (iqC (iqr1 16 iq62 (iqr1 17 iq29 (iqr1 18 iq28 (iqr3 19 (iq162 24) (iqr1 22 iq42 (iqr3 23 (iq180 25) (iqr1 26 iq28 (iqr1 27 iq29 (iqr3 28 (iq182 170) (iqr3 31 (iq153 6) iqE)))))))))) (iqC (iqr3 34 (iq132 1 1) (iqr3 37 (iq132 3 1) (iqr3 40 (iq167 (-23)) (iqr3 43 (iq132 2 1) (iqr3 46 (iq167 (-42)) (iqr1 49 iq27 (iqr1 50 iq172 iqE))))))) iqN)))) = true := by decide +kernel
theorem dgX1_at_0 : kRun kT cX1_at.data.toList 0 (List.flatten (iqC (iqr1 0 iq27 (iqr3 1 (iq184 39) (iqr1 4 iq42 (iqr3 5 (iq180 25) (iqr1 8 iq42 (iqr3 9 (iq180 9) (iqr1 12 iq27 (iqr1 13 iq47 (iqr3 14 (iq182 174) (iqr1 17 iq172 iqE)))))))))) iqN)) = true := by decide +kernel
theorem dgX1_deepest_0 : kRun kT cX1_deepest.data.toList 0 (List.flatten (iqC (iqr1 0 iq42 (iqr3 1 (iq180 25) (iqr3 4 (iq182 177) (iqr1 7 iq172 iqE)))) iqN)) = true := by decide +kernel
theorem dgX1_isFree_0 : kRun kT cX1_isFree.data.toList 0 (List.flatten (iqC (iqr1 0 iq27 (iqr3 1 (iq184 39) (iqr1 4 iq28 (iqr3 5 (iq184 39) (iqr1 8 iq42 (iqr3 9 (iq180 9) (iqr1 12 iq27 (iqr1 13 iq47 (iqr1 14 iq66 (iqr1 15 iq42 iqE)))))))))) (iqC (iqr3 16 (iq180 9) (iqr1 19 iq28 (iqr1 20 iq47 (iqr2 21 (iq55 5) (iqr1 23 iq33 (iqr2 24 (iq22 5) (iqr1 26 iq148 (iqr3 27 (iq156 32) (iqr1 30 iq42 (iqr1 31 iq33 iqE)))))))))) (iqC (iqr2 32 (iq22 5) (iqr3 34 (iq182 180) (iqr3 37 (iq153 22) (iqr1 40 iq42 (iqr3 41 (iq180 25) (iqr1 44 iq33 (iqr2 45 (iq22 5) (iqr1 47 iq2 (iqr3 48 (iq182 184) (iqr1 51 iq2 iqE)))))))))) (iqC (iqr3 52 (iq160 7) (iqr1 55 iq4 (iqr3 56 (iq167 4) (iqr1 59 iq3 (iqr1 60 iq172 iqE))))) iqN))))) = true := by decide +kernel
theorem dgX1_frees_0 : kRun kT cX1_frees.data.toList 0 (List.flatten (iqC (iqr1 0 iq42 (iqr3 1 (iq182 188) (iqr1 4 iq42 (iqr3 5 (iq180 32) (iqr3 8 (iq182 96) (iqr1 11 iq172 iqE)))))) iqN)) = true := by decide +kernel
theorem dgX1_ofFree_0 : kRun kT cX1_ofFree.data.toList 0 (List.flatten (iqC (iqr1 0 iq42 (iqr3 1 (iq182 188) (iqr1 4 iq42 (iqr3 5 (iq180 32) (iqr1 8 iq27 (iqr3 9 (iq184 106) (iqr1 12 iq28 (iqr1 13 iq3 (iqr1 14 iq6 (iqr3 15 (iq184 45) iqE)))))))))) (iqC (iqr3 18 (iq184 51) (iqr1 21 iq42 (iqr3 22 (iq180 32) (iqr1 25 iq27 (iqr1 26 iq28 (iqr3 27 (iq184 166) (iqr1 30 iq172 iqE))))))) iqN))) = true := by decide +kernel
theorem dgX1_freeAt_0 : kRun kT cX1_freeAt.data.toList 0 (List.flatten (iqC (iqr1 0 iq27 (iqr3 1 (iq184 39) (iqr1 4 iq42 (iqr3 5 (iq182 188) (iqr1 8 iq42 (iqr3 9 (iq180 32) (iqr1 12 iq42 (iqr3 13 (iq180 9) (iqr1 16 iq27 (iqr1 17 iq47 iqE)))))))))) (iqC (iqr3 18 (iq182 174) (iqr1 21 iq172 iqE)) iqN))) = true := by decide +kernel
theorem dgX1_length_0 : kRun kT cX1_length.data.toList 0 (List.flatten (iqC (iqr1 0 iq27 (iqr1 1 iq3 (iqr1 2 iq8 (iqr3 3 (iq184 45) (iqr3 6 (iq184 51) (iqr1 9 iq27 (iqr1 10 iq5 (iqr3 11 (iq162 12) (iqr1 14 iq42 (iqr3 15 (iq182 191) iqE)))))))))) (iqC (iqr1 18 iq27 (iqr3 19 (iq184 159) (iqr1 22 iq172 (iqr1 23 iq42 (iqr3 24 (iq182 188) (iqr1 27 iq27 (iqr1 28 iq7 (iqr3 29 (iq162 10) (iqr1 32 iq42 (iqr3 33 (iq182 195) iqE)))))))))) (iqC (iqr3 36 (iq167 12) (iqr1 39 iq42 (iqr3 40 (iq180 19) (iqr1 43 iq42 (iqr3 44 (iq180 13) (iqr1 47 iq101 (iqr1 48 iq27 (iqr3 49 (iq184 159) (iqr1 52 iq172 iqE))))))))) iqN)))) = true := by decide +kernel
theorem dgX1_wishes_0 : kRun kT cX1_wishes.data.toList 0 (List.flatten (iqC (iqr1 0 iq42 (iqr3 1 (iq180 29) (iqr3 4 (iq182 96) (iqr1 7 iq172 iqE)))) iqN)) = true := by decide +kernel
theorem dgX1_ofWish_0 : kRun kT cX1_ofWish.data.toList 0 (List.flatten (iqC (iqr1 0 iq42 (iqr3 1 (iq180 29) (iqr1 4 iq27 (iqr3 5 (iq184 106) (iqr1 8 iq28 (iqr1 9 iq3 (iqr1 10 iq6 (iqr3 11 (iq184 45) (iqr3 14 (iq184 51) (iqr1 17 iq42 iqE)))))))))) (iqC (iqr3 18 (iq180 29) (iqr1 21 iq27 (iqr1 22 iq28 (iqr3 23 (iq184 166) (iqr1 26 iq172 iqE))))) iqN))) = true := by decide +kernel
theorem dgX1_isApart_0 : kRun kT cX1_isApart.data.toList 0 (List.flatten (iqC (iqr1 0 iq27 (iqr1 1 iq3 (iqr1 2 iq42 (iqr3 3 (iq182 198) (iqr3 6 (iq184 45) (iqr3 9 (iq184 51) (iqr1 12 iq42 (iqr1 13 iq27 (iqr3 14 (iq182 201) (iqr1 17 iq172 iqE)))))))))) iqN)) = true := by decide +kernel
theorem dgX1_chosen_0 : kRun kT cX1_chosen.data.toList 0 (List.flatten (iqC (iqr1 0 iq3 (iqr1 1 iq60 (iqr1 2 iq3 (iqr1 3 iq61 (iqr1 4 iq28 (iqr1 5 iq42 (iqr3 6 (iq180 29) (iqr3 9 (iq182 96) (iqr3 12 (iq162 26) (iqr1 15 iq42 iqE)))))))))) (iqC (iqr1 16 iq27 (iqr3 17 (iq182 204) (iqr1 20 iq62 (iqr1 21 iq29 (iqr1 22 iq2 (iqr3 23 (iq159 9) (iqr1 26 iq27 (iqr1 27 iq4 (iqr1 28 iq29 (iqr1 29 iq120 iqE)))))))))) (iqC (iqr1 30 iq128 (iqr1 31 iq60 (iqr3 32 (iq132 2 1) (iqr3 35 (iq167 (-31)) (iqr1 38 iq27 (iqr1 39 iq172 iqE)))))) iqN)))) = true := by decide +kernel
theorem dgX1_most_0 : kRun kT cX1_most.data.toList 0 (List.flatten (iqC (iqr1 0 iq27 (iqr1 1 iq3 (iqr1 2 iq4 (iqr3 3 (iq184 45) (iqr3 6 (iq184 51) (iqr1 9 iq27 (iqr3 10 (iq154 13) (iqr1 13 iq42 (iqr3 14 (iq182 207) (iqr3 17 (iq184 210) iqE)))))))))) (iqC (iqr3 20 (iq167 7) (iqr1 23 iq42 (iqr3 24 (iq182 215) (iqr1 27 iq172 iqE)))) iqN))) = true := by decide +kernel
theorem dgX1_crowd_0 : kRun kT cX1_crowd.data.toList 0 (List.flatten (iqC (iqr1 0 iq42 (iqr3 1 (iq180 29) (iqr3 4 (iq182 177) (iqr1 7 iq172 iqE)))) iqN)) = true := by decide +kernel
theorem dgX1_room_0 : kRun kT cX1_room.data.toList 0 (List.flatten (iqC (iqr1 0 iq42 (iqr3 1 (iq180 29) (iqr1 4 iq27 (iqr3 5 (iq184 106) (iqr1 8 iq42 (iqr3 9 (iq182 218) (iqr1 12 iq42 (iqr3 13 (iq180 35) (iqr1 16 iq27 (iqr1 17 iq46 iqE)))))))))) (iqC (iqr1 18 iq172 iqE) iqN))) = true := by decide +kernel
theorem dgX1_rooms_0 : kRun kT cX1_rooms.data.toList 0 (List.flatten (iqC (iqr1 0 iq42 (iqr3 1 (iq182 218) (iqr1 4 iq42 (iqr3 5 (iq182 221) (iqr1 8 iq172 iqE))))) iqN)) = true := by decide +kernel
theorem dgX1_house_0 : kRun kT cX1_house.data.toList 0 (List.flatten (iqC (iqr1 0 iq27 (iqr1 1 iq3 (iqr1 2 iq5 (iqr3 3 (iq184 45) (iqr3 6 (iq184 51) (iqr1 9 iq27 (iqr3 10 (iq154 8) (iqr1 13 iq42 (iqr3 14 (iq180 224) (iqr1 17 iq172 iqE)))))))))) (iqC (iqr1 18 iq27 (iqr1 19 iq4 (iqr3 20 (iq160 10) (iqr1 23 iq42 (iqr3 24 (iq180 228) (iqr3 27 (iq167 7) (iqr1 30 iq42 (iqr3 31 (iq180 231) (iqr1 34 iq172 iqE))))))))) iqN))) = true := by decide +kernel
theorem dgX1_knock_0 : kRun kT cX1_knock.data.toList 0 (List.flatten (iqC (iqr1 0 iq42 (iqr1 1 iq89 (iqr3 2 (iq180 231) (iqr1 5 iq4 (iqr1 6 iq96 (iqr3 7 (iq181 231) (iqr1 10 iq42 (iqr3 11 (iq180 231) (iqr1 14 iq172 iqE))))))))) iqN)) = true := by decide +kernel
theorem dgX1_isSoundInSpans_0 : kRun kT cX1_isSoundInSpans.data.toList 0 (List.flatten (iqC (iqr1 0 iq3 (iqr1 1 iq60 (iqr1 2 iq27 (iqr1 3 iq42 (iqr3 4 (iq180 25) (iqr3 7 (iq182 96) (iqr3 10 (iq162 83) (iqr1 13 iq42 (iqr1 14 iq42 (iqr3 15 (iq180 25) iqE)))))))))) (iqC (iqr1 18 iq27 (iqr3 19 (iq182 113) (iqr1 22 iq42 (iqr3 23 (iq180 25) (iqr1 26 iq27 (iqr3 27 (iq182 117) (iqr3 30 (iq182 180) (iqr3 33 (iq154 5) (iqr1 36 iq3 (iqr1 37 iq172 iqE)))))))))) (iqC (iqr1 38 iq3 (iqr1 39 iq61 (iqr1 40 iq28 (iqr1 41 iq27 (iqr3 42 (iq162 45) (iqr1 45 iq42 (iqr3 46 (iq180 25) (iqr1 49 iq27 (iqr1 50 iq28 (iqr3 51 (iq182 170) iqE)))))))))) (iqC (iqr3 54 (iq153 27) (iqr1 57 iq42 (iqr3 58 (iq180 25) (iqr1 61 iq27 (iqr3 62 (iq182 162) (iqr3 65 (iq154 16) (iqr1 68 iq42 (iqr3 69 (iq180 25) (iqr1 72 iq28 (iqr3 73 (iq182 162) iqE)))))))))) (iqC (iqr3 76 (iq154 5) (iqr1 79 iq3 (iqr1 80 iq172 (iqr3 81 (iq132 2 1) (iqr3 84 (iq167 (-44)) (iqr3 87 (iq132 1 1) (iqr3 90 (iq167 (-88)) (iqr1 93 iq4 (iqr1 94 iq172 iqE))))))))) iqN)))))) = true := by decide +kernel
theorem dgX1_isSoundInFrees_0 : kRun kT cX1_isSoundInFrees.data.toList 0 (List.flatten (iqC (iqr1 0 iq42 (iqr3 1 (iq182 188) (iqr1 4 iq3 (iqr1 5 iq60 (iqr1 6 iq27 (iqr1 7 iq42 (iqr3 8 (iq180 32) (iqr3 11 (iq182 96) (iqr3 14 (iq162 39) (iqr1 17 iq42 iqE)))))))))) (iqC (iqr3 18 (iq180 25) (iqr1 21 iq42 (iqr3 22 (iq180 32) (iqr1 25 iq27 (iqr3 26 (iq182 113) (iqr1 29 iq42 (iqr3 30 (iq180 32) (iqr1 33 iq27 (iqr3 34 (iq182 117) (iqr1 37 iq2 iqE)))))))))) (iqC (iqr3 38 (iq182 184) (iqr1 41 iq2 (iqr3 42 (iq159 5) (iqr1 45 iq3 (iqr1 46 iq172 (iqr3 47 (iq132 1 1) (iqr3 50 (iq167 (-44)) (iqr1 53 iq42 (iqr3 54 (iq182 191) (iqr1 57 iq42 iqE)))))))))) (iqC (iqr3 58 (iq182 195) (iqr1 61 iq97 (iqr1 62 iq42 (iqr3 63 (iq180 19) (iqr1 66 iq42 (iqr3 67 (iq180 13) (iqr1 70 iq101 (iqr1 71 iq148 (iqr3 72 (iq154 7) (iqr1 75 iq4 iqE)))))))))) (iqC (iqr3 76 (iq167 4) (iqr1 79 iq3 (iqr1 80 iq172 iqE))) iqN)))))) = true := by decide +kernel
theorem dgX1_isSoundInWishes_0 : kRun kT cX1_isSoundInWishes.data.toList 0 (List.flatten (iqC (iqr1 0 iq42 (iqr3 1 (iq182 218) (iqr1 4 iq42 (iqr3 5 (iq182 207) (iqr1 8 iq60 (iqr1 9 iq42 (iqr1 10 iq27 (iqr3 11 (iq182 201) (iqr3 14 (iq153 29) (iqr1 17 iq27 iqE)))))))))) (iqC (iqr3 18 (iq184 210) (iqr1 21 iq42 (iqr3 22 (iq182 215) (iqr3 25 (iq160 18) (iqr1 28 iq42 (iqr3 29 (iq182 221) (iqr1 32 iq42 (iqr3 33 (iq182 317) (iqr3 36 (iq160 7) (iqr1 39 iq4 iqE)))))))))) (iqC (iqr3 40 (iq167 4) (iqr1 43 iq3 (iqr1 44 iq172 iqE))) iqN)))) = true := by decide +kernel
theorem dgX1_isSound_0 : kRun kT cX1_isSound.data.toList 0 (List.flatten (iqC (iqr1 0 iq42 (iqr3 1 (iq180 13) (iqr1 4 iq42 (iqr3 5 (iq180 19) (iqr1 8 iq148 (iqr3 9 (iq156 28) (iqr1 12 iq42 (iqr3 13 (iq182 234) (iqr3 16 (iq153 21) (iqr1 19 iq42 iqE)))))))))) (iqC (iqr3 20 (iq182 238) (iqr3 23 (iq153 14) (iqr1 26 iq42 (iqr3 27 (iq182 241) (iqr3 30 (iq153 7) (iqr1 33 iq4 (iqr3 34 (iq167 4) (iqr1 37 iq3 (iqr1 38 iq172 iqE))))))))) iqN))) = true := by decide +kernel
theorem dgX1_mix_0 : kRun kT cX1_mix.data.toList 0 (List.flatten (iqC (iqr1 0 iq30 (iqr3 1 (iq20 320) (iqr1 4 iq105 (iqr1 5 iq28 (iqr1 6 iq133 (iqr1 7 iq97 (iqr1 8 iq173 iqE))))))) iqN)) = true := by decide +kernel
theorem dgX1_mixParts_0 : kRun kT cX1_mixParts.data.toList 0 (List.flatten (iqC (iqr1 0 iq30 (iqr2 1 (iq55 4) (iqr1 3 iq3 (iqr2 4 (iq54 6) (iqr2 6 (iq21 6) (iqr1 8 iq7 (iqr3 9 (iq162 23) (iqr2 12 (iq22 4) (iqr1 14 iq44 (iqr1 15 iq29 iqE)))))))))) (iqC (iqr2 16 (iq21 6) (iqr3 18 (iq184 166) (iqr3 21 (iq184 259) (iqr2 24 (iq55 4) (iqr3 26 (iq132 6 1) (iqr3 29 (iq167 (-23)) (iqr2 32 (iq22 4) (iqr1 34 iq173 iqE)))))))) iqN))) = true := by decide +kernel
theorem dgX1_mixCells_0 : kRun kT cX1_mixCells.data.toList 0 (List.flatten (iqC (iqr1 0 iq31 (iqr1 1 iq66 (iqr1 2 iq3 (iqr2 3 (iq54 5) (iqr2 5 (iq21 5) (iqr1 7 iq7 (iqr3 8 (iq162 77) (iqr1 11 iq33 (iqr1 12 iq42 (iqr3 13 (iq180 9) iqE)))))))))) (iqC (iqr2 16 (iq21 5) (iqr1 18 iq47 (iqr3 19 (iq184 65) (iqr3 22 (iq184 259) (iqr1 25 iq66 (iqr1 26 iq33 (iqr1 27 iq42 (iqr3 28 (iq180 9) (iqr2 31 (iq21 5) (iqr1 33 iq47 iqE)))))))))) (iqC (iqr3 34 (iq184 142) (iqr3 37 (iq184 259) (iqr1 40 iq66 (iqr1 41 iq33 (iqr1 42 iq42 (iqr3 43 (iq180 25) (iqr1 46 iq42 (iqr3 47 (iq180 9) (iqr2 50 (iq21 5) (iqr1 52 iq47 iqE)))))))))) (iqC (iqr3 53 (iq182 174) (iqr3 56 (iq184 259) (iqr1 59 iq66 (iqr1 60 iq33 (iqr1 61 iq42 (iqr3 62 (iq180 32) (iqr1 65 iq42 (iqr3 66 (iq180 9) (iqr2 69 (iq21 5) (iqr1 71 iq47 iqE)))))))))) (iqC (iqr3 72 (iq182 174) (iqr3 75 (iq184 259) (iqr1 78 iq66 (iqr3 79 (iq132 5 1) (iqr3 82 (iq167 (-77)) (iqr1 85 iq33 (iqr1 86 iq173 iqE))))))) iqN)))))) = true := by decide +kernel
theorem dgX1_mixSpans_0 : kRun kT cX1_mixSpans.data.toList 0 (List.flatten (iqC (iqr1 0 iq31 (iqr1 1 iq66 (iqr1 2 iq3 (iqr2 3 (iq54 5) (iqr2 5 (iq21 5) (iqr1 7 iq7 (iqr3 8 (iq162 20) (iqr1 11 iq33 (iqr1 12 iq42 (iqr2 13 (iq21 5) iqE)))))))))) (iqC (iqr3 15 (iq182 322) (iqr3 18 (iq184 259) (iqr1 21 iq66 (iqr3 22 (iq132 5 1) (iqr3 25 (iq167 (-20)) (iqr1 28 iq33 (iqr1 29 iq42 (iqr3 30 (iq180 25) (iqr3 33 (iq182 96) (iqr3 36 (iq184 259) iqE)))))))))) (iqC (iqr1 39 iq66 (iqr1 40 iq3 (iqr2 41 (iq54 5) (iqr2 43 (iq21 5) (iqr1 45 iq42 (iqr3 46 (iq180 25) (iqr3 49 (iq182 96) (iqr3 52 (iq162 42) (iqr1 55 iq33 (iqr1 56 iq42 iqE)))))))))) (iqC (iqr3 57 (iq180 25) (iqr2 60 (iq21 5) (iqr3 62 (iq184 325) (iqr1 65 iq66 (iqr1 66 iq33 (iqr1 67 iq42 (iqr3 68 (iq180 25) (iqr2 71 (iq21 5) (iqr3 73 (iq182 162) (iqr3 76 (iq153 7) iqE)))))))))) (iqC (iqr1 79 iq4 (iqr3 80 (iq167 4) (iqr1 83 iq3 (iqr3 84 (iq184 259) (iqr1 87 iq66 (iqr3 88 (iq132 5 1) (iqr3 91 (iq167 (-48)) (iqr1 94 iq33 (iqr1 95 iq42 (iqr3 96 (iq182 329) iqE)))))))))) (iqC (iqr3 99 (iq184 259) (iqr1 102 iq66 (iqr1 103 iq33 (iqr1 104 iq42 (iqr3 105 (iq182 332) (iqr3 108 (iq184 259) (iqr1 111 iq173 iqE))))))) iqN))))))) = true := by decide +kernel
theorem dgX1_mixFrees_0 : kRun kT cX1_mixFrees.data.toList 0 (List.flatten (iqC (iqr1 0 iq31 (iqr1 1 iq42 (iqr3 2 (iq180 32) (iqr3 5 (iq182 96) (iqr3 8 (iq184 259) (iqr1 11 iq66 (iqr1 12 iq3 (iqr2 13 (iq54 5) (iqr2 15 (iq21 5) (iqr1 17 iq42 iqE)))))))))) (iqC (iqr3 18 (iq180 32) (iqr3 21 (iq182 96) (iqr3 24 (iq162 20) (iqr1 27 iq33 (iqr1 28 iq42 (iqr3 29 (iq180 32) (iqr2 32 (iq21 5) (iqr3 34 (iq184 325) (iqr1 37 iq66 (iqr3 38 (iq132 5 1) iqE)))))))))) (iqC (iqr3 41 (iq167 (-26)) (iqr1 44 iq3 (iqr2 45 (iq54 5) (iqr2 47 (iq21 5) (iqr2 49 (iq16 6) (iqr3 51 (iq162 20) (iqr1 54 iq33 (iqr1 55 iq42 (iqr2 56 (iq21 5) (iqr3 58 (iq182 335) iqE)))))))))) (iqC (iqr3 61 (iq184 259) (iqr1 64 iq66 (iqr3 65 (iq132 5 1) (iqr3 68 (iq167 (-21)) (iqr1 71 iq33 (iqr1 72 iq173 iqE)))))) iqN))))) = true := by decide +kernel
theorem dgX1_mixWishes_0 : kRun kT cX1_mixWishes.data.toList 0 (List.flatten (iqC (iqr1 0 iq31 (iqr1 1 iq42 (iqr3 2 (iq180 29) (iqr3 5 (iq182 96) (iqr3 8 (iq184 259) (iqr1 11 iq66 (iqr1 12 iq3 (iqr2 13 (iq54 5) (iqr2 15 (iq21 5) (iqr1 17 iq42 iqE)))))))))) (iqC (iqr3 18 (iq180 29) (iqr3 21 (iq182 96) (iqr3 24 (iq162 32) (iqr1 27 iq33 (iqr1 28 iq42 (iqr3 29 (iq180 29) (iqr2 32 (iq21 5) (iqr3 34 (iq184 325) (iqr1 37 iq66 (iqr1 38 iq33 iqE)))))))))) (iqC (iqr1 39 iq42 (iqr3 40 (iq180 35) (iqr2 43 (iq21 5) (iqr1 45 iq46 (iqr3 46 (iq184 259) (iqr1 49 iq66 (iqr3 50 (iq132 5 1) (iqr3 53 (iq167 (-38)) (iqr1 56 iq33 (iqr1 57 iq42 iqE)))))))))) (iqC (iqr3 58 (iq182 207) (iqr3 61 (iq184 259) (iqr1 64 iq66 (iqr1 65 iq33 (iqr1 66 iq42 (iqr3 67 (iq182 215) (iqr3 70 (iq184 259) (iqr1 73 iq66 (iqr1 74 iq33 (iqr1 75 iq42 iqE)))))))))) (iqC (iqr3 76 (iq182 317) (iqr3 79 (iq184 259) (iqr1 82 iq173 iqE))) iqN)))))) = true := by decide +kernel
theorem dgX1_digest_0 : kRun kT cX1_digest.data.toList 0 (List.flatten (iqC (iqr1 0 iq42 (iqr3 1 (iq182 188) (iqr1 4 iq42 (iqr3 5 (iq182 218) (iqr3 8 (iq20 244) (iqr1 11 iq64 (iqr1 12 iq42 (iqr1 13 iq31 (iqr3 14 (iq182 246) (iqr1 17 iq64 iqE)))))))))) (iqC (iqr1 18 iq42 (iqr1 19 iq31 (iqr3 20 (iq182 250) (iqr1 23 iq64 (iqr1 24 iq42 (iqr1 25 iq31 (iqr3 26 (iq182 253) (iqr1 29 iq64 (iqr1 30 iq42 (iqr1 31 iq31 iqE)))))))))) (iqC (iqr3 32 (iq182 256) (iqr1 35 iq64 (iqr1 36 iq31 (iqr1 37 iq42 (iqr3 38 (iq180 224) (iqr3 41 (iq184 259) (iqr1 44 iq64 (iqr1 45 iq31 (iqr1 46 iq42 (iqr3 47 (iq180 228) iqE)))))))))) (iqC (iqr3 50 (iq184 259) (iqr1 53 iq64 (iqr1 54 iq31 (iqr1 55 iq42 (iqr3 56 (iq180 231) (iqr3 59 (iq184 259) (iqr1 62 iq64 (iqr1 63 iq31 (iqr1 64 iq42 (iqr3 65 (iq182 263) iqE)))))))))) (iqC (iqr3 68 (iq153 7) (iqr1 71 iq4 (iqr3 72 (iq167 4) (iqr1 75 iq3 (iqr3 76 (iq184 259) (iqr1 79 iq173 iqE)))))) iqN)))))) = true := by decide +kernel
theorem dgJ6_stringSize_0f7a4_0 : kRun kT cJ6_stringSize_0f7a4.data.toList 0 (List.flatten (iqC (iqr1 0 iq4 (iqr1 1 iq60 (iqr1 2 iq26 (iqr3 3 (iq155 8) (iqr1 6 iq3 (iqr1 7 iq60 (iqr1 8 iq26 (iqr1 9 iq116 (iqr1 10 iq59 (iqr2 11 (iq16 (-10)) iqE)))))))))) (iqC (iqr1 13 iq61 (iqr1 14 iq4 (iqr1 15 iq62 (iqr1 16 iq29 (iqr2 17 (iq16 10) (iqr3 19 (iq162 23) (iqr1 22 iq26 (iqr1 23 iq28 (iqr3 24 (iq164 7) (iqr1 27 iq29 iqE)))))))))) (iqC (iqr1 28 iq27 (iqr1 29 iq96 (iqr1 30 iq172 (iqr2 31 (iq16 10) (iqr1 33 iq28 (iqr1 34 iq104 (iqr1 35 iq61 (iqr3 36 (iq132 3 1) (iqr3 39 (iq167 (-23)) (iqr2 42 (iq16 10) iqE)))))))))) (iqC (iqr1 44 iq27 (iqr1 45 iq96 (iqr1 46 iq172 iqE))) iqN))))) = true := by decide +kernel
theorem dgJ8_newLength_cabcc_0 : kRun kT cJ8_newLength_cabcc.data.toList 0 (List.flatten (iqC (iqr1 0 iq26 (iqr1 1 iq27 (iqr1 2 iq28 (iqr3 3 (iq184 194) (iqr1 6 iq96 (iqr1 7 iq62 (iqr1 8 iq3 (iqr1 9 iq29 (iqr3 10 (iq162 11) (iqr1 13 iq29 iqE)))))))))) (iqC (iqr2 14 (iq18 200) (iqr3 16 (iq163 5) (iqr1 19 iq29 (iqr1 20 iq172 (iqr1 21 iq26 (iqr1 22 iq27 (iqr3 23 (iq184 201) (iqr1 26 iq172 iqE)))))))) iqN))) = true := by decide +kernel
theorem dgJ5_newCapacity_0f7a4_0 : kRun kT cJ5_newCapacity_0f7a4.data.toList 0 (List.flatten (iqC (iqr1 0 iq42 (iqr3 1 (iq180 15) (iqr1 4 iq190 (iqr1 5 iq61 (iqr1 6 iq27 (iqr1 7 iq42 (iqr3 8 (iq180 22) (iqr1 11 iq120 (iqr1 12 iq62 (iqr1 13 iq29 iqE)))))))))) (iqC (iqr1 14 iq28 (iqr1 15 iq100 (iqr2 16 (iq54 4) (iqr1 18 iq28 (iqr2 19 (iq21 4) (iqr1 21 iq28 (iqr1 22 iq5 (iqr1 23 iq42 (iqr3 24 (iq180 22) (iqr1 27 iq120 iqE)))))))))) (iqC (iqr1 28 iq96 (iqr3 29 (iq184 114) (iqr2 32 (iq54 5) (iqr2 34 (iq21 5) (iqr2 36 (iq18 39) (iqr3 38 (iq160 13) (iqr3 41 (iq187 120) (iqr1 44 iq89 (iqr2 45 (iq18 122) (iqr3 47 (iq183 124) iqE)))))))))) (iqC (iqr1 50 iq191 (iqr2 51 (iq21 5) (iqr1 53 iq42 (iqr3 54 (iq180 22) (iqr1 57 iq122 (iqr1 58 iq172 iqE)))))) iqN))))) = true := by decide +kernel
theorem dgJ7_copyOf_9075b_0 : kRun kT cJ7_copyOf_9075b.data.toList 0 (List.flatten (iqC (iqr1 0 iq27 (iqr1 1 iq42 (iqr1 2 iq190 (iqr3 3 (iq160 11) (iqr1 6 iq42 (iqr3 7 (iq182 310) (iqr3 10 (iq192 311) (iqr1 13 iq176 (iqr1 14 iq27 iqE))))))))) iqN)) = true := by decide +kernel
theorem dJ7_copyOf_9075b_15 : decode cJ7_copyOf_9075b 15 = .ok (.newarray .byte, 2) := by decide +kernel
theorem dgJ7_copyOf_9075b_17 : kRun kT cJ7_copyOf_9075b.data.toList 0 (List.flatten (iqC (iqr1 17 iq77 (iqr1 18 iq42 (iqr1 19 iq3 (iqr1 20 iq44 (iqr1 21 iq3 (iqr1 22 iq42 (iqr1 23 iq190 (iqr1 24 iq27 (iqr3 25 (iq184 304) (iqr3 28 (iq184 150) iqE)))))))))) (iqC (iqr1 31 iq44 (iqr1 32 iq176 iqE)) iqN))) = true := by decide +kernel
theorem dgJ5_ensureCapacityInternal_d00df_0 : kRun kT cJ5_ensureCapacityInternal_d00df.data.toList 0 (List.flatten (iqC (iqr1 0 iq42 (iqr3 1 (iq180 15) (iqr1 4 iq190 (iqr1 5 iq42 (iqr3 6 (iq180 22) (iqr1 9 iq122 (iqr1 10 iq61 (iqr1 11 iq27 (iqr1 12 iq28 (iqr1 13 iq100 iqE)))))))))) (iqC (iqr3 14 (iq158 24) (iqr1 17 iq42 (iqr1 18 iq42 (iqr3 19 (iq180 15) (iqr1 22 iq42 (iqr1 23 iq27 (iqr3 24 (iq182 104) (iqr1 27 iq42 (iqr3 28 (iq180 22) (iqr1 31 iq120 iqE)))))))))) (iqC (iqr3 32 (iq184 108) (iqr3 35 (iq181 15) (iqr1 38 iq177 iqE))) iqN)))) = true := by decide +kernel
theorem dgJ5_isLatin1_aae02_0 : kRun kT cJ5_isLatin1_aae02.data.toList 0 (List.flatten (iqC (iqr3 0 (iq178 18) (iqr3 3 (iq153 14) (iqr1 6 iq42 (iqr3 7 (iq180 22) (iqr3 10 (iq154 7) (iqr1 13 iq4 (iqr3 14 (iq167 4) (iqr1 17 iq3 (iqr1 18 iq172 iqE))))))))) iqN)) = true := by decide +kernel
theorem dgJ1_canEncode_fc78d_0 : kRun kT cJ1_canEncode_fc78d.data.toList 0 (List.flatten (iqC (iqr1 0 iq26 (iqr3 1 (iq17 255) (iqr3 4 (iq163 7) (iqr1 7 iq4 (iqr3 8 (iq167 4) (iqr1 11 iq3 (iqr1 12 iq172 iqE))))))) iqN)) = true := by decide +kernel
theorem dgJ6_getChars_ba4f3_0 : kRun kT cJ6_getChars_ba4f3.data.toList 0 (List.flatten (iqC (iqr1 0 iq27 (iqr2 1 (iq54 5) (iqr1 3 iq26 (iqr3 4 (iq156 7) (iqr1 7 iq4 (iqr3 8 (iq167 4) (iqr1 11 iq3 (iqr2 12 (iq54 6) (iqr2 14 (iq21 6) (iqr3 16 (iq154 6) iqE)))))))))) (iqC (iqr1 19 iq26 (iqr1 20 iq116 (iqr1 21 iq59 (iqr1 22 iq26 (iqr2 23 (iq16 (-100)) (iqr3 25 (iq163 47) (iqr1 28 iq26 (iqr2 29 (iq16 100) (iqr1 31 iq108 (iqr1 32 iq62 iqE)))))))))) (iqC (iqr1 33 iq29 (iqr2 34 (iq16 100) (iqr1 36 iq104 (iqr1 37 iq26 (iqr1 38 iq100 (iqr2 39 (iq54 4) (iqr1 41 iq29 (iqr1 42 iq59 (iqr1 43 iq44 (iqr3 44 (iq132 5 (-1)) iqE)))))))))) (iqC (iqr2 47 (iq21 5) (iqr3 49 (iq178 83) (iqr2 52 (iq21 4) (iqr1 54 iq51 (iqr1 55 iq84 (iqr1 56 iq44 (iqr3 57 (iq132 5 (-1)) (iqr2 60 (iq21 5) (iqr3 62 (iq178 87) (iqr2 65 (iq21 4) iqE)))))))))) (iqC (iqr1 67 iq51 (iqr1 68 iq84 (iqr3 69 (iq167 (-47)) (iqr1 72 iq44 (iqr3 73 (iq132 5 (-1)) (iqr2 76 (iq21 5) (iqr3 78 (iq178 83) (iqr1 81 iq26 (iqr1 82 iq116 (iqr1 83 iq51 iqE)))))))))) (iqC (iqr1 84 iq84 (iqr1 85 iq26 (iqr2 86 (iq16 (-9)) (iqr3 88 (iq162 16) (iqr1 91 iq44 (iqr3 92 (iq132 5 (-1)) (iqr2 95 (iq21 5) (iqr3 97 (iq178 87) (iqr1 100 iq26 (iqr1 101 iq116 iqE)))))))))) (iqC (iqr1 102 iq51 (iqr1 103 iq84 (iqr2 104 (iq21 6) (iqr3 106 (iq153 12) (iqr1 109 iq44 (iqr3 110 (iq132 5 (-1)) (iqr2 113 (iq21 5) (iqr2 115 (iq16 45) (iqr1 117 iq84 (iqr2 118 (iq21 5) iqE)))))))))) (iqC (iqr1 120 iq172 iqE) iqN))))))))) = true := by decide +kernel
theorem dgJ5_append_c97b9_0 : kRun kT cJ5_append_c97b9.data.toList 0 (List.flatten (iqC (iqr1 0 iq42 (iqr3 1 (iq180 79) (iqr1 4 iq61 (iqr1 5 iq28 (iqr1 6 iq27 (iqr3 7 (iq184 245) (iqr1 10 iq96 (iqr1 11 iq62 (iqr1 12 iq42 (iqr1 13 iq29 iqE)))))))))) (iqC (iqr3 14 (iq182 100) (iqr1 17 iq42 (iqr3 18 (iq182 83) (iqr3 21 (iq153 16) (iqr1 24 iq27 (iqr1 25 iq29 (iqr1 26 iq42 (iqr3 27 (iq180 15) (iqr3 30 (iq184 248) (iqr1 33 iq87 iqE)))))))))) (iqC (iqr3 34 (iq167 14) (iqr1 37 iq27 (iqr1 38 iq28 (iqr1 39 iq29 (iqr1 40 iq42 (iqr3 41 (iq180 15) (iqr3 44 (iq184 251) (iqr1 47 iq87 (iqr1 48 iq42 (iqr1 49 iq29 iqE)))))))))) (iqC (iqr3 50 (iq181 79) (iqr1 53 iq42 (iqr1 54 iq176 iqE))) iqN))))) = true := by decide +kernel
theorem dgJ5_append_3fe6f_0 : kRun kT cJ5_append_3fe6f.data.toList 0 (List.flatten (iqC (iqr1 0 iq42 (iqr1 1 iq42 (iqr3 2 (iq180 79) (iqr1 5 iq4 (iqr1 6 iq96 (iqr3 7 (iq182 100) (iqr1 10 iq42 (iqr3 11 (iq182 83) (iqr3 14 (iq153 31) (iqr1 17 iq27 iqE)))))))))) (iqC (iqr3 18 (iq184 191) (iqr3 21 (iq153 24) (iqr1 24 iq42 (iqr3 25 (iq180 15) (iqr1 28 iq42 (iqr1 29 iq89 (iqr3 30 (iq180 79) (iqr1 33 iq90 (iqr1 34 iq4 (iqr1 35 iq96 iqE)))))))))) (iqC (iqr3 36 (iq181 79) (iqr1 39 iq27 (iqr1 40 iq145 (iqr1 41 iq84 (iqr3 42 (iq167 33) (iqr1 45 iq42 (iqr3 46 (iq182 83) (iqr3 49 (iq153 7) (iqr1 52 iq42 (iqr3 53 (iq182 195) iqE)))))))))) (iqC (iqr1 56 iq42 (iqr3 57 (iq180 15) (iqr1 60 iq42 (iqr1 61 iq89 (iqr3 62 (iq180 79) (iqr1 65 iq90 (iqr1 66 iq4 (iqr1 67 iq96 (iqr3 68 (iq181 79) (iqr1 71 iq27 iqE)))))))))) (iqC (iqr3 72 (iq184 197) (iqr1 75 iq42 (iqr1 76 iq176 iqE))) iqN)))))) = true := by decide +kernel
theorem dgJ4_append_bf812_0 : kRun kT cJ4_append_bf812.data.toList 0 (List.flatten (iqC (iqr1 0 iq42 (iqr1 1 iq27 (iqr3 2 (iq183 53) (iqr1 5 iq87 (iqr1 6 iq42 (iqr1 7 iq176 iqE)))))) iqN)) = true := by decide +kernel
theorem dgJ4_append_cf468_0 : kRun kT cJ4_append_cf468.data.toList 0 (List.flatten (iqC (iqr1 0 iq42 (iqr1 1 iq27 (iqr3 2 (iq183 50) (iqr1 5 iq87 (iqr1 6 iq42 (iqr1 7 iq176 iqE)))))) iqN)) = true := by decide +kernel
theorem dgJ5_init_d00df_0 : kRun kT cJ5_init_d00df.data.toList 0 (List.flatten (iqC (iqr1 0 iq42 (iqr3 1 (iq183 3) (iqr3 4 (iq178 18) (iqr3 7 (iq153 18) (iqr1 10 iq42 (iqr1 11 iq27 iqE)))))) iqN)) = true := by decide +kernel
theorem dJ5_init_d00df_12 : decode cJ5_init_d00df 12 = .ok (.newarray .byte, 2) := by decide +kernel
theorem dgJ5_init_d00df_14 : kRun kT cJ5_init_d00df.data.toList 0 (List.flatten (iqC (iqr3 14 (iq181 15) (iqr1 17 iq42 (iqr1 18 iq3 (iqr3 19 (iq181 22) (iqr3 22 (iq167 16) (iqr1 25 iq42 (iqr1 26 iq27 (iqr3 27 (iq184 26) (iqr3 30 (iq181 15) (iqr1 33 iq42 iqE)))))))))) (iqC (iqr1 34 iq4 (iqr3 35 (iq181 22) (iqr1 38 iq177 iqE))) iqN))) = true := by decide +kernel
theorem dgJ4_init_da8c8_0 : kRun kT cJ4_init_da8c8.data.toList 0 (List.flatten (iqC (iqr1 0 iq42 (iqr2 1 (iq16 16) (iqr3 3 (iq183 1) (iqr1 6 iq177 iqE)))) iqN)) = true := by decide +kernel
theorem dgJ5_getValue_6d5f1_0 : kRun kT cJ5_getValue_6d5f1.data.toList 0 (List.flatten (iqC (iqr1 0 iq42 (iqr3 1 (iq180 15) (iqr1 4 iq176 iqE))) iqN)) = true := by decide +kernel
theorem dgJ5_length_8abf5_0 : kRun kT cJ5_length_8abf5.data.toList 0 (List.flatten (iqC (iqr1 0 iq42 (iqr3 1 (iq180 79) (iqr1 4 iq172 iqE))) iqN)) = true := by decide +kernel
theorem dgJ4_length_8abf5_0 : kRun kT cJ4_length_8abf5.data.toList 0 (List.flatten (iqC (iqr1 0 iq42 (iqr3 1 (iq183 343) (iqr1 4 iq172 iqE))) iqN)) = true := by decide +kernel
theorem dgJ7_checkLength_df160_0 : kRun kT cJ7_checkLength_df160.data.toList 0 (List.flatten (iqC (iqr1 0 iq27 (iqr1 1 iq26 (iqr3 2 (iq162 35) (iqr3 5 (iq187 43) (iqr1 8 iq89 (iqr3 9 (iq187 45) (iqr1 12 iq89 (iqr3 13 (iq183 47) (iqr1 16 iq26 (iqr3 17 (iq182 54) iqE)))))))))) (iqC (iqr3 20 (iq19 337) (iqr3 23 (iq182 50) (iqr1 26 iq27 (iqr3 27 (iq182 54) (iqr3 30 (iq182 61) (iqr3 33 (iq183 65) (iqr1 36 iq191 (iqr1 37 iq177 iqE)))))))) iqN))) = true := by decide +kernel
theorem dgJ7_copyOfRangeByte_39247_0 : kRun kT cJ7_copyOfRangeByte_39247.data.toList 0 (List.flatten (iqC (iqr1 0 iq27 (iqr1 1 iq28 (iqr3 2 (iq184 343) (iqr1 5 iq28 (iqr1 6 iq27 (iqr1 7 iq100 (iqr1 8 iq62 (iqr1 9 iq29 iqE)))))))) iqN)) = true := by decide +kernel
theorem dJ7_copyOfRangeByte_39247_10 : decode cJ7_copyOfRangeByte_39247 10 = .ok (.newarray .byte, 2) := by decide +kernel
theorem dgJ7_copyOfRangeByte_39247_12 : kRun kT cJ7_copyOfRangeByte_39247.data.toList 0 (List.flatten (iqC (iqr2 12 (iq58 4) (iqr1 14 iq42 (iqr1 15 iq27 (iqr2 16 (iq25 4) (iqr1 18 iq3 (iqr1 19 iq42 (iqr1 20 iq190 (iqr1 21 iq27 (iqr1 22 iq100 (iqr1 23 iq29 iqE)))))))))) (iqC (iqr3 24 (iq184 304) (iqr3 27 (iq184 150) (iqr2 30 (iq25 4) (iqr1 32 iq176 iqE)))) iqN))) = true := by decide +kernel
theorem dgJ7_copyOfRange_39247_0 : kRun kT cJ7_copyOfRange_39247.data.toList 0 (List.flatten (iqC (iqr1 0 iq27 (iqr3 1 (iq154 9) (iqr1 4 iq28 (iqr1 5 iq42 (iqr1 6 iq190 (iqr3 7 (iq159 10) (iqr1 10 iq42 (iqr1 11 iq27 (iqr1 12 iq28 (iqr3 13 (iq184 339) iqE)))))))))) (iqC (iqr1 16 iq176 (iqr1 17 iq42 (iqr3 18 (iq182 310) (iqr3 21 (iq192 311) (iqr1 24 iq176 iqE))))) iqN))) = true := by decide +kernel
theorem dgJ0_init_db425_0 : kRun kT cJ0_init_db425.data.toList 0 (List.flatten (iqC (iqr1 0 iq42 (iqr3 1 (iq183 1) (iqr1 4 iq43 (iqr3 5 (iq182 552) (iqr1 8 iq78 (iqr1 9 iq43 (iqr3 10 (iq182 549) (iqr2 13 (iq54 4) (iqr1 15 iq43 (iqr3 16 (iq182 1047) iqE)))))))))) (iqC (iqr3 19 (iq153 22) (iqr1 22 iq42 (iqr1 23 iq3 (iqr3 24 (iq181 15) (iqr1 27 iq42 (iqr1 28 iq45 (iqr1 29 iq3 (iqr2 30 (iq21 4) (iqr3 32 (iq184 54) (iqr3 35 (iq181 9) iqE)))))))))) (iqC (iqr3 38 (iq167 59) (iqr3 41 (iq178 38) (iqr3 44 (iq153 35) (iqr1 47 iq43 (iqr3 48 (iq180 1048) (iqr3 51 (iq153 28) (iqr1 54 iq42 (iqr1 55 iq45 (iqr1 56 iq3 (iqr2 57 (iq21 4) iqE)))))))))) (iqC (iqr3 59 (iq184 1051) (iqr3 62 (iq181 9) (iqr1 65 iq42 (iqr1 66 iq42 (iqr3 67 (iq180 9) (iqr2 70 (iq21 4) (iqr3 72 (iq184 47) (iqr3 75 (iq181 15) (iqr1 78 iq177 (iqr1 79 iq42 iqE)))))))))) (iqC (iqr1 80 iq4 (iqr3 81 (iq181 15) (iqr1 84 iq42 (iqr1 85 iq45 (iqr1 86 iq3 (iqr2 87 (iq21 4) (iqr1 89 iq4 (iqr1 90 iq120 (iqr3 91 (iq184 54) (iqr3 94 (iq181 9) iqE)))))))))) (iqC (iqr1 97 iq177 iqE) iqN))))))) = true := by decide +kernel
theorem dgJ0_init_81219_0 : kRun kT cJ0_init_81219.data.toList 0 (List.flatten (iqC (iqr1 0 iq42 (iqr1 1 iq43 (iqr1 2 iq1 (iqr3 3 (iq183 489) (iqr1 6 iq177 iqE))))) iqN)) = true := by decide +kernel
theorem dgJ4_toString_0e30d_0 : kRun kT cJ4_toString_0e30d.data.toList 0 (List.flatten (iqC (iqr3 0 (iq187 18) (iqr1 3 iq89 (iqr1 4 iq42 (iqr3 5 (iq183 137) (iqr1 8 iq176 iqE))))) iqN)) = true := by decide +kernel
theorem dgJ0_coder_7d493_0 : kRun kT cJ0_coder_7d493.data.toList 0 (List.flatten (iqC (iqr3 0 (iq178 38) (iqr3 3 (iq153 10) (iqr1 6 iq42 (iqr3 7 (iq180 15) (iqr3 10 (iq167 4) (iqr1 13 iq4 (iqr1 14 iq172 iqE))))))) iqN)) = true := by decide +kernel
theorem dgJ0_length_8abf5_0 : kRun kT cJ0_length_8abf5.data.toList 0 (List.flatten (iqC (iqr1 0 iq42 (iqr3 1 (iq180 9) (iqr1 4 iq190 (iqr1 5 iq42 (iqr3 6 (iq182 335) (iqr1 9 iq122 (iqr1 10 iq172 iqE))))))) iqN)) = true := by decide +kernel
theorem dgJ0_getBytes_840e7_0 : kRun kT cJ0_getBytes_840e7.data.toList 0 (List.flatten (iqC (iqr1 0 iq42 (iqr3 1 (iq182 335) (iqr1 4 iq29 (iqr3 5 (iq160 23) (iqr1 8 iq42 (iqr3 9 (iq180 9) (iqr1 12 iq3 (iqr1 13 iq43 (iqr1 14 iq28 (iqr1 15 iq29 iqE)))))))))) (iqC (iqr1 16 iq120 (iqr1 17 iq42 (iqr3 18 (iq180 9) (iqr1 21 iq190 (iqr3 22 (iq184 212) (iqr3 25 (iq167 18) (iqr1 28 iq42 (iqr3 29 (iq180 9) (iqr1 32 iq3 (iqr1 33 iq43 iqE)))))))))) (iqC (iqr1 34 iq28 (iqr1 35 iq42 (iqr3 36 (iq180 9) (iqr1 39 iq190 (iqr3 40 (iq184 106) (iqr1 43 iq177 iqE)))))) iqN)))) = true := by decide +kernel
theorem dgJ5_inflateIfNeededFor_a7421_0 : kRun kT cJ5_inflateIfNeededFor_a7421.data.toList 0 (List.flatten (iqC (iqr3 0 (iq178 18) (iqr3 3 (iq153 18) (iqr1 6 iq42 (iqr3 7 (iq180 22) (iqr1 10 iq43 (iqr3 11 (iq182 40) (iqr3 14 (iq159 7) (iqr1 17 iq42 (iqr3 18 (iq182 195) (iqr1 21 iq177 iqE)))))))))) iqN)) = true := by decide +kernel
theorem dgJ5_putStringAt_47b60_0 : kRun kT cJ5_putStringAt_47b60.data.toList 0 (List.flatten (iqC (iqr1 0 iq42 (iqr1 1 iq44 (iqr3 2 (iq182 397) (iqr1 5 iq44 (iqr1 6 iq42 (iqr3 7 (iq180 15) (iqr1 10 iq27 (iqr1 11 iq42 (iqr3 12 (iq180 22) (iqr3 15 (iq182 399) iqE)))))))))) (iqC (iqr1 18 iq177 iqE) iqN))) = true := by decide +kernel
theorem dgJ5_append_cf1ce_0 : kRun kT cJ5_append_cf1ce.data.toList 0 (List.flatten (iqC (iqr1 0 iq43 (iqr3 1 (iq199 8) (iqr1 4 iq42 (iqr3 5 (iq182 204) (iqr1 8 iq176 (iqr1 9 iq43 (iqr3 10 (iq182 32) (iqr1 13 iq61 (iqr1 14 iq42 (iqr1 15 iq42 iqE)))))))))) (iqC (iqr3 16 (iq180 79) (iqr1 19 iq28 (iqr1 20 iq96 (iqr3 21 (iq182 100) (iqr1 24 iq42 (iqr1 25 iq42 (iqr3 26 (iq180 79) (iqr1 29 iq43 (iqr3 30 (iq182 208) (iqr1 33 iq42 iqE)))))))))) (iqC (iqr1 34 iq89 (iqr3 35 (iq180 79) (iqr1 38 iq28 (iqr1 39 iq96 (iqr3 40 (iq181 79) (iqr1 43 iq42 (iqr1 44 iq176 iqE))))))) iqN)))) = true := by decide +kernel
theorem dgJ4_append_15ec4_0 : kRun kT cJ4_append_15ec4.data.toList 0 (List.flatten (iqC (iqr1 0 iq42 (iqr1 1 iq43 (iqr3 2 (iq183 29) (iqr1 5 iq87 (iqr1 6 iq42 (iqr1 7 iq176 iqE)))))) iqN)) = true := by decide +kernel
theorem dgX0_init_0 : kRun kT cX0_init.data.toList 0 (List.flatten (iqC (iqr1 0 iq42 (iqr3 1 (iq183 3) (iqr1 4 iq42 (iqr2 5 (iq16 11) iqE)))) iqN)) = true := by decide +kernel
theorem dX0_init_7 : decode cX0_init 7 = .ok (.newarray .long, 2) := by decide +kernel
theorem dgX0_init_9 : kRun kT cX0_init.data.toList 0 (List.flatten (iqC (iqr3 9 (iq181 9) (iqr1 12 iq42 (iqr2 13 (iq16 11) iqE))) iqN)) = true := by decide +kernel
theorem dX0_init_15 : decode cX0_init 15 = .ok (.newarray .long, 2) := by decide +kernel
theorem dgX0_init_17 : kRun kT cX0_init.data.toList 0 (List.flatten (iqC (iqr3 17 (iq181 15) (iqr1 20 iq42 (iqr2 21 (iq16 11) iqE))) iqN)) = true := by decide +kernel
theorem dX0_init_23 : decode cX0_init 23 = .ok (.newarray .boolean, 2) := by decide +kernel
theorem dgX0_init_25 : kRun kT cX0_init.data.toList 0 (List.flatten (iqC (iqr3 25 (iq181 18) (iqr1 28 iq177 iqE)) iqN)) = true := by decide +kernel
theorem dgX1_init_0 : kRun kT cX1_init.data.toList 0 (List.flatten (iqC (iqr1 0 iq42 (iqr3 1 (iq183 3) (iqr1 4 iq42 (iqr1 5 iq7 iqE)))) iqN)) = true := by decide +kernel
theorem dX1_init_6 : decode cX1_init 6 = .ok (.newarray .long, 2) := by decide +kernel
theorem dgX1_init_8 : kRun kT cX1_init.data.toList 0 (List.flatten (iqC (iqr3 8 (iq181 9) (iqr1 11 iq42 (iqr1 12 iq9 (iqr3 13 (iq181 13) (iqr1 16 iq42 (iqr3 17 (iq20 17) (iqr3 20 (iq181 19) (iqr1 23 iq42 (iqr3 24 (iq187 22) (iqr1 27 iq89 iqE)))))))))) (iqC (iqr3 28 (iq183 24) (iqr3 31 (iq181 25) (iqr1 34 iq42 (iqr3 35 (iq187 22) (iqr1 38 iq89 (iqr3 39 (iq183 24) (iqr3 42 (iq181 29) (iqr1 45 iq42 (iqr3 46 (iq187 22) (iqr1 49 iq89 iqE)))))))))) (iqC (iqr3 50 (iq183 24) (iqr3 53 (iq181 32) (iqr1 56 iq42 (iqr2 57 (iq16 11) iqE)))) iqN)))) = true := by decide +kernel
theorem dX1_init_59 : decode cX1_init 59 = .ok (.newarray .int, 2) := by decide +kernel
theorem dgX1_init_61 : kRun kT cX1_init.data.toList 0 (List.flatten (iqC (iqr3 61 (iq181 35) (iqr1 64 iq177 iqE)) iqN)) = true := by decide +kernel
theorem dgX2_init_0 : kRun kT cX2_init.data.toList 0 (List.flatten (iqC (iqr1 0 iq42 (iqr3 1 (iq183 1) (iqr1 4 iq177 iqE))) iqN)) = true := by decide +kernel
theorem dgX1_text_0 : kRun kT cX1_text.data.toList 0 (List.flatten (iqC (iqr1 0 iq27 (iqr3 1 (iq184 39) (iqr3 4 (iq187 145) (iqr1 7 iq89 (iqr3 8 (iq183 147) (iqr1 11 iq77 (iqr1 12 iq44 (iqr1 13 iq42 (iqr3 14 (iq180 9) (iqr1 17 iq27 iqE)))))))))) (iqC (iqr1 18 iq47 (iqr3 19 (iq184 65) (iqr3 22 (iq182 148) (iqr1 25 iq87 (iqr1 26 iq44 (iqr2 27 (iq16 32) (iqr3 29 (iq182 152) (iqr1 32 iq87 (iqr1 33 iq44 (iqr1 34 iq42 iqE)))))))))) (iqC (iqr3 35 (iq180 9) (iqr1 38 iq27 (iqr1 39 iq47 (iqr3 40 (iq184 142) (iqr3 43 (iq182 148) (iqr1 46 iq87 (iqr1 47 iq44 (iqr3 48 (iq182 155) (iqr1 51 iq176 iqE))))))))) iqN)))) = true := by decide +kernel
end
-- 04.base.lean.txt
section
/-! the writer's own words over the kit: contracts in one form, calls in one row, guards -/
abbrev ix (j : Int32) (n : Nat) : Prop := 0 ≤ j.toInt ∧ j.toInt < n
theorem ix_in {j : Int32} {n : Nat} (h : ix j n) : vp_in j n := vp_in_iff.mpr h
theorem g_if {α : Type} {c : Prop} [Decidable c] {A : Option α} {r : α} (h : (if c then A else none) = some r) : c ∧ A = some r := by
  by_cases hc : c
  · rw [if_pos hc] at h; exact ⟨hc, h⟩
  · rw [if_neg hc] at h; cases h
theorem g_t {α : Type} {c : Prop} [Decidable c] {A B : Option α} {r : α} (hc : c) (h : (if c then A else B) = some r) : A = some r := (if_pos hc).symm.trans h
theorem g_f {α : Type} {c : Prop} [Decidable c] {A B : Option α} {r : α} (hc : ¬ c) (h : (if c then A else B) = some r) : B = some r := (if_neg hc).symm.trans h
theorem g_b {α β : Type} {o : Option α} {k : α → Option β} {r : β} (h : o.bind k = some r) : ∃ a, o = some a ∧ k a = some r := Option.bind_eq_some_iff.mp h
def kEx (k : Nat) : String := if k = 1 then "java/lang/IndexOutOfBoundsException" else "java/lang/IllegalArgumentException"
abbrev kTy (cB cI cJ cZ : ClassId) : List (ClassId × FieldType) := [(cB, .byte), (cI, .int), (cJ, .long), (cZ, .boolean)]
/-- what holds of the machine through the whole run -/
def kGw : List Cond := [.methodLinkNest RX0 30 yX1_isLet RX1, .declares ⟨"java/lang/RuntimeException", "<init>", "(Ljava/lang/String;)V"⟩, .declares ⟨"java/lang/Exception", "<init>", "(Ljava/lang/String;)V"⟩, .declares ⟨"java/lang/Throwable", "<init>", "(Ljava/lang/String;)V"⟩, .castable "java/lang/IndexOutOfBoundsException" "java/lang/IndexOutOfBoundsException", .castable "java/lang/IllegalArgumentException" "java/lang/IllegalArgumentException", .methodLinkNest RL 146 yX2_init RL, .fieldLinkNest RL 13 RX2 "n" "J" RL, .fieldLinkNest RL 81 RX2 "s" "Ljava/lang/String;" RL, .castable "[B" "java/lang/Cloneable"]
def kG (U : State) : Prop := (∀ w ∈ kGw, va_Nw w U) ∧ va_Nc "java/lang/IllegalArgumentException" "java/lang/IndexOutOfBoundsException" U
theorem kGw_tab : ∀ w ∈ kGw, w.onTables = true := by decide +kernel
theorem kG.at {U : State} (g : kG U) (i : Nat) {w : Cond} (h : kGw[i]? = some w) : va_Nw w U := g.1 w (List.mem_of_getElem? h)
theorem kG_warm {s U : State} (hW : s.WarmedH U.vm) (g : kG s) : kG U := by
  refine ⟨fun w hw => ?_, g.2.moved hW.alike⟩
  have h := g.1 w hw
  simp only [kGw, List.mem_cons, List.not_mem_nil, or_false] at hw
  rcases hw with rfl | rfl | rfl | rfl | rfl | rfl | rfl | rfl | rfl | rfl
  · exact va_Nw.warmM hW h
  · exact va_Nw.warmD hW h
  · exact va_Nw.warmD hW h
  · exact va_Nw.warmD hW h
  · exact va_Nw.warmC hW h
  · exact va_Nw.warmC hW h
  · exact va_Nw.warmM hW h
  · exact va_Nw.warmF hW h
  · exact va_Nw.warmF hW h
  · exact va_Nw.warmC hW h
theorem kG_same {u U : State} (h : u.vm = U.vm) (g : kG u) : kG U := ⟨fun w hw => va_Nw.same (kGw_tab w hw) h (g.1 w hw), g.2.moved (by rw [h]; exact Vm.Alike.refl _)⟩
abbrev kPre (D : va_G) (tys : List (ClassId × FieldType)) (av : List Value) (sz : Nat) (ws : va_W) : Array Value → State → Prop := va_Pc av (fun U => U.heap.size = sz ∧ va_P D vwCl ws U.heap ∧ va_K D vwCl tys U ∧ va_D (fun _ => True) ws ∧ kG U)
theorem kPre_blind {D : va_G} {tys : List (ClassId × FieldType)} {av : List Value} {sz : Nat} {ws : va_W} : FrameBlind (kPre D tys av sz ws) := fun a U g mk q => by
  obtain ⟨q0, q1, qP, qK, qD, qG⟩ := q
  exact ⟨q0, q1, qP, va_K.moved (u := U) (U := U.calling g mk a) (Vm.Alike.refl U.vm) qK, qD, kG_same (u := U) rfl qG⟩
theorem kpV {s : State} {H : Heap} {C : String} {b : Addr} {As : List Value} {D : va_G} {tys : List (ClassId × FieldType)} {wc : va_W} {A : Nat → Prop} (hP : va_P D vwCl wc H) (hK : va_K D vwCl tys s) (hD : va_D A wc) (hG : kG s) (hr : ∃ cellB : Cell, H[b]? = some cellB ∧ cellB.vm.isStatics = false ∧ s.vm.findClass C = some cellB.cls) : PreV s H C b (kPre D tys (.ref b :: As) H.size wc) As :=
  ⟨kPre_blind, hr, fun U hU hW => ⟨rfl, by rw [hU], by rw [hU]; exact hP, va_K.moved hW.alike hK, hD.weaken (fun _ _ _ _ => trivial), kG_warm hW hG⟩⟩
theorem kpS {s : State} {H : Heap} {As : List Value} {D : va_G} {tys : List (ClassId × FieldType)} {wc : va_W} {A : Nat → Prop} (hP : va_P D vwCl wc H) (hK : va_K D vwCl tys s) (hD : va_D A wc) (hG : kG s) : PreS s H (kPre D tys As H.size wc) As :=
  ⟨kPre_blind, fun U hU hW => ⟨rfl, by rw [hU], by rw [hU]; exact hP, va_K.moved hW.alike hK, hD.weaken (fun _ _ _ _ => trivial), kG_warm hW hG⟩⟩
theorem kPnil {D : va_G} {H : Heap} : va_P D vwCl [] H := fun _ _ h => by simp at h
theorem kDnil {A : Nat → Prop} : va_D A [] := ⟨fun _ _ _ _ h => by simp at h, fun _ _ h => by simp at h⟩
abbrev kI (D : va_G) (ty : FieldType) (r : Int32) (ws : va_W) (A : Nat → Prop) : Array Value → State → Outcome → State → Prop := va_Qi (fun (r' : Int32) (_ : Unit) => r' = r ∧ narrow ty (.int r) = .int r) (fun _ t => va_P D vwCl ws t.heap) A
abbrev kL (D : va_G) (r : Int64) (ws : va_W) (A : Nat → Prop) : Array Value → State → Outcome → State → Prop := va_Ql (fun (r' : Int64) (_ : Unit) => r' = r) (fun _ t => va_P D vwCl ws t.heap) A
abbrev kV (D : va_G) (ws : va_W) (A : Nat → Prop) : Array Value → State → Outcome → State → Prop := va_Qv (fun (_ : Unit) => True) (fun _ t => va_P D vwCl ws t.heap) A
/-- a new array as the answer: behind the old cells -/
abbrev kR (D : va_G) (e : va_E) (ws : va_W) (A : Nat → Prop) : Array Value → State → Outcome → State → Prop := va_Qr (fun (_ : Unit) => True) (fun _ a t => va_P D vwCl (ws ++ [(a, e)]) t.heap ∧ va_D A (ws ++ [(a, e)])) A
def kadr (x0 x1 x2 x3 x4 x5 x6 : Nat) : Nat → Nat := fun k => match k with
  | 0 => x0
  | 1 => x1
  | 2 => x2
  | 3 => x3
  | 4 => x4
  | 5 => x5
  | _ => x6
/-- an int as the answer, the world at other places -/
abbrev kSh (D : va_G) (r : Int32) (b0 : Nat) (F : (Nat → Nat) → va_W) (A : Nat → Prop) : Array Value → State → Outcome → State → Prop := va_Qi (fun (r' : Int32) (u : Nat → Nat) => r' = r ∧ u 0 = b0) (fun u t => va_P D vwCl (F u) t.heap ∧ va_D A (F u)) A
/-- behind a call: the caller's world, the callee's places as it left them -/
theorem kjoin {A0 : Nat → Prop} {D : va_G} {cl : List vw_C} {ws wc ws' w1 : va_W} {H H1 : Heap} (hP : va_P D cl ws H) (hD : va_D A0 ws) (isC isR : List Nat) (hC : isC.map (fun i => ws[i]?) = wc.map some) (hC' : isC.map (fun i => ws'[i]?) = w1.map some) (wr : va_W) (hR0 : isR.map (fun i => ws[i]?) = wr.map some) (hR1 : isR.map (fun i => ws'[i]?) = wr.map some) (hcov : (List.range ws'.length).all (fun i => isC.contains i || isR.contains i) = true) (hdis : ∀ i ∈ isR, i ∉ isC) (had : ws'.map (·.1) = ws.map (·.1))
    (hk : ∀ q : Nat, q < H.size → ¬ va_A wc H.size q → H1[q]? = H[q]?) (hP1 : va_P D cl w1 H1) : va_P D cl ws' H1 ∧ va_D A0 ws' := by
  have hR : isR.map (fun i => ws'[i]?) = isR.map (fun i => ws[i]?) := hR1.trans hR0.symm
  have hadr : ∀ (k : Nat) (q : Nat × va_E), ws'[k]? = some q → ∃ q0, ws[k]? = some q0 ∧ q0.1 = q.1 := by
    intro k q hq
    have h1 : (ws'.map (·.1))[k]? = some q.1 := by rw [List.getElem?_map, hq]; rfl
    rw [had, List.getElem?_map] at h1
    cases h2 : ws[k]? with
    | none => rw [h2] at h1; cases h1
    | some q0 => rw [h2] at h1; exact ⟨q0, rfl, Option.some.inj h1⟩
  have pick : ∀ {is : List Nat} {w wx : va_W}, is.map (fun i => wx[i]?) = w.map some → ∀ (k : Nat) (i : Nat), is[k]? = some i → ∃ q, w[k]? = some q ∧ wx[i]? = some q := by
    intro is w wx hs k i hi
    have h1 : (is.map (fun i => wx[i]?))[k]? = some (wx[i]?) := by rw [List.getElem?_map, hi]; rfl
    rw [hs, List.getElem?_map] at h1
    cases hq : w[k]? with
    | none => rw [hq] at h1; cases h1
    | some q => rw [hq] at h1; exact ⟨q, rfl, (Option.some.inj h1).symm⟩
  have back : ∀ {is : List Nat} {w wx : va_W}, is.map (fun i => wx[i]?) = w.map some → ∀ (k : Nat) (q : Nat × va_E), w[k]? = some q → ∃ i, is[k]? = some i ∧ wx[i]? = some q := by
    intro is w wx hs k q hq
    have h1 : (is.map (fun i => wx[i]?))[k]? = some (some q) := by rw [hs, List.getElem?_map, hq]; rfl
    rw [List.getElem?_map] at h1
    cases hi : is[k]? with
    | none => rw [hi] at h1; cases h1
    | some i => rw [hi] at h1; exact ⟨i, rfl, Option.some.inj h1⟩
  refine ⟨fun k q hq => ?_, ⟨fun i j x y hi hj hxy => ?_, fun k q hq => ?_⟩⟩
  · have hl : k < ws'.length := (List.getElem?_eq_some_iff.mp hq).1
    have hc := List.all_eq_true.mp hcov k (List.mem_range.mpr hl)
    by_cases hkC : k ∈ isC
    · obtain ⟨j, hj⟩ := List.getElem?_of_mem hkC
      obtain ⟨q', h1, h2⟩ := pick hC' j k hj
      rw [hq] at h2
      cases h2
      exact hP1 j q h1
    · have hkR : k ∈ isR := by
        simp only [Bool.or_eq_true, List.contains_iff_mem] at hc
        exact hc.resolve_left hkC
      obtain ⟨j, hj⟩ := List.getElem?_of_mem hkR
      have h3 : ws[k]? = some q := by
        have e1 : (isR.map (fun i => ws'[i]?))[j]? = some (some q) := by rw [List.getElem?_map, hj]; simp [hq]
        rw [hR, List.getElem?_map, hj] at e1
        exact Option.some.inj e1
      have hlt := (hP k q h3).lt
      refine (hP k q h3).kept (hk q.1 hlt (fun h => ?_))
      rcases h with ⟨k2, e, h⟩ | h
      · obtain ⟨i2, h4, h5⟩ := back hC k2 (q.1, e) h
        have := hD.1 k i2 q (q.1, e) h3 h5 rfl
        subst this
        exact hkC (List.mem_of_getElem? h4)
      · omega
  · obtain ⟨x0, h1, h2⟩ := hadr i x hi
    obtain ⟨y0, h3, h4⟩ := hadr j y hj
    exact hD.1 i j x0 y0 h1 h3 (h2.trans (hxy.trans h4.symm))
  · obtain ⟨q0, h1, h2⟩ := hadr k q hq
    rw [← h2]
    exact hD.2 k q0 h1
theorem kb_all (ws : List Cond) (ps : List Nat) (hp : ws = ps.filterMap (fun i => lw_tbl[i]?)) (h : ws.all goodWord = true) : ∀ w ∈ ws, w ∈ kBIG := fun w hw => by
  have h1 := List.all_eq_true.mp h w hw
  rw [hp] at hw
  obtain ⟨i, -, hi⟩ := List.mem_filterMap.mp hw
  exact kb_in i ⟨hi, h1⟩
abbrev kSt (y : MethodName) (cc : ByteArray) (maxL : Nat) (ret : Option FieldType) (n : Nat) : Prop := Cond.code y cc maxL ret ∈ kBIG ∧ Cond.static y ∈ kBIG ∧ Cond.initialized y.cls ∈ kBIG ∧ y.cls ≠ "java/lang/invoke/MethodHandle" ∧ y.cls ≠ "java/lang/invoke/VarHandle" ∧ (parseMethodDescriptor y.desc).map (fun d => d.parameters.length) = some n
abbrev kVt (y : MethodName) (cc : ByteArray) (maxL : Nat) (ret : Option FieldType) (n : Nat) : Prop := Cond.code y cc maxL ret ∈ kBIG ∧ Cond.instanceMethod y ∈ kBIG ∧ Cond.selects y.cls y y ∈ kBIG ∧ Cond.initialized y.cls ∈ kBIG ∧ y.cls ≠ "java/lang/invoke/MethodHandle" ∧ y.cls ≠ "java/lang/invoke/VarHandle" ∧ (parseMethodDescriptor y.desc).map (fun d => d.parameters.length) = some n
theorem kgood {c0 : Cond} {y : MethodName} {cc : ByteArray} {maxL : Nat} {ret : Option FieldType} (h : Cond.code y cc maxL ret ∈ kBIG) : GoodIn (c0 :: kBIG) (kWs y cc maxL ret) := fun w hw => by
  rcases List.mem_cons.mp hw with e | hw
  · rw [e]; exact ⟨List.mem_cons_of_mem _ h, good_of_word (kBIG_good h)⟩
  · exact ⟨List.mem_cons_of_mem _ hw, good_of_word (kBIG_good hw)⟩
section KW
variable {R : Room} {s : State} {args : Array Value} {c0 : Cond} {own : String} {index maxL mc ms n : Nat} {y : MethodName} {cc : ByteArray} {ret : Option FieldType} {rm : Room}
theorem kcwV (ht : ∀ w ∈ c0 :: kBIG, w.before args s = true) (hl : Cond.methodLink own index y ∈ kBIG) (q : kVt y cc maxL ret n) (hrc : rm.cells = mc) (hrs : rm.slots = ms) (hR : rm.frames + 1 ≤ R.frames ∧ 8 + (maxL + 11) + rm.locals ≤ R.locals) : CallW R s args own y.cls index y cc maxL ret (kWs y cc maxL ret) rm mc ms n :=
  ⟨callB_of n ht (kgood q.1) rfl hrc hrs (ht _ (List.mem_cons_of_mem _ q.2.2.2.1)) (ht _ (List.mem_cons_of_mem _ hl)) q.2.2.2.2 hR, ht _ (List.mem_cons_of_mem _ q.2.1), ht _ (List.mem_cons_of_mem _ q.2.2.1)⟩
theorem kcwS (ht : ∀ w ∈ c0 :: kBIG, w.before args s = true) (hl : Cond.methodLink own index y ∈ kBIG) (q : kSt y cc maxL ret n) (hrc : rm.cells = mc) (hrs : rm.slots = ms) (hR : rm.frames + 1 ≤ R.frames ∧ 8 + (maxL + 11) + rm.locals ≤ R.locals) : CallB R s args own index y cc maxL ret (kWs y cc maxL ret) rm mc ms n ∧ (Cond.static y).before args s = true :=
  ⟨callB_of n ht (kgood q.1) rfl hrc hrs (ht _ (List.mem_cons_of_mem _ q.2.2.1)) (ht _ (List.mem_cons_of_mem _ hl)) q.2.2.2 hR, ht _ (List.mem_cons_of_mem _ q.2.1)⟩
theorem kcwN {host : String} (ht : ∀ w ∈ c0 :: kBIG, w.before args s = true) (hl : va_Nw (.methodLinkNest own index y host) s) (q : kSt y cc maxL ret n) (hrc : rm.cells = mc) (hrs : rm.slots = ms) (hR : rm.frames + 1 ≤ R.frames ∧ 8 + (maxL + 11) + rm.locals ≤ R.locals) : va_CN R s args own index y host cc maxL ret (kWs y cc maxL ret) rm mc ms n ∧ (Cond.static y).before args s = true ∧ True :=
  ⟨va_cnB n ht (kgood q.1) rfl hrc hrs hl (ht _ (List.mem_cons_of_mem _ q.2.2.1)) q.2.2.2 hR, ht _ (List.mem_cons_of_mem _ q.2.1), trivial⟩
end KW
/-- the same for a method of a class that has natives' rows for other methods (java/lang/Math) -/
theorem kofW {l : Launch} {y : MethodName} {ws ws' : List Cond} {rm : Room} {Pc : Array Value → State → Prop} {Qc : Array Value → State → Outcome → State → Prop} {mc ms : Nat} {free : Addr → Prop} {cc : ByteArray} {maxL : Nat} {ret : Option FieldType}
    (hy : plainFor y = true) (hw : ws = Cond.code y cc maxL ret :: ws')
    (body : ∀ p e s m args below meth c s₁, BodyLoose p l y (headSpec ws rm) cc maxL ret e s m args below meth c s₁ → c.maxLocals = maxL → Pc args s →
      W p l e (headSpec ws rm).room s m args below meth c s.heap [] 0 0 (MQ below Qc args s mc ms free) (entryFrame m args maxL)) : Met l y ws rm Pc Qc mc ms free := by
  refine MetFree.of_bodySF (code := cc) (maxLocals := maxL) (ret := ret) hy ?_ ?_
  · intro args s m h hn
    obtain ⟨meth, c, h1, h2, h3, h4, h5, h6, -, -⟩ := Cond.code_spec hn (atoms_spec (ws := ws) h _ (by rw [hw]; exact List.mem_cons_self))
    exact ⟨meth, c, h1, h2, h3, h4, h5, h6⟩
  · intro p e s m args below meth c s₁ B hml hP _
    have hh0 : s₁.heap = s.heap := by rw [B.state]; rfl
    obtain ⟨t, a1, o, b1, b2, b3⟩ := body p e s m args below meth c s₁ B hml hP s₁ hh0 (Stand.of_body B)
    exact ⟨t, o, a1, b1, b2, ⟨b3.1, b3.2⟩⟩
theorem ix_lt {x : Int32} {n : Nat} (h : ix x n) : x.toNatClampNeg < n := Nat.not_le.mp fun q => ix_in h (Or.inr q)
theorem kn_pos {x : Int32} {n : Nat} (h : ix x n) : ¬ x < 0 := fun q => ix_in h (Or.inl q)
theorem kn_by {x : Int32} {n k m : Nat} (g : ix x n) (h : n * k ≤ m) : x.toNatClampNeg * k ≤ m := Nat.le_trans (Nat.mul_le_mul_right _ (Nat.le_of_lt (ix_lt g))) h
theorem kn_slg {x : Int32} {a b n : Nat} (g : ix x (n + 1)) (h : a + n ≤ b) : a + x.toNatClampNeg ≤ b := by have := ix_lt g; omega
theorem kn_sl {x : Int32} {a b : Nat} (g : ix x 17) (h : a + 16 ≤ b) : a + x.toNatClampNeg ≤ b := by have := ix_lt g; omega
theorem k_cA {D : va_G} {cl : List vw_C} {cB cI cJ cZ cA : ClassId} {ty : FieldType} {s : State} (hK : va_K D cl (kTy cB cI cJ cZ ++ [(cA, ty)]) s) (t0 : Nat) {cX : ClassId} (ht : (kTy cB cI cJ cZ)[t0]? = some (cX, ty)) : cA = cX := by
  have h4 := (hK.2 4 (cA, ty) rfl).2
  have h0 := (hK.2 t0 (cX, ty) (by rcases t0 with _ | _ | _ | _ | t0 <;> first | exact ht | cases ht)).2
  rcases t0 with _ | _ | _ | _ | t0
  · cases ht
    exact Option.some.inj ((show s.vm.findClass _ = some cA from h4).symm.trans (show s.vm.findClass _ = some cB from h0))
  · cases ht
    exact Option.some.inj ((show s.vm.findClass _ = some cA from h4).symm.trans (show s.vm.findClass _ = some cI from h0))
  · cases ht
    exact Option.some.inj ((show s.vm.findClass _ = some cA from h4).symm.trans (show s.vm.findClass _ = some cJ from h0))
  · cases ht
    exact Option.some.inj ((show s.vm.findClass _ = some cA from h4).symm.trans (show s.vm.findClass _ = some cZ from h0))
  · cases ht
section KB
variable {p : Program} {l : Launch} {e0 : Env} {R : Room} {s : State} {m : MethodId} {args : Array Value} {below : List Frame} {meth : Method} {c : Code} {H : Heap} {locs : List Loc} {cells slots : Nat} {Q : State → Prop}
variable {cc : ByteArray} {pc : Nat} {ls : Array Slot} {rest st0 : List Value} {D : va_G} {A A0 : Nat → Prop} {tys : List (ClassId × FieldType)} {ws wc ws' w1 : va_W} {H0 : Heap} {a : Array Value} {mc ms : Nat}
theorem kcall_i {ty : FieldType} {r : Int32} (ws' : va_W) (hr : va_Run p l e0 R s m args below meth c H locs cells slots mc ms (F0 m pc ls st0) rest (kI D ty r w1 (va_A wc H.size) a) (va_A wc H.size)) (hP : va_P D vwCl ws H) (hD : va_D A0 ws) (hS : va_S A0 H0 H locs) (hA : ∀ q, H0.size ≤ q → A0 q) (isC isR : List Nat) (hC : isC.map (fun i => ws[i]?) = wc.map some) (hC' : isC.map (fun i => ws'[i]?) = w1.map some) (wr : va_W) (hR0 : isR.map (fun i => ws[i]?) = wr.map some) (hR1 : isR.map (fun i => ws'[i]?) = wr.map some) (hcov : (List.range ws'.length).all (fun i => isC.contains i || isR.contains i) = true) (hdis : ∀ i ∈ isR, i ∉ isC) (had : ws'.map (·.1) = ws.map (·.1))
    (kk : ∀ (H1 : Heap) (locs1 : List Loc), va_P D vwCl ws' H1 → va_D A0 ws' → va_S A0 H0 H1 locs1 → narrow ty (.int r) = .int r → W p l e0 R s m args below meth c H1 locs1 (cells + mc) (slots + ms) Q (F0 m (pc + 3) ls (.int r :: rest))) : W p l e0 R s m args below meth c H locs cells slots Q (F0 m pc ls st0) := by
  have hF := va_free (wc := wc) hD hS hA isC hC
  refine va_calli hr hS (fun q _ h => hF q h) hF (fun r' u t H1 locs1 ht hvm hw hB hz hk hS1 => ?_)
  obtain ⟨rfl, hn⟩ := hw
  rw [ht] at hB
  obtain ⟨hP1, hD1⟩ := kjoin hP hD isC isR hC hC' wr hR0 hR1 hcov hdis had hk hB
  exact kk H1 locs1 hP1 hD1 hS1 hn
theorem kcall_l {r : Int64} (ws' : va_W) (hr : va_Run p l e0 R s m args below meth c H locs cells slots mc ms (F0 m pc ls st0) rest (kL D r w1 (va_A wc H.size) a) (va_A wc H.size)) (hP : va_P D vwCl ws H) (hD : va_D A0 ws) (hS : va_S A0 H0 H locs) (hA : ∀ q, H0.size ≤ q → A0 q) (isC isR : List Nat) (hC : isC.map (fun i => ws[i]?) = wc.map some) (hC' : isC.map (fun i => ws'[i]?) = w1.map some) (wr : va_W) (hR0 : isR.map (fun i => ws[i]?) = wr.map some) (hR1 : isR.map (fun i => ws'[i]?) = wr.map some) (hcov : (List.range ws'.length).all (fun i => isC.contains i || isR.contains i) = true) (hdis : ∀ i ∈ isR, i ∉ isC) (had : ws'.map (·.1) = ws.map (·.1))
    (kk : ∀ (H1 : Heap) (locs1 : List Loc), va_P D vwCl ws' H1 → va_D A0 ws' → va_S A0 H0 H1 locs1 → W p l e0 R s m args below meth c H1 locs1 (cells + mc) (slots + ms) Q (F0 m (pc + 3) ls (.long r :: rest))) : W p l e0 R s m args below meth c H locs cells slots Q (F0 m pc ls st0) := by
  have hF := va_free (wc := wc) hD hS hA isC hC
  refine va_calll hr hS (fun q _ h => hF q h) hF (fun r' u t H1 locs1 ht hvm hw hB hz hk hS1 => ?_)
  obtain rfl := hw
  rw [ht] at hB
  obtain ⟨hP1, hD1⟩ := kjoin hP hD isC isR hC hC' wr hR0 hR1 hcov hdis had hk hB
  exact kk H1 locs1 hP1 hD1 hS1
theorem kcall_v (ws' : va_W) (hr : va_Run p l e0 R s m args below meth c H locs cells slots mc ms (F0 m pc ls st0) rest (kV D w1 (va_A wc H.size) a) (va_A wc H.size)) (hP : va_P D vwCl ws H) (hD : va_D A0 ws) (hS : va_S A0 H0 H locs) (hA : ∀ q, H0.size ≤ q → A0 q) (isC isR : List Nat) (hC : isC.map (fun i => ws[i]?) = wc.map some) (hC' : isC.map (fun i => ws'[i]?) = w1.map some) (wr : va_W) (hR0 : isR.map (fun i => ws[i]?) = wr.map some) (hR1 : isR.map (fun i => ws'[i]?) = wr.map some) (hcov : (List.range ws'.length).all (fun i => isC.contains i || isR.contains i) = true) (hdis : ∀ i ∈ isR, i ∉ isC) (had : ws'.map (·.1) = ws.map (·.1))
    (kk : ∀ (H1 : Heap) (locs1 : List Loc), va_P D vwCl ws' H1 → va_D A0 ws' → va_S A0 H0 H1 locs1 → W p l e0 R s m args below meth c H1 locs1 (cells + mc) (slots + ms) Q (F0 m (pc + 3) ls rest)) : W p l e0 R s m args below meth c H locs cells slots Q (F0 m pc ls st0) := by
  have hF := va_free (wc := wc) hD hS hA isC hC
  refine va_callv hr hS (fun q _ h => hF q h) hF (fun u t H1 locs1 ht hvm hw hB hz hk hS1 => ?_)
  rw [ht] at hB
  obtain ⟨hP1, hD1⟩ := kjoin hP hD isC isR hC hC' wr hR0 hR1 hcov hdis had hk hB
  exact kk H1 locs1 hP1 hD1 hS1
/-- an answer that is a new array -/
theorem kcall_r {e : va_E} (ws' : va_W) (hr : va_Run p l e0 R s m args below meth c H locs cells slots mc ms (F0 m pc ls st0) rest (kR D e w1 (va_A wc H.size) a) (va_A wc H.size)) (hP : va_P D vwCl ws H) (hD : va_D A0 ws) (hS : va_S A0 H0 H locs) (hA : ∀ q, H0.size ≤ q → A0 q) (isC isR : List Nat) (hC : isC.map (fun i => ws[i]?) = wc.map some) (hC' : isC.map (fun i => ws'[i]?) = w1.map some) (wr : va_W) (hR0 : isR.map (fun i => ws[i]?) = wr.map some) (hR1 : isR.map (fun i => ws'[i]?) = wr.map some) (hcov : (List.range ws'.length).all (fun i => isC.contains i || isR.contains i) = true) (hdis : ∀ i ∈ isR, i ∉ isC) (had : ws'.map (·.1) = ws.map (·.1)) (hw : w1.map (·.1) = wc.map (·.1))
    (kk : ∀ (ra : Nat) (H1 : Heap) (locs1 : List Loc), va_P D vwCl (ws' ++ [(ra, e)]) H1 → va_D A0 (ws' ++ [(ra, e)]) → va_S A0 H0 H1 locs1 → W p l e0 R s m args below meth c H1 locs1 (cells + mc) (slots + ms) Q (F0 m (pc + 3) ls (.ref ra :: rest))) : W p l e0 R s m args below meth c H locs cells slots Q (F0 m pc ls st0) := by
  have hF := va_free (wc := wc) hD hS hA isC hC
  refine va_callr hr hS (fun q _ h => hF q h) hF (fun u ra t H1 locs1 ht hvm hw0 hB hz hk hS1 => ?_)
  obtain ⟨hB, hDB⟩ := hB
  rw [ht] at hB
  have hlast : (w1 ++ [(ra, e)])[w1.length]? = some (ra, e) := by simp
  have hleft : ∀ (k : Nat) (q : Nat × va_E), w1[k]? = some q → (w1 ++ [(ra, e)])[k]? = some q := fun k q h => by rw [List.getElem?_append_left (List.getElem?_eq_some_iff.mp h).1]; exact h
  obtain ⟨hP1, hD1⟩ := kjoin hP hD isC isR hC hC' wr hR0 hR1 hcov hdis had hk (fun k q h => hB k q (hleft k q h))
  have hra : H.size ≤ ra := by
    rcases hDB.2 w1.length (ra, e) hlast with ⟨k, e1, h⟩ | h
    · exfalso
      have h1 : (wc.map (·.1))[k]? = some ra := by rw [List.getElem?_map, h]; rfl
      rw [← hw, List.getElem?_map] at h1
      cases h2 : w1[k]? with
      | none => rw [h2] at h1; cases h1
      | some q =>
        rw [h2] at h1
        have h3 := hDB.1 k w1.length q (ra, e) (hleft k q h2) hlast (Option.some.inj h1)
        have h4 := (List.getElem?_eq_some_iff.mp h2).1
        omega
    · exact h
  have hlt : ∀ (k : Nat) (q : Nat × va_E), ws'[k]? = some q → q.1 < H.size := by
    intro k q hq
    have h1 : (ws'.map (·.1))[k]? = some q.1 := by rw [List.getElem?_map, hq]; rfl
    rw [had, List.getElem?_map] at h1
    cases h2 : ws[k]? with
    | none => rw [h2] at h1; cases h1
    | some q0 =>
      rw [h2] at h1
      have h3 := (hP k q0 h2).lt
      have h4 : q0.1 = q.1 := Option.some.inj h1
      omega
  have hone : ∀ (k : Nat) (q : Nat × va_E), ([(ra, e)] : va_W)[k]? = some q → q = (ra, e) := fun k q h => by
    cases k with
    | zero => exact (Option.some.inj h).symm
    | succ k => simp at h
  refine kk ra H1 locs1 (hP1.app (fun k q h => ?_)) (hD1.app ⟨fun i j x y hi hj _ => ?_, fun k q h => ?_⟩ (fun i j x y hi hj => ?_)) hS1
  · rw [hone k q h]; exact hB _ _ hlast
  · have := (List.getElem?_eq_some_iff.mp hi).1
    have := (List.getElem?_eq_some_iff.mp hj).1
    simp at *
    omega
  · rw [hone k q h]; exact hA ra (Nat.le_trans hS.1 hra)
  · have h1 := hlt i x hi
    rw [hone j y hj]
    show x.1 ≠ ra
    omega
/-- ends -/
theorem kret_i {ty : FieldType} {v : Int32} (hx : p.tables.exec = Jvm.exec) (hb : c.code = cc) (hr : meth.sig.returnType = some ty) (hn : narrow ty (.int v) = .int v) (hlocks : meth.locks = false) (hS : va_S A s.heap H locs) (hP : va_P D vwCl ws H) (hd : decode cc pc = .ok (.ireturn, 1)) : W p l e0 R s m args below meth c H locs cells slots (MQ below (kI D ty v ws A) args s cells slots A) (F0 m pc ls [.int v]) :=
  W.zret (v := v) hx hb hr hn (fun t ht _ => ⟨⟨v, (), rfl, ⟨rfl, hn⟩, by show va_P D vwCl ws t.heap; rw [ht]; exact hP⟩, hS.F ht⟩) hS.2.2 hd hlocks
theorem kret_sh {v : Int32} {u : Nat → Nat} {b0 : Nat} {F : (Nat → Nat) → va_W} (hx : p.tables.exec = Jvm.exec) (hb : c.code = cc) (hr : meth.sig.returnType = some .int) (hlocks : meth.locks = false) (hS : va_S A s.heap H locs) (hu : u 0 = b0) (hP : va_P D vwCl (F u) H) (hD : va_D A (F u)) (hd : decode cc pc = .ok (.ireturn, 1)) : W p l e0 R s m args below meth c H locs cells slots (MQ below (kSh D v b0 F A) args s cells slots A) (F0 m pc ls [.int v]) :=
  W.iret (v := v) hx hb hr (fun t ht _ => ⟨⟨v, u, rfl, ⟨rfl, hu⟩, by show va_P D vwCl (F u) t.heap; rw [ht]; exact hP, hD⟩, hS.F ht⟩) hS.2.2 hd hlocks
theorem kret_l {v : Int64} (hx : p.tables.exec = Jvm.exec) (hb : c.code = cc) (hr : meth.sig.returnType = some .long) (hlocks : meth.locks = false) (hS : va_S A s.heap H locs) (hP : va_P D vwCl ws H) (hd : decode cc pc = .ok (.lreturn, 1)) : W p l e0 R s m args below meth c H locs cells slots (MQ below (kL D v ws A) args s cells slots A) (F0 m pc ls [.long v]) :=
  W.lret (v := v) hx hb hr (fun t ht _ => ⟨⟨v, (), rfl, rfl, by show va_P D vwCl ws t.heap; rw [ht]; exact hP⟩, hS.F ht⟩) hS.2.2 hd hlocks
theorem kret_v (hx : p.tables.exec = Jvm.exec) (hb : c.code = cc) (hr : meth.sig.returnType = none) (hlocks : meth.locks = false) (hS : va_S A s.heap H locs) (hP : va_P D vwCl ws H) (hd : decode cc pc = .ok (.return_, 1)) : W p l e0 R s m args below meth c H locs cells slots (MQ below (kV D ws A) args s cells slots A) (F0 m pc ls []) :=
  W.vret hx hb hr (fun t ht _ => ⟨⟨(), rfl, trivial, by show va_P D vwCl ws t.heap; rw [ht]; exact hP⟩, hS.F ht⟩) hS.2.2 hd hlocks
theorem kret_r {q : Nat} {e : va_E} {rt : FieldType} (hx : p.tables.exec = Jvm.exec) (hb : c.code = cc) (hr : meth.sig.returnType = some rt) (hrt : (∃ n, rt = .object n) ∨ ∃ t, rt = .array t) (hlocks : meth.locks = false) (hS : va_S A s.heap H locs) (hP : va_P D vwCl (ws ++ [(q, e)]) H) (hD : va_D A (ws ++ [(q, e)])) (hd : decode cc pc = .ok (.areturn, 1)) : W p l e0 R s m args below meth c H locs cells slots (MQ below (kR D e ws A) args s cells slots A) (F0 m pc ls [.ref q]) :=
  W.aret (v := .ref q) hx hb hr hrt (Or.inr ⟨q, rfl⟩) (fun t ht _ => ⟨⟨(), q, rfl, trivial, by rw [ht]; exact hP, hD⟩, hS.F ht⟩) hS.2.2 hd hlocks
/-- lcmp and the branch behind it -/
theorem lc_ge {x y : Int64} : 0 ≤ lg_cmp x y ↔ y ≤ x := by
  unfold lg_cmp
  by_cases h : y < x
  · simp [h, Int64.le_of_lt h]
  · by_cases h2 : x = y
    · simp [h2]
    · have : ¬ y ≤ x := fun h3 => h2 (Int64.le_antisymm (Int64.not_lt.mp h) h3)
      simp [h, h2, this]
theorem lc_gt {x y : Int64} : 0 < lg_cmp x y ↔ y < x := by
  unfold lg_cmp
  by_cases h : y < x
  · simp [h]
  · by_cases h2 : x = y
    · simp [h2]
    · simp [h, h2]
theorem lc_eq {x y : Int64} : lg_cmp x y = 0 ↔ x = y := by
  unfold lg_cmp
  by_cases h : y < x
  · have : ¬ x = y := fun h3 => by subst h3; exact absurd h (Int64.lt_irrefl)
    simp [h, this]
  · by_cases h2 : x = y
    · simp [h2]
    · simp [h, h2]
theorem lc_lt {x y : Int64} : lg_cmp x y < 0 ↔ x < y := by
  have h := lc_ge (x := x) (y := y)
  rw [← Int32.not_le, h, Int64.not_le]
theorem lc_le {x y : Int64} : lg_cmp x y ≤ 0 ↔ x ≤ y := by
  have h := lc_gt (x := x) (y := y)
  rw [← Int32.not_lt, h, Int64.not_lt]
theorem kl_ge (hx : p.tables.exec = Jvm.exec) (hb : c.code = cc) {x y : Int64} {off : Int} {tgt : Nat} (d0 : decode cc pc = .ok (.lcmp, 1)) (d1 : decode cc (pc + 1) = .ok (.ifCond .ge off, 3)) (ht : ((pc + 1 : Nat) : Int) + off = (tgt : Int)) (kt : y ≤ x → W p l e0 R s m args below meth c H locs cells slots Q (F0 m tgt ls rest)) (kf : ¬ y ≤ x → W p l e0 R s m args below meth c H locs cells slots Q (F0 m (pc + 4) ls rest)) : W p l e0 R s m args below meth c H locs cells slots Q (F0 m pc ls (.long y :: .long x :: rest)) :=
  W.lcmp hx hb d0 (lv_if_ge (tgt := tgt) hx hb d1 ht (fun h => kt (lc_ge.mp h)) (fun h => kf (fun z => h (lc_ge.mpr z))))
theorem kl_lt (hx : p.tables.exec = Jvm.exec) (hb : c.code = cc) {x y : Int64} {off : Int} {tgt : Nat} (d0 : decode cc pc = .ok (.lcmp, 1)) (d1 : decode cc (pc + 1) = .ok (.ifCond .lt off, 3)) (ht : ((pc + 1 : Nat) : Int) + off = (tgt : Int)) (kt : x < y → W p l e0 R s m args below meth c H locs cells slots Q (F0 m tgt ls rest)) (kf : ¬ x < y → W p l e0 R s m args below meth c H locs cells slots Q (F0 m (pc + 4) ls rest)) : W p l e0 R s m args below meth c H locs cells slots Q (F0 m pc ls (.long y :: .long x :: rest)) :=
  W.lcmp hx hb d0 (lv_if_lt (tgt := tgt) hx hb d1 ht (fun h => kt (lc_lt.mp h)) (fun h => kf (fun z => h (lc_lt.mpr z))))
theorem kl_gt (hx : p.tables.exec = Jvm.exec) (hb : c.code = cc) {x y : Int64} {off : Int} {tgt : Nat} (d0 : decode cc pc = .ok (.lcmp, 1)) (d1 : decode cc (pc + 1) = .ok (.ifCond .gt off, 3)) (ht : ((pc + 1 : Nat) : Int) + off = (tgt : Int)) (kt : y < x → W p l e0 R s m args below meth c H locs cells slots Q (F0 m tgt ls rest)) (kf : ¬ y < x → W p l e0 R s m args below meth c H locs cells slots Q (F0 m (pc + 4) ls rest)) : W p l e0 R s m args below meth c H locs cells slots Q (F0 m pc ls (.long y :: .long x :: rest)) :=
  W.lcmp hx hb d0 (lv_if_gt (tgt := tgt) hx hb d1 ht (fun h => kt (lc_gt.mp h)) (fun h => kf (fun z => h (lc_gt.mpr z))))
theorem kl_le (hx : p.tables.exec = Jvm.exec) (hb : c.code = cc) {x y : Int64} {off : Int} {tgt : Nat} (d0 : decode cc pc = .ok (.lcmp, 1)) (d1 : decode cc (pc + 1) = .ok (.ifCond .le off, 3)) (ht : ((pc + 1 : Nat) : Int) + off = (tgt : Int)) (kt : x ≤ y → W p l e0 R s m args below meth c H locs cells slots Q (F0 m tgt ls rest)) (kf : ¬ x ≤ y → W p l e0 R s m args below meth c H locs cells slots Q (F0 m (pc + 4) ls rest)) : W p l e0 R s m args below meth c H locs cells slots Q (F0 m pc ls (.long y :: .long x :: rest)) :=
  W.lcmp hx hb d0 (lv_if_le (tgt := tgt) hx hb d1 ht (fun h => kt (lc_le.mp h)) (fun h => kf (fun z => h (lc_le.mpr z))))
theorem kl_eq (hx : p.tables.exec = Jvm.exec) (hb : c.code = cc) {x y : Int64} {off : Int} {tgt : Nat} (d0 : decode cc pc = .ok (.lcmp, 1)) (d1 : decode cc (pc + 1) = .ok (.ifCond .eq off, 3)) (ht : ((pc + 1 : Nat) : Int) + off = (tgt : Int)) (kt : x = y → W p l e0 R s m args below meth c H locs cells slots Q (F0 m tgt ls rest)) (kf : ¬ x = y → W p l e0 R s m args below meth c H locs cells slots Q (F0 m (pc + 4) ls rest)) : W p l e0 R s m args below meth c H locs cells slots Q (F0 m pc ls (.long y :: .long x :: rest)) :=
  W.lcmp hx hb d0 (lv_if_eq (tgt := tgt) hx hb d1 ht (fun h => kt (lc_eq.mp h)) (fun h => kf (fun z => h (lc_eq.mpr z))))
theorem kl_ne (hx : p.tables.exec = Jvm.exec) (hb : c.code = cc) {x y : Int64} {off : Int} {tgt : Nat} (d0 : decode cc pc = .ok (.lcmp, 1)) (d1 : decode cc (pc + 1) = .ok (.ifCond .ne off, 3)) (ht : ((pc + 1 : Nat) : Int) + off = (tgt : Int)) (kt : ¬ x = y → W p l e0 R s m args below meth c H locs cells slots Q (F0 m tgt ls rest)) (kf : x = y → W p l e0 R s m args below meth c H locs cells slots Q (F0 m (pc + 4) ls rest)) : W p l e0 R s m args below meth c H locs cells slots Q (F0 m pc ls (.long y :: .long x :: rest)) :=
  W.lcmp hx hb d0 (lv_if_ne (tgt := tgt) hx hb d1 ht (fun h => kt (fun z => h (lc_eq.mpr z))) (fun h => kf (lc_eq.mp h)))
end KB
abbrev wRow (cJ cZ : ClassId) (h0 h1 h2 h3 : Nat) (rb re : Nat → Int64) (ro : Nat → Int32) (rc : Int32) : va_W := [(h0, .inr (2, [.ref h1, .ref h2, .ref h3, .int rc])), (h1, .inl (cJ, 11, .inr (.inl rb))), (h2, .inl (cJ, 11, .inr (.inl re))), (h3, .inl (cZ, 11, .inl ro))]
abbrev wSB (cI cJ cZ : ClassId) (a : Nat → Nat) (ce : Nat → Int64) (fr un : Int64) (sb se : Nat → Int64) (so : Nat → Int32) (sc : Int32) (wb we : Nat → Int64) (wo : Nat → Int32) (wc : Int32) (fb fe : Nat → Int64) (fo : Nat → Int32) (fc : Int32) (rm : Nat → Int32) (ac rf kn : Int32) : va_W :=
  [(a 0, .inr (3, [.ref (a 1), .long fr, .long un, .ref (a 2), .ref (a 6), .ref (a 10), .ref (a 14), .int ac, .int rf, .int kn])), (a 1, .inl (cJ, 4, .inr (.inl ce))),
   (a 2, .inr (2, [.ref (a 3), .ref (a 4), .ref (a 5), .int sc])), (a 3, .inl (cJ, 11, .inr (.inl sb))), (a 4, .inl (cJ, 11, .inr (.inl se))), (a 5, .inl (cZ, 11, .inl so)),
   (a 6, .inr (2, [.ref (a 7), .ref (a 8), .ref (a 9), .int wc])), (a 7, .inl (cJ, 11, .inr (.inl wb))), (a 8, .inl (cJ, 11, .inr (.inl we))), (a 9, .inl (cZ, 11, .inl wo)),
   (a 10, .inr (2, [.ref (a 11), .ref (a 12), .ref (a 13), .int fc])), (a 11, .inl (cJ, 11, .inr (.inl fb))), (a 12, .inl (cJ, 11, .inr (.inl fe))), (a 13, .inl (cZ, 11, .inl fo)),
   (a 14, .inl (cI, 11, .inl rm))]
abbrev wMo (cJ cZ : ClassId) (b : Nat → Nat) (mce : Nat → Int64) (mfr mun : Int64) (mbe men : Nat → Int64) (mov : Nat → Int32) (msp : Int32) (mwb mwe : Nat → Int64) (mwi mac mre mkn mth : Int32) : va_W :=
  [(b 0, .inr (5, [.ref (b 1), .long mfr, .long mun, .ref (b 2), .ref (b 3), .ref (b 4), .int msp, .ref (b 5), .ref (b 6), .int mwi, .int mac, .int mre, .int mkn, .int mth])), (b 1, .inl (cJ, 4, .inr (.inl mce))),
   (b 2, .inl (cJ, 10, .inr (.inl mbe))), (b 3, .inl (cJ, 10, .inr (.inl men))), (b 4, .inl (cZ, 10, .inl mov)), (b 5, .inl (cJ, 8, .inr (.inl mwb))), (b 6, .inl (cJ, 8, .inr (.inl mwe)))]
/-! throwing: what a thrower needs of the machine, calls that throw -/
def xb {α β : Type} (o : Option α) (k1 : α → Option β) (k2 : Option β) : Option β := match o with
  | some a => k1 a
  | none => k2
theorem g_x {α β : Type} {o : Option α} {k1 : α → Option β} {k2 : Option β} {r : β} (h : xb o k1 k2 = some r) : (∃ a, o = some a ∧ k1 a = some r) ∨ (o = none ∧ k2 = some r) := by
  cases o with
  | some a => exact Or.inl ⟨a, rfl, h⟩
  | none => exact Or.inr ⟨rfl, h⟩
abbrev kN : List String := ["java/lang/RuntimeException", "java/lang/Exception"]
/-- a text of one letter that stands in the program, and is never written -/
def kSp (A : Nat → Prop) (U : State) (H : Heap) (a b : Nat) : Prop := va_O "java/lang/String" a A U H ∧ va_OF "java/lang/String" "coder" "B" (.int 0) a A U H ∧ va_OF "java/lang/String" "value" "[B" (.ref b) a A U H ∧ va_T .byte b 1 (fun _ => .int 32) A U H
theorem kSp.moved {A : Nat → Prop} {u U : State} {H : Heap} {a b : Nat} (hv : u.vm.Alike U.vm) (h : kSp A u H a b) : kSp A U H a b := ⟨h.1.moved hv, h.2.1.moved hv, h.2.2.1.moved hv, h.2.2.2.moved hv⟩
theorem kSp.kept {A : Nat → Prop} {U : State} {H H1 : Heap} {a b : Nat} (h : kSp A U H a b) (hq : ∀ a : Nat, a < H.size → ¬ A a → H1[a]? = H[a]?) : kSp A U H1 a b := ⟨h.1.kept hq, h.2.1.kept hq, h.2.2.1.kept hq, h.2.2.2.kept hq⟩
theorem kSp.narrow {A B : Nat → Prop} {U : State} {H : Heap} {a b : Nat} (h : kSp A U H a b) (hAB : ∀ q, B q → A q) : kSp B U H a b := ⟨h.1.narrow hAB, h.2.1.narrow hAB, h.2.2.1.narrow hAB, h.2.2.2.narrow hAB⟩
abbrev kOnes : Nat → Int32 := fun j => nI (48 + j % 10)
abbrev kTens : Nat → Int32 := fun j => nI (48 + j / 10)
def kTab (n : String) (f : Nat → Int32) (A : Nat → Prop) (U : State) (H : Heap) (t : Nat) : Prop := va_Z "java/lang/Integer" n "[B" (.ref t) A U H ∧ va_T .byte t 100 (fun j => .int (f j)) A U H
theorem kTab.moved {n : String} {f : Nat → Int32} {A : Nat → Prop} {u U : State} {H : Heap} {t : Nat} (hv : u.vm.Alike U.vm) (h : kTab n f A u H t) : kTab n f A U H t := ⟨h.1.moved hv, h.2.moved hv⟩
theorem kTab.kept {n : String} {f : Nat → Int32} {A : Nat → Prop} {U : State} {H H1 : Heap} {t : Nat} (h : kTab n f A U H t) (hq : ∀ a : Nat, a < H.size → ¬ A a → H1[a]? = H[a]?) : kTab n f A U H1 t := ⟨h.1.kept hq, h.2.kept hq⟩
theorem kTab.narrow {n : String} {f : Nat → Int32} {A B : Nat → Prop} {U : State} {H : Heap} {t : Nat} (h : kTab n f A U H t) (hAB : ∀ q, B q → A q) : kTab n f B U H t := ⟨h.1.narrow hAB, h.2.narrow hAB⟩
/-- what the making of a text needs of the machine -/
def kZt (A : Nat → Prop) (U : State) (H : Heap) : Prop := va_Z "java/lang/String" "COMPACT_STRINGS" "Z" (.int 1) A U H ∧ (∃ t, kTab "DigitOnes" kOnes A U H t) ∧ (∃ t, kTab "DigitTens" kTens A U H t) ∧ (∃ a, vk_R RX3 191 "" a U) ∧ ∃ a b, vk_R RX3 200 " " a U ∧ kSp A U H a b
theorem kZt.kept {A : Nat → Prop} {U : State} {H H1 : Heap} (h : kZt A U H) (hq : ∀ a : Nat, a < H.size → ¬ A a → H1[a]? = H[a]?) : kZt A U H1 := ⟨h.1.kept hq, h.2.1.imp fun _ z => z.kept hq, h.2.2.1.imp fun _ z => z.kept hq, h.2.2.2.1, h.2.2.2.2.imp fun _ z => z.imp fun _ y => ⟨y.1, y.2.kept hq⟩⟩
theorem kZt.narrow {A B : Nat → Prop} {U : State} {H : Heap} (h : kZt A U H) (hAB : ∀ q, B q → A q) : kZt B U H := ⟨h.1.narrow hAB, h.2.1.imp fun _ z => z.narrow hAB, h.2.2.1.imp fun _ z => z.narrow hAB, h.2.2.2.1, h.2.2.2.2.imp fun _ z => z.imp fun _ y => ⟨y.1, y.2.narrow hAB⟩⟩
theorem kZt.warm {A : Nat → Prop} {s U : State} {H : Heap} (hW : s.WarmedH U.vm) (h : kZt A s H) : kZt A U H := ⟨h.1.moved hW.alike, h.2.1.imp fun _ z => z.moved hW.alike, h.2.2.1.imp fun _ z => z.moved hW.alike, h.2.2.2.1.imp fun _ q => vk_R.warm hW q, h.2.2.2.2.imp fun _ z => z.imp fun _ y => ⟨vk_R.warm hW y.1, y.2.moved hW.alike⟩⟩
theorem kZt.same {A : Nat → Prop} {s U : State} {H : Heap} (hv : U.vm = s.vm) (h : kZt A s H) : kZt A U H := by
  have e : s.vm.Alike U.vm := by rw [hv]; exact Vm.Alike.refl _
  exact ⟨h.1.moved e, h.2.1.imp fun _ z => z.moved e, h.2.2.1.imp fun _ z => z.moved e, h.2.2.2.1.imp fun _ q => vk_R.same hv q, h.2.2.2.2.imp fun _ z => z.imp fun _ y => ⟨vk_R.same hv y.1, y.2.moved e⟩⟩
def kZ (A : Nat → Prop) (U : State) (H : Heap) : Prop := vx_Zq Bundle.tN "UNASSIGNED_STACK" Bundle.steD A U H ∧ vx_Zq Bundle.tN "SUPPRESSED_SENTINEL" Bundle.listD A U H ∧ (∃ a, vk_R RX1 268 "there is no such CELL" a U) ∧ (∃ a, vk_R RX1 273 "there is no such number" a U) ∧ (∃ a, vk_R RX1 277 "an argument is not one that the document lets be" a U) ∧ kZt A U H
theorem kZ.kept {A : Nat → Prop} {U : State} {H H1 : Heap} (h : kZ A U H) (hq : ∀ a : Nat, a < H.size → ¬ A a → H1[a]? = H[a]?) : kZ A U H1 := ⟨h.1.kept hq, h.2.1.kept hq, h.2.2.1, h.2.2.2.1, h.2.2.2.2.1, h.2.2.2.2.2.kept hq⟩
theorem kZ.narrow {A B : Nat → Prop} {U : State} {H : Heap} (h : kZ A U H) (hAB : ∀ q, B q → A q) : kZ B U H := ⟨h.1.narrow hAB, h.2.1.narrow hAB, h.2.2.1, h.2.2.2.1, h.2.2.2.2.1, h.2.2.2.2.2.narrow hAB⟩
theorem kZ.warm {A : Nat → Prop} {s U : State} {H : Heap} (hW : s.WarmedH U.vm) (h : kZ A s H) : kZ A U H :=
  ⟨h.1.moved hW.alike, h.2.1.moved hW.alike, h.2.2.1.imp fun _ q => vk_R.warm hW q, h.2.2.2.1.imp fun _ q => vk_R.warm hW q, h.2.2.2.2.1.imp fun _ q => vk_R.warm hW q, h.2.2.2.2.2.warm hW⟩
theorem kZ.same {A : Nat → Prop} {s U : State} {H : Heap} (hv : U.vm = s.vm) (h : kZ A s H) : kZ A U H :=
  ⟨vx_Zq.moved (by rw [hv]; exact Vm.Alike.refl _) h.1, vx_Zq.moved (by rw [hv]; exact Vm.Alike.refl _) h.2.1, h.2.2.1.imp fun _ q => vk_R.same hv q, h.2.2.2.1.imp fun _ q => vk_R.same hv q, h.2.2.2.2.1.imp fun _ q => vk_R.same hv q, h.2.2.2.2.2.same hv⟩
abbrev kPreX (D : va_G) (tys : List (ClassId × FieldType)) (av : List Value) (sz : Nat) (ws : va_W) : Array Value → State → Prop := va_Pc av (fun U => U.heap.size = sz ∧ va_P D vwCl ws U.heap ∧ va_K D vwCl tys U ∧ va_D (fun _ => True) ws ∧ kG U ∧ kZ (va_A ws sz) U U.heap)
theorem kPreX_blind {D : va_G} {tys : List (ClassId × FieldType)} {av : List Value} {sz : Nat} {ws : va_W} : FrameBlind (kPreX D tys av sz ws) := fun a U g mk q => by
  obtain ⟨q0, q1, qP, qK, qD, qG, qZ⟩ := q
  exact ⟨q0, q1, qP, va_K.moved (u := U) (U := U.calling g mk a) (Vm.Alike.refl U.vm) qK, qD, kG_same (u := U) rfl qG, kZ.same (s := U) rfl qZ⟩
theorem kpVX {s : State} {H : Heap} {locs : List Loc} {C : String} {b : Addr} {As : List Value} {D : va_G} {tys : List (ClassId × FieldType)} {ws wc : va_W} {A : Nat → Prop} (hP : va_P D vwCl wc H) (hK : va_K D vwCl tys s) (hD : va_D A wc) (hG : kG s) (hZ : kZ A s s.heap) (hS : va_S A s.heap H locs) (hD0 : va_D A ws) (hA : ∀ q, s.heap.size ≤ q → A q) (is : List Nat) (hC : is.map (fun i => ws[i]?) = wc.map some) (hr : ∃ cellB : Cell, H[b]? = some cellB ∧ cellB.vm.isStatics = false ∧ s.vm.findClass C = some cellB.cls) : PreV s H C b (kPreX D tys (.ref b :: As) H.size wc) As :=
  ⟨kPreX_blind, hr, fun U hU hW => ⟨rfl, by rw [hU], by rw [hU]; exact hP, va_K.moved hW.alike hK, hD.weaken (fun _ _ _ _ => trivial), kG_warm hW hG, by rw [hU]; exact ((hZ.kept hS.2.1).narrow (va_free hD0 hS hA is hC)).warm hW⟩⟩
theorem kpSX {s : State} {H : Heap} {locs : List Loc} {As : List Value} {D : va_G} {tys : List (ClassId × FieldType)} {ws wc : va_W} {A : Nat → Prop} (hP : va_P D vwCl wc H) (hK : va_K D vwCl tys s) (hD : va_D A wc) (hG : kG s) (hZ : kZ A s s.heap) (hS : va_S A s.heap H locs) (hD0 : va_D A ws) (hA : ∀ q, s.heap.size ≤ q → A q) (is : List Nat) (hC : is.map (fun i => ws[i]?) = wc.map some) : PreS s H (kPreX D tys As H.size wc) As :=
  ⟨kPreX_blind, fun U hU hW => ⟨rfl, by rw [hU], by rw [hU]; exact hP, va_K.moved hW.alike hK, hD.weaken (fun _ _ _ _ => trivial), kG_warm hW hG, by rw [hU]; exact ((hZ.kept hS.2.1).narrow (va_free hD0 hS hA is hC)).warm hW⟩⟩
abbrev kX (D : va_G) (k : Nat) (ws : va_W) (A : Nat → Prop) : String → State → State → Prop := fun E st t => E = kEx k ∧ va_P D vwCl ws t.heap ∧ va_F A st t
abbrev kNo : Array Value → State → Outcome → State → Prop := fun _ _ _ _ => False
section KX
variable {p : Program} {l : Launch} {e0 : Env} {R : Room} {s : State} {m : MethodId} {args : Array Value} {below : List Frame} {meth : Method} {c : Code} {H : Heap} {locs : List Loc} {cells slots : Nat} {Q : State → Prop}
variable {cc : ByteArray} {pc : Nat} {ls : Array Slot} {rest st0 : List Value} {D : va_G} {A A0 : Nat → Prop} {tys : List (ClassId × FieldType)} {ws wc ws' w1 : va_W} {a : Array Value} {mc ms : Nat}
theorem kX_of {k : Nat} {E : String} (hE : E = kEx k) (hP : va_P D vwCl ws H) (hS : va_S A s.heap H locs) {t : State} (h2 : H.size ≤ t.heap.size) (h3 : ∀ q : Nat, q < H.size → t.heap[q]? = H[q]?) : kX D k ws A E s t :=
  ⟨hE, hP.kept (fun i q hq => h3 q.1 (hP i q hq).lt), Nat.le_trans hS.1 h2, fun q h4 h5 => (h3 q (Nat.lt_of_lt_of_le h4 hS.1)).trans (hS.2.1 q h4 h5)⟩
/-- a call that throws, and nothing here catches -/
theorem kcall_x {k MC MS : Nat} (ws' : va_W) (hr : vx_Run p l e0 R s m args below meth c H locs cells slots mc ms (F0 m pc ls st0) rest (kNo a) (kX D k w1 (va_A wc H.size)) (va_A wc H.size)) (hP : va_P D vwCl ws H) (hD : va_D A0 ws) (hS : va_S A0 s.heap H locs) (hA : ∀ q, s.heap.size ≤ q → A0 q) (isC isR : List Nat) (hC : isC.map (fun i => ws[i]?) = wc.map some) (hC' : isC.map (fun i => ws'[i]?) = w1.map some) (wr : va_W) (hR0 : isR.map (fun i => ws[i]?) = wr.map some) (hR1 : isR.map (fun i => ws'[i]?) = wr.map some) (hcov : (List.range ws'.length).all (fun i => isC.contains i || isR.contains i) = true) (hdis : ∀ i ∈ isR, i ∉ isC) (had : ws'.map (·.1) = ws.map (·.1))
    (hout : ∀ x ∈ c.exceptionTable.toList, False) (hlocks : meth.locks = false) (hc : cells + mc ≤ MC) (hs : slots + ms ≤ MS) : W p l e0 R s m args below meth c H locs cells slots (vx_MQ below kNo (kX D k ws' A0) args s MC MS A0) (F0 m pc ls st0) := by
  have hF := va_free (wc := wc) hD hS hA isC hC
  intro T hT X
  rcases hr T hT X with ⟨v, st₀, t, T', L, h0, X', hL, e1, e2, hq, st⟩ | ⟨q, st₀, t, T', L, E, ce, h0, X', hL, e1, e2, ⟨hE, hB, hFr⟩, hce, hcv, hcl, st⟩
  · exact hq.elim
  · obtain ⟨k1, k2, k3⟩ := vx_keep h0 e1 hS (fun q _ h => hF q h) hF hL hFr
    rw [← e1] at hB hce
    obtain ⟨hP1, hD1⟩ := kjoin hP hD isC isR hC hC' wr hR0 hR1 hcov hdis had k2 hB
    obtain ⟨t2, a1, b1⟩ := vx_out (pc := pc) (ls := ls) (rest := rest) (below := below) (args := args) (Qc := kNo) (XC := kX D k ws' A0) (fun x hx => (hout x hx).elim) hlocks hce hcv hcl (fun t9 h9 _ => ⟨hE, by rw [h9]; exact hP1, k3.F h9⟩) k3.2.2 hc hs T' rfl X'
    exact ⟨t2, st.trans a1, b1⟩
end KX
def kOk (L : List Cond) : Prop := ∀ w ∈ L, (w ∈ lw_tbl ∧ goodWord w = true) ∨ w ∈ kGw
theorem kOk_of {L T : List Cond} (hT : ∀ w ∈ T, w ∈ lw_tbl) (h : ∀ w ∈ L, (w ∈ T ∧ goodWord w = true) ∨ w ∈ kGw ∨ (w ∈ lw_tbl ∧ goodWord w = true)) : kOk L := fun w hw => by
  rcases h w hw with g | g | g
  · exact Or.inl ⟨hT w g.1, g.2⟩
  · exact Or.inr g
  · exact Or.inl g
theorem kat_c : kOk (vx_atS RX1 270 "java/lang/IndexOutOfBoundsException" kN) := kOk_of (T := tables_1_2.drop 64) (fun w h => List.mem_append_right _ (List.mem_append_right _ (List.mem_append_left _ (List.mem_of_mem_drop h)))) (by decide +kernel)
theorem kat_a : kOk (vx_atS RX1 279 "java/lang/IllegalArgumentException" kN) := kOk_of (T := tables_1_2.drop 64) (fun w h => List.mem_append_right _ (List.mem_append_right _ (List.mem_append_left _ (List.mem_of_mem_drop h)))) (by decide +kernel)
theorem kgw {w : Cond} (h : goodWord w = true) : vx_ot w = true := by unfold vx_ot; rw [h]; simp
theorem kgoods {own cls : String} {ik : Nat} {L : List Cond} (h1 : Cond.classLink own ik cls ∈ kBIG) (h2 : Cond.initialized cls ∈ kBIG) (h3 : kOk L) : ∀ w ∈ Cond.classLink own ik cls :: Cond.initialized cls :: L, vx_ot w = true := fun w hw => by
  rcases List.mem_cons.mp hw with e | hw
  · rw [e]; exact kgw (kBIG_good h1)
  · rcases List.mem_cons.mp hw with e | hw
    · rw [e]; exact kgw (kBIG_good h2)
    · rcases h3 w hw with h | h
      · exact kgw h.2
      · unfold vx_ot; rw [kGw_tab w h]; rfl
theorem kats {args : Array Value} {s : State} {c0 : Cond} {L : List Cond} (hts : ∀ w ∈ c0 :: kBIG, w.before args s = true) (hG : kG s) (h3 : kOk L) : ∀ w ∈ L, w.before args s = true := fun w hw => by
  rcases h3 w hw with h | h
  · exact hts w (List.mem_cons_of_mem _ (List.mem_append_left _ (List.mem_filter.mpr h)))
  · exact va_Nw.use (kGw_tab w h) (hG.1 w h)
/-! methods that make cells and keep them: constructors, the builder of text -/
abbrev wTB (cB : ClassId) (t0 t1 : Nat) (tn : Nat) (tv : Nat → Int32) (tk : Int32) : va_W := [(t0, .inr (1, [.ref t1, .int 0, .int 0, .int tk])), (t1, .inl (cB, tn, .inl tv))]
abbrev kBclone : MethodName := ⟨"[B", "clone", "()Ljava/lang/Object;"⟩
abbrev kOclone : MethodName := ⟨"java/lang/Object", "clone", "()Ljava/lang/Object;"⟩
def kcons (h : Nat) (u : Nat → Nat) : Nat → Nat := fun k => match k with
  | 0 => h
  | k + 1 => u k
abbrev kfit (f : Nat → Int32) (o n : Nat) : Prop := ∀ i : Fin n, fits .byte (.int (f (o + i.val))) = true
abbrev kcp (f : Nat → Int32) (sp dp n : Int32) (n0 n1 : Nat) : Prop := ¬ sp < 0 ∧ ¬ dp < 0 ∧ ¬ n < 0 ∧ sp.toNatClampNeg + n.toNatClampNeg ≤ n0 ∧ dp.toNatClampNeg + n.toNatClampNeg ≤ n1 ∧ kfit f sp.toNatClampNeg n.toNatClampNeg
theorem kfit_at {f : Nat → Int32} {o n : Nat} (h : kfit f o n) : ∀ i, i < n → fits .byte (.int (f (o + i))) = true := fun i hi => h ⟨i, hi⟩
theorem kfit_cell {f : Nat → Int32} {n : Nat} {cA : ClassId} (h : kfit f 0 n) : ∀ (i : Nat) (v : Value), (vp_cell cA (n, .inl f)).slots[i]? = some v → fits .byte v = true := fun i v hi =>
  va_fit (cA := cA) (n := n) (F := fun j => Value.int (f j)) (fun i hi => by have h1 := h ⟨i, hi⟩; rwa [Nat.zero_add] at h1) i v hi
abbrev kVu (D : va_G) (F : (Nat → Nat) → va_W) (A : Nat → Prop) : Array Value → State → Outcome → State → Prop := va_Qv (fun (_ : Nat → Nat) => True) (fun u t => va_P D vwCl (F u) t.heap ∧ va_D A (F u)) A
abbrev kAu (D : va_G) (x : Nat) (F : (Nat → Nat) → va_W) (A : Nat → Prop) : Array Value → State → Outcome → State → Prop := va_Qr (fun (_ : Nat → Nat) => True) (fun u a t => a = x ∧ va_P D vwCl (F u) t.heap ∧ va_D A (F u)) A
abbrev kNq (D : va_G) (ws : va_W) (A : Nat → Prop) : Array Value → State → Outcome → State → Prop := va_Qr (fun (_ : Unit) => True) (fun _ _ t => va_P D vwCl ws t.heap) A
abbrev kIw (D : va_G) (ty : FieldType) (r : Int32) (F : Value → va_W) (A : Nat → Prop) : Array Value → State → Outcome → State → Prop := va_Qi (fun (r' : Int32) (_ : Value) => r' = r ∧ narrow ty (.int r) = .int r) (fun w t => va_P D vwCl (F w) t.heap) A
section KU
variable {p : Program} {l : Launch} {e0 : Env} {R : Room} {s : State} {m : MethodId} {args : Array Value} {below : List Frame} {meth : Method} {c : Code} {H : Heap} {locs : List Loc} {cells slots : Nat} {Q : State → Prop}
variable {cc : ByteArray} {pc : Nat} {ls : Array Slot} {rest st0 : List Value} {D : va_G} {A A0 : Nat → Prop} {tys : List (ClassId × FieldType)} {ws wc ws' w1 : va_W} {a : Array Value} {mc ms : Nat} {H0 : Heap}
theorem kcall_vu (F : (Nat → Nat) → va_W) (hr : va_Run p l e0 R s m args below meth c H locs cells slots mc ms (F0 m pc ls st0) rest (kVu D F (va_A wc H.size) a) (va_A wc H.size)) (hP : va_P D vwCl ws H) (hD : va_D A0 ws) (hS : va_S A0 H0 H locs) (hA : ∀ q, H0.size ≤ q → A0 q) (isC isR : List Nat) (hC : isC.map (fun i => ws[i]?) = wc.map some) (wr : va_W) (hR0 : isR.map (fun i => ws[i]?) = wr.map some) (hn : va_nd isR = true) (hdis : ∀ i ∈ isR, i ∉ isC)
    (kk : ∀ (u : Nat → Nat) (H1 : Heap) (locs1 : List Loc), va_P D vwCl (wr ++ F u) H1 → va_D A0 (wr ++ F u) → va_S A0 H0 H1 locs1 → W p l e0 R s m args below meth c H1 locs1 (cells + mc) (slots + ms) Q (F0 m (pc + 3) ls rest)) : W p l e0 R s m args below meth c H locs cells slots Q (F0 m pc ls st0) := by
  have hF := va_free (wc := wc) hD hS hA isC hC
  refine va_callv hr hS (fun q _ h => hF q h) hF (fun u t H1 locs1 ht hvm hw hB hz hk hS1 => ?_)
  obtain ⟨hB, hDB⟩ := hB
  rw [ht] at hB
  obtain ⟨hP1, hD1⟩ := va_join hP hD isC isR hC hR0 hn hdis hk hF hB hDB
  exact kk u H1 locs1 hP1 hD1 hS1
theorem kcall_au {x : Nat} (F : (Nat → Nat) → va_W) (hr : va_Run p l e0 R s m args below meth c H locs cells slots mc ms (F0 m pc ls st0) rest (kAu D x F (va_A wc H.size) a) (va_A wc H.size)) (hP : va_P D vwCl ws H) (hD : va_D A0 ws) (hS : va_S A0 H0 H locs) (hA : ∀ q, H0.size ≤ q → A0 q) (isC isR : List Nat) (hC : isC.map (fun i => ws[i]?) = wc.map some) (wr : va_W) (hR0 : isR.map (fun i => ws[i]?) = wr.map some) (hn : va_nd isR = true) (hdis : ∀ i ∈ isR, i ∉ isC)
    (kk : ∀ (u : Nat → Nat) (H1 : Heap) (locs1 : List Loc), va_P D vwCl (wr ++ F u) H1 → va_D A0 (wr ++ F u) → va_S A0 H0 H1 locs1 → W p l e0 R s m args below meth c H1 locs1 (cells + mc) (slots + ms) Q (F0 m (pc + 3) ls (.ref x :: rest))) : W p l e0 R s m args below meth c H locs cells slots Q (F0 m pc ls st0) := by
  have hF := va_free (wc := wc) hD hS hA isC hC
  refine va_callr hr hS (fun q _ h => hF q h) hF (fun u ra t H1 locs1 ht hvm hw hB hz hk hS1 => ?_)
  obtain ⟨rfl, hB, hDB⟩ := hB
  rw [ht] at hB
  obtain ⟨hP1, hD1⟩ := va_join hP hD isC isR hC hR0 hn hdis hk hF hB hDB
  exact kk u H1 locs1 hP1 hD1 hS1
theorem kcall_n (ws' : va_W) (hr : va_Run p l e0 R s m args below meth c H locs cells slots mc ms (F0 m pc ls st0) rest (kNq D w1 (va_A wc H.size) a) (va_A wc H.size)) (hP : va_P D vwCl ws H) (hD : va_D A0 ws) (hS : va_S A0 H0 H locs) (hA : ∀ q, H0.size ≤ q → A0 q) (isC isR : List Nat) (hC : isC.map (fun i => ws[i]?) = wc.map some) (hC' : isC.map (fun i => ws'[i]?) = w1.map some) (wr : va_W) (hR0 : isR.map (fun i => ws[i]?) = wr.map some) (hR1 : isR.map (fun i => ws'[i]?) = wr.map some) (hcov : (List.range ws'.length).all (fun i => isC.contains i || isR.contains i) = true) (hdis : ∀ i ∈ isR, i ∉ isC) (had : ws'.map (·.1) = ws.map (·.1))
    (kk : ∀ (q : Nat) (H1 : Heap) (locs1 : List Loc), va_P D vwCl ws' H1 → va_D A0 ws' → va_S A0 H0 H1 locs1 → W p l e0 R s m args below meth c H1 locs1 (cells + mc) (slots + ms) Q (F0 m (pc + 3) ls (.ref q :: rest))) : W p l e0 R s m args below meth c H locs cells slots Q (F0 m pc ls st0) := by
  have hF := va_free (wc := wc) hD hS hA isC hC
  refine va_callr hr hS (fun q _ h => hF q h) hF (fun u ra t H1 locs1 ht hvm hw hB hz hk hS1 => ?_)
  rw [ht] at hB
  obtain ⟨hP1, hD1⟩ := kjoin hP hD isC isR hC hC' wr hR0 hR1 hcov hdis had hk hB
  exact kk ra H1 locs1 hP1 hD1 hS1
theorem kcall_iw {ty : FieldType} {r : Int32} {F : Value → va_W} (ws' : Value → va_W) (hr : va_Run p l e0 R s m args below meth c H locs cells slots mc ms (F0 m pc ls st0) rest (kIw D ty r F (va_A wc H.size) a) (va_A wc H.size)) (hP : va_P D vwCl ws H) (hD : va_D A0 ws) (hS : va_S A0 H0 H locs) (hA : ∀ q, H0.size ≤ q → A0 q) (isC isR : List Nat) (hC : isC.map (fun i => ws[i]?) = wc.map some) (hC' : ∀ w, isC.map (fun i => (ws' w)[i]?) = (F w).map some) (wr : va_W) (hR0 : isR.map (fun i => ws[i]?) = wr.map some) (hR1 : ∀ w, isR.map (fun i => (ws' w)[i]?) = wr.map some) (hcov : ∀ w, (List.range (ws' w).length).all (fun i => isC.contains i || isR.contains i) = true) (hdis : ∀ i ∈ isR, i ∉ isC) (had : ∀ w, (ws' w).map (·.1) = ws.map (·.1))
    (kk : ∀ (w : Value) (H1 : Heap) (locs1 : List Loc), va_P D vwCl (ws' w) H1 → va_D A0 (ws' w) → va_S A0 H0 H1 locs1 → narrow ty (.int r) = .int r → W p l e0 R s m args below meth c H1 locs1 (cells + mc) (slots + ms) Q (F0 m (pc + 3) ls (.int r :: rest))) : W p l e0 R s m args below meth c H locs cells slots Q (F0 m pc ls st0) := by
  have hF := va_free (wc := wc) hD hS hA isC hC
  refine va_calli hr hS (fun q _ h => hF q h) hF (fun r' u t H1 locs1 ht hvm hw hB hz hk hS1 => ?_)
  obtain ⟨rfl, hnar⟩ := hw
  rw [ht] at hB
  obtain ⟨hP1, hD1⟩ := kjoin hP hD isC isR hC (hC' u) wr hR0 (hR1 u) (hcov u) hdis (had u) hk hB
  exact kk u H1 locs1 hP1 hD1 hS1 hnar
theorem kret_vu {u : Nat → Nat} {F : (Nat → Nat) → va_W} (hx : p.tables.exec = Jvm.exec) (hb : c.code = cc) (hr : meth.sig.returnType = none) (hlocks : meth.locks = false) (hS : va_S A s.heap H locs) (hP : va_P D vwCl (F u) H) (hD : va_D A (F u)) (hd : decode cc pc = .ok (.return_, 1)) : W p l e0 R s m args below meth c H locs cells slots (MQ below (kVu D F A) args s cells slots A) (F0 m pc ls []) :=
  W.vret hx hb hr (fun t ht _ => ⟨⟨u, rfl, trivial, by show va_P D vwCl (F u) t.heap; rw [ht]; exact hP, hD⟩, hS.F ht⟩) hS.2.2 hd hlocks
theorem kret_au {u : Nat → Nat} {x : Nat} {F : (Nat → Nat) → va_W} {rt : FieldType} (hx : p.tables.exec = Jvm.exec) (hb : c.code = cc) (hr : meth.sig.returnType = some rt) (hrt : (∃ n, rt = .object n) ∨ ∃ t, rt = .array t) (hlocks : meth.locks = false) (hS : va_S A s.heap H locs) (hP : va_P D vwCl (F u) H) (hD : va_D A (F u)) (hd : decode cc pc = .ok (.areturn, 1)) : W p l e0 R s m args below meth c H locs cells slots (MQ below (kAu D x F A) args s cells slots A) (F0 m pc ls [.ref x]) :=
  W.aret (v := .ref x) hx hb hr hrt (Or.inr ⟨x, rfl⟩) (fun t ht _ => ⟨⟨u, x, rfl, trivial, rfl, by show va_P D vwCl (F u) t.heap; rw [ht]; exact hP, hD⟩, hS.F ht⟩) hS.2.2 hd hlocks
theorem kret_n {x : Nat} {rt : FieldType} (hx : p.tables.exec = Jvm.exec) (hb : c.code = cc) (hr : meth.sig.returnType = some rt) (hrt : (∃ n, rt = .object n) ∨ ∃ t, rt = .array t) (hlocks : meth.locks = false) (hS : va_S A s.heap H locs) (hP : va_P D vwCl ws H) (hd : decode cc pc = .ok (.areturn, 1)) : W p l e0 R s m args below meth c H locs cells slots (MQ below (kNq D ws A) args s cells slots A) (F0 m pc ls [.ref x]) :=
  W.aret (v := .ref x) hx hb hr hrt (Or.inr ⟨x, rfl⟩) (fun t ht _ => ⟨⟨(), x, rfl, trivial, by show va_P D vwCl ws t.heap; rw [ht]; exact hP⟩, hS.F ht⟩) hS.2.2 hd hlocks
theorem kret_iw {ty : FieldType} {v : Int32} {w : Value} {F : Value → va_W} (hx : p.tables.exec = Jvm.exec) (hb : c.code = cc) (hr : meth.sig.returnType = some ty) (hn : narrow ty (.int v) = .int v) (hlocks : meth.locks = false) (hty : ty = .int) (hS : va_S A s.heap H locs) (hP : va_P D vwCl (F w) H) (hd : decode cc pc = .ok (.ireturn, 1)) : W p l e0 R s m args below meth c H locs cells slots (MQ below (kIw D ty v F A) args s cells slots A) (F0 m pc ls [.int v]) := by
  subst hty
  exact W.iret (v := v) hx hb hr (fun t ht _ => ⟨⟨v, w, rfl, ⟨rfl, rfl⟩, by show va_P D vwCl (F w) t.heap; rw [ht]; exact hP⟩, hS.F ht⟩) hS.2.2 hd hlocks
end KU
abbrev kPreS (D : va_G) (tys : List (ClassId × FieldType)) (av : List Value) (sz : Nat) (ws : va_W) (kS kV : Nat) : Array Value → State → Prop := va_Pc av (fun U => U.heap.size = sz ∧ va_P D vwCl ws U.heap ∧ va_K D vwCl tys U ∧ va_D (fun _ => True) ws ∧ kG U ∧ kZ (va_A ws sz) U U.heap ∧ kSp (va_A ws sz) U U.heap kS kV)
theorem kPreS_blind {D : va_G} {tys : List (ClassId × FieldType)} {av : List Value} {sz kS kV : Nat} {ws : va_W} : FrameBlind (kPreS D tys av sz ws kS kV) := fun a U g mk q => by
  obtain ⟨q0, q1, qP, qK, qD, qG, qZ, qT⟩ := q
  exact ⟨q0, q1, qP, va_K.moved (u := U) (U := U.calling g mk a) (Vm.Alike.refl U.vm) qK, qD, kG_same (u := U) rfl qG, kZ.same (s := U) rfl qZ, kSp.moved (u := U) (U := U.calling g mk a) (Vm.Alike.refl U.vm) qT⟩
theorem kpVT {s : State} {H : Heap} {locs : List Loc} {C : String} {b kS kV : Nat} {As : List Value} {D : va_G} {tys : List (ClassId × FieldType)} {ws wc : va_W} {A : Nat → Prop} (hT : kSp A s s.heap kS kV) (hP : va_P D vwCl wc H) (hK : va_K D vwCl tys s) (hD : va_D A wc) (hG : kG s) (hZ : kZ A s s.heap) (hS : va_S A s.heap H locs) (hD0 : va_D A ws) (hA : ∀ q, s.heap.size ≤ q → A q) (is : List Nat) (hC : is.map (fun i => ws[i]?) = wc.map some) (hr : ∃ cellB : Cell, H[b]? = some cellB ∧ cellB.vm.isStatics = false ∧ s.vm.findClass C = some cellB.cls) : PreV s H C b (kPreS D tys (.ref b :: As) H.size wc kS kV) As :=
  ⟨kPreS_blind, hr, fun U hU hW => ⟨rfl, by rw [hU], by rw [hU]; exact hP, va_K.moved hW.alike hK, hD.weaken (fun _ _ _ _ => trivial), kG_warm hW hG, by rw [hU]; exact ((hZ.kept hS.2.1).narrow (va_free hD0 hS hA is hC)).warm hW, by rw [hU]; exact ((hT.kept hS.2.1).narrow (va_free hD0 hS hA is hC)).moved hW.alike⟩⟩
theorem kSp_recv {s : State} {H : Heap} {locs : List Loc} {A : Nat → Prop} {kS kV : Nat} (hT : kSp A s s.heap kS kV) (hS : va_S A s.heap H locs) : ∃ cellB : Cell, H[kS]? = some cellB ∧ cellB.vm.isStatics = false ∧ s.vm.findClass "java/lang/String" = some cellB.cls := by
  obtain ⟨cell, h1, h2, h3, -⟩ := hT.1.kept hS.2.1
  exact ⟨cell, h1, h2, h3⟩
abbrev kIt (y : MethodName) (cc : ByteArray) (maxL : Nat) (n : Nat) : Prop := Cond.code y cc maxL none ∈ kBIG ∧ Cond.instanceMethod y ∈ kBIG ∧ Cond.initialized y.cls ∈ kBIG ∧ y.name = "<init>" ∧ y.cls ≠ "java/lang/invoke/MethodHandle" ∧ y.cls ≠ "java/lang/invoke/VarHandle" ∧ (parseMethodDescriptor y.desc).map (fun d => d.parameters.length) = some n
abbrev kUt (C : String) (y : MethodName) (cc : ByteArray) (maxL : Nat) (ret : Option FieldType) (n : Nat) : Prop := Cond.code y cc maxL ret ∈ kBIG ∧ Cond.instanceMethod y ∈ kBIG ∧ Cond.initialized y.cls ∈ kBIG ∧ Cond.sameMethod y.cls y.cls y.name y.desc ∈ kBIG ∧ Cond.selects C y y ∈ kBIG ∧ y.cls ≠ "java/lang/invoke/MethodHandle" ∧ y.cls ≠ "java/lang/invoke/VarHandle" ∧ (parseMethodDescriptor y.desc).map (fun d => d.parameters.length) = some n
abbrev kUs (y : MethodName) (cc : ByteArray) (maxL : Nat) (ret : Option FieldType) (n : Nat) : Prop := Cond.code y cc maxL ret ∈ kBIG ∧ Cond.instanceMethod y ∈ kBIG ∧ Cond.initialized y.cls ∈ kBIG ∧ Cond.sameMethod y.cls y.cls y.name y.desc ∈ kBIG ∧ Cond.superclass "java/lang/StringBuilder" y.cls ∈ kBIG ∧ y.name ≠ "<init>" ∧ (parseMethodDescriptor y.desc).map (fun d => d.parameters.length) = some n
abbrev kOt (x : MethodName) (b0 : ByteArray) (m0 : Nat) (r0 : Option FieldType) (y : MethodName) (cc : ByteArray) (maxL : Nat) (ret : Option FieldType) (n : Nat) : Prop := Cond.code y cc maxL ret ∈ kBIG ∧ Cond.instanceMethod y ∈ kBIG ∧ Cond.initialized y.cls ∈ kBIG ∧ Cond.sameMethod x.cls x.cls x.name x.desc ∈ kBIG ∧ Cond.selects "java/lang/StringBuilder" x y ∈ kBIG ∧ Cond.instanceMethod x ∈ kBIG ∧ Cond.code x b0 m0 r0 ∈ kBIG ∧ x.cls ≠ "java/lang/invoke/MethodHandle" ∧ x.cls ≠ "java/lang/invoke/VarHandle" ∧ (parseMethodDescriptor x.desc).map (fun d => d.parameters.length) = some n
/-- a private method is what a call of it selects, on a receiver of whatever class -/
theorem ksel {C : String} {y y0 : MethodName} {s : State} {args : Array Value} (h0 : (Cond.selects C y0 y0).before args s = true) (hc0 : y0.cls = y.cls) (hy : y.cls ≠ "java/lang/invoke/MethodHandle" ∧ y.cls ≠ "java/lang/invoke/VarHandle") (hpriv : (Cond.privateMethod y).before args s = true) (hinst : (Cond.instanceMethod y).before args s = true) : (Cond.selects C y y).before args s = true := by
  obtain ⟨c, r, m0, hc, -, hm0, -, k, hk, hni⟩ := Cond.selects_spec h0
  obtain ⟨mk, methM, hnamed, hmethM, -, -⟩ := Cond.instanceMethod_spec hinst
  have hfound : s.methodFound? y.cls y.name y.desc = some mk := State.methodFound?_of_named hnamed hy
  have hcls : mk.cls = m0.cls := Option.some.inj ((findClass_of_methodNamed hnamed).symm.trans (by rw [← hc0]; exact findClass_of_methodNamed hm0))
  have hsel : selectMethod {} s.vm c mk = .method mk := selectMethod_private hmethM (Cond.privateMethod_at hpriv mk methM hnamed hmethM)
  simp only [Cond.before, Cond.holds, Cond.value, hc, hfound, hnamed, hsel, hcls, hk]
  simp; exact hni
section KWU
variable {R : Room} {s : State} {args : Array Value} {c0 : Cond} {own C : String} {index maxL mc ms n : Nat} {y : MethodName} {cc : ByteArray} {ret : Option FieldType} {rm : Room}
theorem klen {d : String} {n : Nat} (h : (parseMethodDescriptor d).map (fun d => d.parameters.length) = some n) : ∀ sig, parseMethodDescriptor d = some sig → n = sig.parameters.length := fun sig e => by
  rw [e] at h
  exact (Option.some.inj h).symm
theorem kcwI (ht : ∀ w ∈ c0 :: kBIG, w.before args s = true) (hl : Cond.methodLink own index y ∈ kBIG) (q : kIt y cc maxL n) (hrc : rm.cells = mc) (hrs : rm.slots = ms) (hR : rm.frames + 1 ≤ R.frames ∧ 8 + (maxL + 11) + rm.locals ≤ R.locals) : CallB R s args own index y cc maxL none (kWs y cc maxL none) rm mc ms n ∧ y.name = "<init>" ∧ (Cond.instanceMethod y).before args s = true :=
  ⟨callB_of n ht (kgood q.1) rfl hrc hrs (ht _ (List.mem_cons_of_mem _ q.2.2.1)) (ht _ (List.mem_cons_of_mem _ hl)) q.2.2.2.2 hR, q.2.2.2.1, ht _ (List.mem_cons_of_mem _ q.2.1)⟩
theorem kcwU (ht : ∀ w ∈ c0 :: kBIG, w.before args s = true) (hl : Cond.methodLink own index y ∈ kBIG) (q : kUt C y cc maxL ret n) (hrc : rm.cells = mc) (hrs : rm.slots = ms) (hR : rm.frames + 1 ≤ R.frames ∧ 8 + (maxL + 11) + rm.locals ≤ R.locals) : va_CU R s args own C y.cls index y y cc maxL ret (kWs y cc maxL ret) rm mc ms n := by
  have t : ∀ {w : Cond}, w ∈ kBIG → w.before args s = true := fun h => ht _ (List.mem_cons_of_mem _ h)
  exact ⟨⟨hrc, hrs, hR.1, hR.2, pay_in ht (kgood q.1), List.mem_cons_self⟩, t q.1, t q.2.2.1, ⟨q.2.2.2.2.2.1, q.2.2.2.2.2.2.1⟩, klen q.2.2.2.2.2.2.2, t hl, t q.2.2.2.1, va_Decl.of (t q.2.1) (t q.1), t q.2.2.2.2.1, t q.2.1⟩
theorem kcwO {x : MethodName} {b0 : ByteArray} {m0 : Nat} {r0 : Option FieldType} (ht : ∀ w ∈ c0 :: kBIG, w.before args s = true) (hl : Cond.methodLink own index x ∈ kBIG) (q : kOt x b0 m0 r0 y cc maxL ret n) (hrc : rm.cells = mc) (hrs : rm.slots = ms) (hR : rm.frames + 1 ≤ R.frames ∧ 8 + (maxL + 11) + rm.locals ≤ R.locals) : va_CU R s args own "java/lang/StringBuilder" x.cls index x y cc maxL ret (kWs y cc maxL ret) rm mc ms n := by
  have t : ∀ {w : Cond}, w ∈ kBIG → w.before args s = true := fun h => ht _ (List.mem_cons_of_mem _ h)
  exact ⟨⟨hrc, hrs, hR.1, hR.2, pay_in ht (kgood q.1), List.mem_cons_self⟩, t q.1, t q.2.2.1, ⟨q.2.2.2.2.2.2.2.1, q.2.2.2.2.2.2.2.2.1⟩, klen q.2.2.2.2.2.2.2.2.2, t hl, t q.2.2.2.1, va_Decl.of (t q.2.2.2.2.2.1) (t q.2.2.2.2.2.2.1), t q.2.2.2.2.1, t q.2.1⟩
theorem kcwSU (ht : ∀ w ∈ c0 :: kBIG, w.before args s = true) (hl : Cond.methodLink "java/lang/StringBuilder" index y ∈ kBIG) (q : kUs y cc maxL ret n) (hrc : rm.cells = mc) (hrs : rm.slots = ms) (hR : rm.frames + 1 ≤ R.frames ∧ 8 + (maxL + 11) + rm.locals ≤ R.locals) : va_CS R s args "java/lang/StringBuilder" index y cc maxL ret (kWs y cc maxL ret) rm mc ms n := by
  have t : ∀ {w : Cond}, w ∈ kBIG → w.before args s = true := fun h => ht _ (List.mem_cons_of_mem _ h)
  exact ⟨⟨hrc, hrs, hR.1, hR.2, pay_in ht (kgood q.1), List.mem_cons_self⟩, t hl, t q.2.2.2.1, t q.2.2.2.2.1, t q.2.1, t q.2.2.1, t q.1, q.2.2.2.2.2.1, klen q.2.2.2.2.2.2⟩
end KWU
/-! a word in its own chunk of the tables -/
theorem kb_d1 {w : Cond} (i : Nat) (h : tables_1_1[i]? = some w ∧ goodWord w = true) : w ∈ kBIG := List.mem_append_left _ (List.mem_filter.mpr ⟨List.mem_append_right _ (List.mem_append_left _ (List.mem_of_getElem? h.1)), h.2⟩)
theorem kb_c1 {w : Cond} (i : Nat) (h : tables_1_1[i]? = some w) (g : goodWord w = true) : w ∈ kBIG := List.mem_append_left _ (List.mem_filter.mpr ⟨List.mem_append_right _ (List.mem_append_left _ (List.mem_of_getElem? h)), g⟩)
theorem kb_d2 {w : Cond} (i : Nat) (h : tables_1_2[i]? = some w ∧ goodWord w = true) : w ∈ kBIG := List.mem_append_left _ (List.mem_filter.mpr ⟨List.mem_append_right _ (List.mem_append_right _ (List.mem_append_left _ (List.mem_of_getElem? h.1))), h.2⟩)
theorem kb_c2 {w : Cond} (i : Nat) (h : tables_1_2[i]? = some w) (g : goodWord w = true) : w ∈ kBIG := List.mem_append_left _ (List.mem_filter.mpr ⟨List.mem_append_right _ (List.mem_append_right _ (List.mem_append_left _ (List.mem_of_getElem? h))), g⟩)
theorem kb_d3 {w : Cond} (i : Nat) (h : tables_1_3[i]? = some w ∧ goodWord w = true) : w ∈ kBIG := List.mem_append_left _ (List.mem_filter.mpr ⟨List.mem_append_right _ (List.mem_append_right _ (List.mem_append_right _ (List.mem_append_left _ (List.mem_of_getElem? h.1)))), h.2⟩)
theorem kb_c3 {w : Cond} (i : Nat) (h : tables_1_3[i]? = some w) (g : goodWord w = true) : w ∈ kBIG := List.mem_append_left _ (List.mem_filter.mpr ⟨List.mem_append_right _ (List.mem_append_right _ (List.mem_append_right _ (List.mem_append_left _ (List.mem_of_getElem? h)))), g⟩)
theorem kb_d4 {w : Cond} (i : Nat) (h : tables_1_4[i]? = some w ∧ goodWord w = true) : w ∈ kBIG := List.mem_append_left _ (List.mem_filter.mpr ⟨List.mem_append_right _ (List.mem_append_right _ (List.mem_append_right _ (List.mem_append_right _ (List.mem_append_left _ (List.mem_of_getElem? h.1))))), h.2⟩)
theorem kb_c4 {w : Cond} (i : Nat) (h : tables_1_4[i]? = some w) (g : goodWord w = true) : w ∈ kBIG := List.mem_append_left _ (List.mem_filter.mpr ⟨List.mem_append_right _ (List.mem_append_right _ (List.mem_append_right _ (List.mem_append_right _ (List.mem_append_left _ (List.mem_of_getElem? h))))), g⟩)
theorem kb_d5 {w : Cond} (i : Nat) (h : tables_1_5[i]? = some w ∧ goodWord w = true) : w ∈ kBIG := List.mem_append_left _ (List.mem_filter.mpr ⟨List.mem_append_right _ (List.mem_append_right _ (List.mem_append_right _ (List.mem_append_right _ (List.mem_append_right _ (List.mem_append_left _ (List.mem_of_getElem? h.1)))))), h.2⟩)
theorem kb_c5 {w : Cond} (i : Nat) (h : tables_1_5[i]? = some w) (g : goodWord w = true) : w ∈ kBIG := List.mem_append_left _ (List.mem_filter.mpr ⟨List.mem_append_right _ (List.mem_append_right _ (List.mem_append_right _ (List.mem_append_right _ (List.mem_append_right _ (List.mem_append_left _ (List.mem_of_getElem? h)))))), g⟩)
theorem kb_d6 {w : Cond} (i : Nat) (h : tables_1_6[i]? = some w ∧ goodWord w = true) : w ∈ kBIG := List.mem_append_left _ (List.mem_filter.mpr ⟨List.mem_append_right _ (List.mem_append_right _ (List.mem_append_right _ (List.mem_append_right _ (List.mem_append_right _ (List.mem_append_right _ (List.mem_append_left _ (List.mem_of_getElem? h.1))))))), h.2⟩)
theorem kb_c6 {w : Cond} (i : Nat) (h : tables_1_6[i]? = some w) (g : goodWord w = true) : w ∈ kBIG := List.mem_append_left _ (List.mem_filter.mpr ⟨List.mem_append_right _ (List.mem_append_right _ (List.mem_append_right _ (List.mem_append_right _ (List.mem_append_right _ (List.mem_append_right _ (List.mem_append_left _ (List.mem_of_getElem? h))))))), g⟩)
theorem kb_d7 {w : Cond} (i : Nat) (h : tables_1_7[i]? = some w ∧ goodWord w = true) : w ∈ kBIG := List.mem_append_left _ (List.mem_filter.mpr ⟨List.mem_append_right _ (List.mem_append_right _ (List.mem_append_right _ (List.mem_append_right _ (List.mem_append_right _ (List.mem_append_right _ (List.mem_append_right _ (List.mem_of_getElem? h.1))))))), h.2⟩)
theorem kb_c7 {w : Cond} (i : Nat) (h : tables_1_7[i]? = some w) (g : goodWord w = true) : w ∈ kBIG := List.mem_append_left _ (List.mem_filter.mpr ⟨List.mem_append_right _ (List.mem_append_right _ (List.mem_append_right _ (List.mem_append_right _ (List.mem_append_right _ (List.mem_append_right _ (List.mem_append_right _ (List.mem_of_getElem? h))))))), g⟩)
end
-- 04z.mask.lean.txt
section
/-! a world cut in two by a mask: linear facts, where the indices' own are quadratic -/
def kIT : List Bool → Nat → List Nat
  | [], _ => []
  | true :: m, k => k :: kIT m (k + 1)
  | false :: m, k => kIT m (k + 1)
def kST {α : Type} : List Bool → List α → List α
  | true :: m, x :: l => x :: kST m l
  | false :: m, _ :: l => kST m l
  | _, _ => []
def kLn {α : Type} : List Bool → List α → Bool
  | [], [] => true
  | _ :: m, _ :: l => kLn m l
  | _, _ => false
theorem km_gen {α : Type} : ∀ (m : List Bool) (pre l : List α), kLn m l = true → (kIT m pre.length).map (fun i => (pre ++ l)[i]?) = (kST m l).map some := by
  intro m
  induction m with
  | nil =>
    intro pre l h
    cases l with
    | nil => rfl
    | cons x l => exact absurd h (by simp [kLn])
  | cons b m ih =>
    intro pre l h
    cases l with
    | nil => exact absurd h (by simp [kLn])
    | cons x l =>
      have h' : kLn m l = true := h
      have e := ih (pre ++ [x]) l h'
      rw [List.append_assoc, List.singleton_append, List.length_append, List.length_singleton] at e
      cases b with
      | true =>
        rw [kIT, kST, List.map_cons, List.map_cons, e, List.getElem?_append_right (Nat.le_refl _), Nat.sub_self]
        rfl
      | false =>
        rw [kIT, kST, e]
theorem km_T {α : Type} {m : List Bool} {ws wc : List α} (hl : kLn m ws = true) (h : kST m ws = wc) : (kIT m 0).map (fun i => ws[i]?) = wc.map some := by
  rw [← h]; exact km_gen m [] ws hl
theorem km_fm {α : Type} {f : Nat → Option α} : ∀ (is : List Nat) (l : List α), is.map f = l.map some → is.filterMap f = l := by
  intro is
  induction is with
  | nil =>
    intro l h
    cases l with
    | nil => rfl
    | cons x l => exact absurd h (by simp)
  | cons i is ih =>
    intro l h
    cases l with
    | nil => exact absurd h (by simp)
    | cons x l =>
      rw [List.map_cons, List.map_cons] at h
      injection h with h1 h2
      rw [List.filterMap_cons_some h1, ih l h2]
theorem km_f {α : Type} {m : List Bool} {ws wc : List α} (hl : kLn m ws = true) (h : kST m ws = wc) : (kIT m 0).filterMap (fun i => ws[i]?) = wc := km_fm _ _ (km_T hl h)
theorem kIT_mem : ∀ (m : List Bool) (k i : Nat), i ∈ kIT m k ↔ k ≤ i ∧ m[i - k]? = some true := by
  intro m
  induction m with
  | nil => intro k i; simp [kIT]
  | cons b m ih =>
    intro k i
    by_cases e : i = k
    · subst e
      cases b with
      | true => simp [kIT]
      | false =>
        rw [kIT, ih, Nat.sub_self]
        constructor
        · intro ⟨h, _⟩; omega
        · intro ⟨_, h⟩; simp at h
    · have hs : k + 1 ≤ i → (b :: m)[i - k]? = m[i - (k + 1)]? := fun h => by
        rw [show i - k = (i - (k + 1)) + 1 by omega, List.getElem?_cons_succ]
      have hh : (k + 1 ≤ i ∧ m[i - (k + 1)]? = some true) ↔ (k ≤ i ∧ (b :: m)[i - k]? = some true) := by
        constructor
        · intro ⟨h1, h2⟩; exact ⟨by omega, by rw [hs h1]; exact h2⟩
        · intro ⟨h1, h2⟩
          have h3 : k + 1 ≤ i := by omega
          exact ⟨h3, by rw [← hs h3]; exact h2⟩
      cases b with
      | true =>
        rw [kIT, List.mem_cons, ih, ← hh]
        constructor
        · intro h
          rcases h with h | h
          · exact absurd h e
          · exact h
        · intro h; exact Or.inr h
      | false => rw [kIT, ih, ← hh]
theorem km_ndk : ∀ (m : List Bool) (k : Nat), va_nd (kIT m k) = true := by
  intro m
  induction m with
  | nil => intro k; rfl
  | cons b m ih =>
    intro k
    cases b with
    | true =>
      rw [kIT, va_nd, ih, Bool.and_true, decide_eq_true_iff]
      intro h
      have := ((kIT_mem m (k + 1) k).mp h).1
      omega
    | false => rw [kIT]; exact ih _
theorem km_nd (m : List Bool) : va_nd (kIT m 0) = true := km_ndk m 0
theorem kLn_len {α : Type} : ∀ (m : List Bool) (l : List α), kLn m l = true → l.length = m.length := by
  intro m
  induction m with
  | nil =>
    intro l h
    cases l with
    | nil => rfl
    | cons x l => exact absurd h (by simp [kLn])
  | cons b m ih =>
    intro l h
    cases l with
    | nil => exact absurd h (by simp [kLn])
    | cons x l => rw [List.length_cons, List.length_cons, ih l h]
theorem km_cov {α : Type} {m n : List Bool} {ws : List α} (hl : kLn m ws = true) (hn : n = m.map (!·)) : (List.range ws.length).all (fun i => (kIT m 0).contains i || (kIT n 0).contains i) = true := by
  rw [List.all_eq_true]
  intro i hi
  rw [List.mem_range, kLn_len m ws hl] at hi
  have e : m[i]? = some m[i] := List.getElem?_eq_getElem hi
  rw [Bool.or_eq_true_iff, List.contains_iff_mem, List.contains_iff_mem, kIT_mem, kIT_mem, Nat.sub_zero, hn, List.getElem?_map, e]
  cases hb : m[i] with
  | true => exact Or.inl ⟨Nat.zero_le _, rfl⟩
  | false => exact Or.inr ⟨Nat.zero_le _, rfl⟩
theorem km_dis {m n : List Bool} (hn : n = m.map (!·)) : ∀ i ∈ kIT n 0, i ∉ kIT m 0 := by
  intro i h1 h2
  have a := ((kIT_mem n 0 i).mp h1).2
  have b := ((kIT_mem m 0 i).mp h2).2
  rw [hn, List.getElem?_map] at a
  rw [Nat.sub_zero] at a b
  rw [b] at a
  exact absurd a (by decide)
abbrev mk_0 : List Bool := [false, true]
abbrev mk_1 : List Bool := [true, false]
abbrev mk_2 : List Bool := [true]
abbrev mk_3 : List Bool := [false]
abbrev mk_4 : List Bool := [false, false, true]
abbrev mk_5 : List Bool := [true, true, false]
abbrev mk_6 : List Bool := []
abbrev mk_7 : List Bool := [false, false]
abbrev mk_8 : List Bool := [true, true]
abbrev mk_9 : List Bool := [false, false, false, false, false, false, false, false, false, false, false, false, false, false, false, true, true]
abbrev mk_10 : List Bool := [true, true, true, true, true, true, true, true, true, true, true, true, true, true, true, false, false]
abbrev mk_11 : List Bool := [true, true, true, true, true, true, true]
abbrev mk_12 : List Bool := [false, false, false, false, false, false, false]
abbrev mk_13 : List Bool := [false, false, false, false, false, true, false]
abbrev mk_14 : List Bool := [true, true, true, true, true, false, true]
abbrev mk_15 : List Bool := [false, false, false, false, false, false, true]
abbrev mk_16 : List Bool := [true, true, true, true, true, true, false]
abbrev mk_17 : List Bool := [false, true, false, false, false, false, false]
abbrev mk_18 : List Bool := [true, false, true, true, true, true, true]
abbrev mk_19 : List Bool := [false, false, true, false, false, false, false, false]
abbrev mk_20 : List Bool := [true, true, false, true, true, true, true, true]
abbrev mk_21 : List Bool := [false, false, false, true, false, false, false, false, false]
abbrev mk_22 : List Bool := [true, true, true, false, true, true, true, true, true]
abbrev mk_23 : List Bool := [false, false, false, false, false, true, false, false, false, false]
abbrev mk_24 : List Bool := [true, true, true, true, true, false, true, true, true, true]
abbrev mk_25 : List Bool := [false, false, false, false, false, false, true, false, false, false, false]
abbrev mk_26 : List Bool := [true, true, true, true, true, true, false, true, true, true, true]
abbrev mk_27 : List Bool := [false, false, true, false, false, false, false]
abbrev mk_28 : List Bool := [true, true, false, true, true, true, true]
abbrev mk_29 : List Bool := [false, false, false, true, false, false, false]
abbrev mk_30 : List Bool := [true, true, true, false, true, true, true]
abbrev mk_31 : List Bool := [false, false, true, true, false, false, false]
abbrev mk_32 : List Bool := [true, true, false, false, true, true, true]
abbrev mk_33 : List Bool := [false, false, false, false, false, true, true]
abbrev mk_34 : List Bool := [true, true, true, true, true, false, false]
abbrev mk_35 : List Bool := [false, false, false, false, false, true, true, false]
abbrev mk_36 : List Bool := [true, true, true, true, true, false, false, true]
abbrev mk_37 : List Bool := [false, false, false, false, false, false, false, true, true]
abbrev mk_38 : List Bool := [true, true, true, true, true, true, true, false, false]
abbrev mk_39 : List Bool := [true, true, true, true, true, true, true, true, true, true, true, true, true, true, true, false]
abbrev mk_40 : List Bool := [false, false, false, false, false, false, false, false, false, false, false, false, false, false, false, true]
abbrev mk_41 : List Bool := [false, false, false, false, false, false, false, false, false, false, false, false, false, false, false, true, true, true, true, true, true, true, false]
abbrev mk_42 : List Bool := [true, true, true, true, true, true, true, true, true, true, true, true, true, true, true, false, false, false, false, false, false, false, true]
end
-- 04zz.fr.lean.txt
section
/-! a call reaches a piece of the world: how the pieces lie (no list of cells is compared where the pieces are whole) -/
theorem kST_app {α : Type} : ∀ (m : List Bool) (a : List α) (n : List Bool) (b : List α), kLn m a = true → kST (m ++ n) (a ++ b) = kST m a ++ kST n b := by
  intro m
  induction m with
  | nil =>
    intro a n b h
    cases a with
    | nil => rfl
    | cons x a => exact absurd h (by simp [kLn])
  | cons z m ih =>
    intro a n b h
    cases a with
    | nil => exact absurd h (by simp [kLn])
    | cons x a =>
      have h' : kLn m a = true := h
      have e := ih a n b h'
      cases z with
      | true =>
        show x :: kST (m ++ n) (a ++ b) = x :: (kST m a ++ kST n b)
        rw [e]
      | false => exact e
theorem kLn_app {α : Type} : ∀ {m : List Bool} {a : List α} {n : List Bool} {b : List α}, kLn m a = true → kLn n b = true → kLn (m ++ n) (a ++ b) = true := by
  intro m
  induction m with
  | nil =>
    intro a n b h g
    cases a with
    | nil => exact g
    | cons x a => exact absurd h (by simp [kLn])
  | cons z m ih =>
    intro a n b h g
    cases a with
    | nil => exact absurd h (by simp [kLn])
    | cons x a =>
      have h' : kLn m a = true := h
      exact ih (a := a) h' g
theorem kLn_not {α : Type} : ∀ {m : List Bool} {a : List α}, kLn m a = true → kLn (m.map (!·)) a = true := by
  intro m
  induction m with
  | nil => intro a h; exact h
  | cons z m ih =>
    intro a h
    cases a with
    | nil => exact absurd h (by simp [kLn])
    | cons x a =>
      have h' : kLn m a = true := h
      exact ih (a := a) h'
theorem kLn_rep {α : Type} (z : Bool) : ∀ (l : List α), kLn (List.replicate l.length z) l = true := by
  intro l
  induction l with
  | nil => rfl
  | cons x l ih => exact ih
theorem kST_t {α : Type} : ∀ (l : List α), kST (List.replicate l.length true) l = l := by
  intro l
  induction l with
  | nil => rfl
  | cons x l ih =>
    show x :: kST (List.replicate l.length true) l = x :: l
    rw [ih]
theorem kST_f {α : Type} : ∀ (l : List α), kST (List.replicate l.length false) l = [] := by
  intro l
  induction l with
  | nil => rfl
  | cons x l ih => exact ih
def kFr (wc ws w1 ws' : va_W) : Prop := ∃ m : List Bool, kLn m ws = true ∧ kLn m ws' = true ∧ kST m ws = wc ∧ kST m ws' = w1 ∧ kST (m.map (!·)) ws' = kST (m.map (!·)) ws ∧ ws'.map (·.1) = ws.map (·.1)
theorem kFr_k {wc ws w1 ws' : va_W} (m : List Bool) (h1 : kLn m ws = true) (h2 : kLn m ws' = true) (h3 : kST m ws = wc) (h4 : kST m ws' = w1) (h5 : kST (m.map (!·)) ws' = kST (m.map (!·)) ws) (h6 : ws'.map (·.1) = ws.map (·.1)) : kFr wc ws w1 ws' := ⟨m, h1, h2, h3, h4, h5, h6⟩
theorem kFr_n {ws : va_W} : kFr [] ws [] ws := ⟨List.replicate ws.length false, kLn_rep _ _, kLn_rep _ _, kST_f _, kST_f _, rfl, rfl⟩
theorem kFr_a {wc w1 : va_W} (h : w1.map (·.1) = wc.map (·.1)) : kFr wc wc w1 w1 := by
  have e : wc.length = w1.length := by
    have := congrArg List.length h
    rw [List.length_map, List.length_map] at this
    exact this.symm
  have f1 := kST_f w1
  have t1 := kST_t w1
  have l1 := kLn_rep true w1
  rw [← e] at f1 t1 l1
  refine ⟨List.replicate wc.length true, kLn_rep _ _, l1, kST_t _, t1, ?_, h⟩
  rw [List.map_replicate]
  exact f1.trans (kST_f wc).symm
theorem kFr_2 {wc a w1 a' vc b v1 b' : va_W} (f : kFr wc a w1 a') (g : kFr vc b v1 b') : kFr (wc ++ vc) (a ++ b) (w1 ++ v1) (a' ++ b') := by
  obtain ⟨m, h1, h2, h3, h4, h5, h6⟩ := f
  obtain ⟨n, g1, g2, g3, g4, g5, g6⟩ := g
  refine ⟨m ++ n, kLn_app h1 g1, kLn_app h2 g2, ?_, ?_, ?_, ?_⟩
  · rw [kST_app _ _ _ _ h1, h3, g3]
  · rw [kST_app _ _ _ _ h2, h4, g4]
  · rw [List.map_append, kST_app _ _ _ _ (kLn_not h2), kST_app _ _ _ _ (kLn_not h1), h5, g5]
  · rw [List.map_append, List.map_append, h6, g6]
theorem kFr_l {wc a w1 a' b : va_W} (f : kFr wc a w1 a') : kFr wc (a ++ b) w1 (a' ++ b) := by
  have h := kFr_2 f (kFr_n (ws := b))
  rw [List.append_nil, List.append_nil] at h
  exact h
theorem kFr_r {wc a w1 b b' : va_W} (f : kFr wc b w1 b') : kFr wc (a ++ b) w1 (a ++ b') := kFr_2 (kFr_n (ws := a)) f
theorem kFr_o {o : Nat} {e e' : va_E} : kFr [(o, e)] [(o, e)] [(o, e')] [(o, e')] := kFr_a rfl
section KFA
variable {cI cJ cZ : ClassId} {a b : Nat → Nat} {h0 h1 h2 h3 : Nat} {ce sb se wb we fb fe ce' sb' se' wb' we' fb' fe' rb re rb' re' mce mbe men mwb mwe mce' mbe' men' mwb' mwe' : Nat → Int64} {so wo fo rm so' wo' fo' rm' ro ro' mov mov' : Nat → Int32} {fr un fr' un' mfr mun mfr' mun' : Int64} {sc wc fc ac rf kn sc' wc' fc' ac' rf' kn' rc rc' msp mwi mac mre mkn mth msp' mwi' mac' mre' mkn' mth' : Int32}
theorem kFr_SB : kFr (wSB cI cJ cZ a ce fr un sb se so sc wb we wo wc fb fe fo fc rm ac rf kn) (wSB cI cJ cZ a ce fr un sb se so sc wb we wo wc fb fe fo fc rm ac rf kn) (wSB cI cJ cZ a ce' fr' un' sb' se' so' sc' wb' we' wo' wc' fb' fe' fo' fc' rm' ac' rf' kn') (wSB cI cJ cZ a ce' fr' un' sb' se' so' sc' wb' we' wo' wc' fb' fe' fo' fc' rm' ac' rf' kn') := kFr_a rfl
theorem kFr_Mo : kFr (wMo cJ cZ b mce mfr mun mbe men mov msp mwb mwe mwi mac mre mkn mth) (wMo cJ cZ b mce mfr mun mbe men mov msp mwb mwe mwi mac mre mkn mth) (wMo cJ cZ b mce' mfr' mun' mbe' men' mov' msp' mwb' mwe' mwi' mac' mre' mkn' mth') (wMo cJ cZ b mce' mfr' mun' mbe' men' mov' msp' mwb' mwe' mwi' mac' mre' mkn' mth') := kFr_a rfl
theorem kFr_Row : kFr (wRow cJ cZ h0 h1 h2 h3 rb re ro rc) (wRow cJ cZ h0 h1 h2 h3 rb re ro rc) (wRow cJ cZ h0 h1 h2 h3 rb' re' ro' rc') (wRow cJ cZ h0 h1 h2 h3 rb' re' ro' rc') := kFr_a rfl
theorem kFr_SBs : kFr (wRow cJ cZ (a 2) (a 3) (a 4) (a 5) sb se so sc) (wSB cI cJ cZ a ce fr un sb se so sc wb we wo wc fb fe fo fc rm ac rf kn) (wRow cJ cZ (a 2) (a 3) (a 4) (a 5) sb' se' so' sc') (wSB cI cJ cZ a ce fr un sb' se' so' sc' wb we wo wc fb fe fo fc rm ac rf kn) := kFr_k [false, false, true, true, true, true, false, false, false, false, false, false, false, false, false] rfl rfl rfl rfl rfl rfl
theorem kFr_SBw : kFr (wRow cJ cZ (a 6) (a 7) (a 8) (a 9) wb we wo wc) (wSB cI cJ cZ a ce fr un sb se so sc wb we wo wc fb fe fo fc rm ac rf kn) (wRow cJ cZ (a 6) (a 7) (a 8) (a 9) wb' we' wo' wc') (wSB cI cJ cZ a ce fr un sb se so sc wb' we' wo' wc' fb fe fo fc rm ac rf kn) := kFr_k [false, false, false, false, false, false, true, true, true, true, false, false, false, false, false] rfl rfl rfl rfl rfl rfl
theorem kFr_SBf : kFr (wRow cJ cZ (a 10) (a 11) (a 12) (a 13) fb fe fo fc) (wSB cI cJ cZ a ce fr un sb se so sc wb we wo wc fb fe fo fc rm ac rf kn) (wRow cJ cZ (a 10) (a 11) (a 12) (a 13) fb' fe' fo' fc') (wSB cI cJ cZ a ce fr un sb se so sc wb we wo wc fb' fe' fo' fc' rm ac rf kn) := kFr_k [false, false, false, false, false, false, false, false, false, false, true, true, true, true, false] rfl rfl rfl rfl rfl rfl
end KFA
theorem kpVXq {s : State} {H : Heap} {locs : List Loc} {C : String} {b : Addr} {As : List Value} {D : va_G} {tys : List (ClassId × FieldType)} {wc : va_W} {A : Nat → Prop} (hP : va_P D vwCl wc H) (hK : va_K D vwCl tys s) (hD : va_D A wc) (hG : kG s) (hZ : kZ A s s.heap) (hS : va_S A s.heap H locs) (hF : ∀ q, va_A wc H.size q → A q) (hr : ∃ cellB : Cell, H[b]? = some cellB ∧ cellB.vm.isStatics = false ∧ s.vm.findClass C = some cellB.cls) : PreV s H C b (kPreX D tys (.ref b :: As) H.size wc) As :=
  ⟨kPreX_blind, hr, fun U hU hW => ⟨rfl, by rw [hU], by rw [hU]; exact hP, va_K.moved hW.alike hK, hD.weaken (fun _ _ _ _ => trivial), kG_warm hW hG, by rw [hU]; exact ((hZ.kept hS.2.1).narrow hF).warm hW⟩⟩
theorem kpSXq {s : State} {H : Heap} {locs : List Loc} {As : List Value} {D : va_G} {tys : List (ClassId × FieldType)} {wc : va_W} {A : Nat → Prop} (hP : va_P D vwCl wc H) (hK : va_K D vwCl tys s) (hD : va_D A wc) (hG : kG s) (hZ : kZ A s s.heap) (hS : va_S A s.heap H locs) (hF : ∀ q, va_A wc H.size q → A q) : PreS s H (kPreX D tys As H.size wc) As :=
  ⟨kPreX_blind, fun U hU hW => ⟨rfl, by rw [hU], by rw [hU]; exact hP, va_K.moved hW.alike hK, hD.weaken (fun _ _ _ _ => trivial), kG_warm hW hG, by rw [hU]; exact ((hZ.kept hS.2.1).narrow hF).warm hW⟩⟩
section KQ
variable {p : Program} {l : Launch} {e0 : Env} {R : Room} {s : State} {m : MethodId} {args : Array Value} {below : List Frame} {meth : Method} {c : Code} {H : Heap} {locs : List Loc} {cells slots : Nat} {Q : State → Prop}
variable {cc : ByteArray} {pc : Nat} {ls : Array Slot} {rest st0 : List Value} {D : va_G} {A A0 : Nat → Prop} {ws wc w1 : va_W} {H0 : Heap} {a : Array Value} {mc ms : Nat}
theorem kq_i {ty : FieldType} {r : Int32} (ws' : va_W) (hr : va_P D vwCl wc H → va_D A0 wc → (∀ q, va_A wc H.size q → A0 q) → va_Run p l e0 R s m args below meth c H locs cells slots mc ms (F0 m pc ls st0) rest (kI D ty r w1 (va_A wc H.size) a) (va_A wc H.size)) (hP : va_P D vwCl ws H) (hD : va_D A0 ws) (hS : va_S A0 H0 H locs) (hA : ∀ q, H0.size ≤ q → A0 q) (f : kFr wc ws w1 ws')
    (kk : ∀ (H1 : Heap) (locs1 : List Loc), va_P D vwCl ws' H1 → va_D A0 ws' → va_S A0 H0 H1 locs1 → narrow ty (.int r) = .int r → W p l e0 R s m args below meth c H1 locs1 (cells + mc) (slots + ms) Q (F0 m (pc + 3) ls (.int r :: rest))) : W p l e0 R s m args below meth c H locs cells slots Q (F0 m pc ls st0) := by
  obtain ⟨n, h1, h2, h3, h4, h5, h6⟩ := f
  exact kcall_i ws' (hr (hP.sub (kIT n 0) (km_f h1 h3)) (hD.sub (kIT n 0) (km_nd n) (km_T h1 h3)) (va_free hD hS hA (kIT n 0) (km_T h1 h3))) hP hD hS hA (kIT n 0) (kIT (n.map (!·)) 0) (km_T h1 h3) (km_T h2 h4) (kST (n.map (!·)) ws) (km_T (kLn_not h1) rfl) (km_T (kLn_not h2) h5) (km_cov h2 rfl) (km_dis rfl) h6 kk
theorem kq_l {r : Int64} (ws' : va_W) (hr : va_P D vwCl wc H → va_D A0 wc → (∀ q, va_A wc H.size q → A0 q) → va_Run p l e0 R s m args below meth c H locs cells slots mc ms (F0 m pc ls st0) rest (kL D r w1 (va_A wc H.size) a) (va_A wc H.size)) (hP : va_P D vwCl ws H) (hD : va_D A0 ws) (hS : va_S A0 H0 H locs) (hA : ∀ q, H0.size ≤ q → A0 q) (f : kFr wc ws w1 ws')
    (kk : ∀ (H1 : Heap) (locs1 : List Loc), va_P D vwCl ws' H1 → va_D A0 ws' → va_S A0 H0 H1 locs1 → W p l e0 R s m args below meth c H1 locs1 (cells + mc) (slots + ms) Q (F0 m (pc + 3) ls (.long r :: rest))) : W p l e0 R s m args below meth c H locs cells slots Q (F0 m pc ls st0) := by
  obtain ⟨n, h1, h2, h3, h4, h5, h6⟩ := f
  exact kcall_l ws' (hr (hP.sub (kIT n 0) (km_f h1 h3)) (hD.sub (kIT n 0) (km_nd n) (km_T h1 h3)) (va_free hD hS hA (kIT n 0) (km_T h1 h3))) hP hD hS hA (kIT n 0) (kIT (n.map (!·)) 0) (km_T h1 h3) (km_T h2 h4) (kST (n.map (!·)) ws) (km_T (kLn_not h1) rfl) (km_T (kLn_not h2) h5) (km_cov h2 rfl) (km_dis rfl) h6 kk
theorem kq_v (ws' : va_W) (hr : va_P D vwCl wc H → va_D A0 wc → (∀ q, va_A wc H.size q → A0 q) → va_Run p l e0 R s m args below meth c H locs cells slots mc ms (F0 m pc ls st0) rest (kV D w1 (va_A wc H.size) a) (va_A wc H.size)) (hP : va_P D vwCl ws H) (hD : va_D A0 ws) (hS : va_S A0 H0 H locs) (hA : ∀ q, H0.size ≤ q → A0 q) (f : kFr wc ws w1 ws')
    (kk : ∀ (H1 : Heap) (locs1 : List Loc), va_P D vwCl ws' H1 → va_D A0 ws' → va_S A0 H0 H1 locs1 → W p l e0 R s m args below meth c H1 locs1 (cells + mc) (slots + ms) Q (F0 m (pc + 3) ls rest)) : W p l e0 R s m args below meth c H locs cells slots Q (F0 m pc ls st0) := by
  obtain ⟨n, h1, h2, h3, h4, h5, h6⟩ := f
  exact kcall_v ws' (hr (hP.sub (kIT n 0) (km_f h1 h3)) (hD.sub (kIT n 0) (km_nd n) (km_T h1 h3)) (va_free hD hS hA (kIT n 0) (km_T h1 h3))) hP hD hS hA (kIT n 0) (kIT (n.map (!·)) 0) (km_T h1 h3) (km_T h2 h4) (kST (n.map (!·)) ws) (km_T (kLn_not h1) rfl) (km_T (kLn_not h2) h5) (km_cov h2 rfl) (km_dis rfl) h6 kk
theorem kq_x {k MC MS : Nat} (ws' : va_W) (hr : va_P D vwCl wc H → va_D A0 wc → (∀ q, va_A wc H.size q → A0 q) → vx_Run p l e0 R s m args below meth c H locs cells slots mc ms (F0 m pc ls st0) rest (kNo a) (kX D k w1 (va_A wc H.size)) (va_A wc H.size)) (hP : va_P D vwCl ws H) (hD : va_D A0 ws) (hS : va_S A0 s.heap H locs) (hA : ∀ q, s.heap.size ≤ q → A0 q) (f : kFr wc ws w1 ws')
    (hout : ∀ x ∈ c.exceptionTable.toList, False) (hlocks : meth.locks = false) (hc : cells + mc ≤ MC) (hs : slots + ms ≤ MS) : W p l e0 R s m args below meth c H locs cells slots (vx_MQ below kNo (kX D k ws' A0) args s MC MS A0) (F0 m pc ls st0) := by
  obtain ⟨n, h1, h2, h3, h4, h5, h6⟩ := f
  exact kcall_x ws' (hr (hP.sub (kIT n 0) (km_f h1 h3)) (hD.sub (kIT n 0) (km_nd n) (km_T h1 h3)) (va_free hD hS hA (kIT n 0) (km_T h1 h3))) hP hD hS hA (kIT n 0) (kIT (n.map (!·)) 0) (km_T h1 h3) (km_T h2 h4) (kST (n.map (!·)) ws) (km_T (kLn_not h1) rfl) (km_T (kLn_not h2) h5) (km_cov h2 rfl) (km_dis rfl) h6 hout hlocks hc hs
end KQ
/-! a method's start, in one row: its world's places are forgotten (A), its locals are those of its arguments -/
theorem kmet {l : Launch} {y : MethodName} {ws ws' : List Cond} {rm : Room} {D : va_G} {tys : List (ClassId × FieldType)} {av : List Value} {sz mc ms : Nat} {w : va_W} {cc : ByteArray} {maxL : Nat} {ret : Option FieldType} (G : (Nat → Prop) → Array Value → State → Outcome → State → Prop) (own : String) (L : List (Nat × Value)) (hy : plainName y.cls = true) (hw : ws = Cond.code y cc maxL ret :: ws') (ho : y.cls = own) (hav : (lg_sl av).length ≤ maxL) (hL : lv_args 0 av = L)
    (body : ∀ (p : Program) (e : Env) (s : State) (m : MethodId) (below : List Frame) (meth : Method) (c : Code) (A : Nat → Prop) (ls : Array Slot), p.tables.exec = Jvm.exec → c.code = cc → meth.sig.returnType = ret → c.maxLocals = maxL → (∀ x ∈ ws, x.before av.toArray s = true) → s.vm.findClass own = some m.cls → meth.locks = false → va_P D vwCl w s.heap → va_K D vwCl tys s → kG s → va_D A w → (∀ q : Nat, s.heap.size ≤ q → A q) → va_S A s.heap s.heap [] → lv_has ls maxL L →
      W p l e (headSpec ws rm).room s m av.toArray below meth c s.heap [] 0 0 (MQ below (G A) av.toArray s mc ms A) (F0 m 0 ls [])) : Met l y ws rm (kPre D tys av sz w) (G (va_A w sz)) mc ms (va_A w sz) := by
  refine Met.ofW (cc := cc) (maxL := maxL) (ret := ret) hy hw ?_
  intro p e s m args below meth c s₁ B hml hv
  obtain ⟨rfl, hsz, hP, hK, hD0, hG⟩ := hv
  subst hsz
  have hown : s.vm.findClass own = some m.cls := by rw [← ho]; exact findClass_of_methodNamed B.named
  have hl := lv_entry av hav
  rw [hL] at hl
  rw [lg_entry_eq]
  exact body p e s m below meth c (va_A w s.heap.size) _ B.exec B.bytes B.returns hml (atoms_spec (ws := ws) B.pre) hown B.notSynchronized hP hK hG hD0.self (fun q h => Or.inr h) va_S.rf hl
theorem kmet_i {l : Launch} {y : MethodName} {ws ws' : List Cond} {rm : Room} {D : va_G} {tys : List (ClassId × FieldType)} {av : List Value} {sz mc ms : Nat} {w w1 : va_W} {cc : ByteArray} {maxL : Nat} {ret : Option FieldType} {ty : FieldType} {r : Int32} (own : String) (L : List (Nat × Value)) (hy : plainName y.cls = true) (hw : ws = Cond.code y cc maxL ret :: ws') (ho : y.cls = own) (hav : (lg_sl av).length ≤ maxL) (hL : lv_args 0 av = L)
    (body : ∀ (p : Program) (e : Env) (s : State) (m : MethodId) (below : List Frame) (meth : Method) (c : Code) (A : Nat → Prop) (ls : Array Slot), p.tables.exec = Jvm.exec → c.code = cc → meth.sig.returnType = ret → c.maxLocals = maxL → (∀ x ∈ ws, x.before av.toArray s = true) → s.vm.findClass own = some m.cls → meth.locks = false → va_P D vwCl w s.heap → va_K D vwCl tys s → kG s → va_D A w → (∀ q : Nat, s.heap.size ≤ q → A q) → va_S A s.heap s.heap [] → lv_has ls maxL L →
      W p l e (headSpec ws rm).room s m av.toArray below meth c s.heap [] 0 0 (MQ below (kI D ty r w1 A) av.toArray s mc ms A) (F0 m 0 ls [])) : Met l y ws rm (kPre D tys av sz w) (kI D ty r w1 (va_A w sz)) mc ms (va_A w sz) := kmet (fun A => kI D ty r w1 A) own L hy hw ho hav hL body
theorem kmet_l {l : Launch} {y : MethodName} {ws ws' : List Cond} {rm : Room} {D : va_G} {tys : List (ClassId × FieldType)} {av : List Value} {sz mc ms : Nat} {w w1 : va_W} {cc : ByteArray} {maxL : Nat} {ret : Option FieldType} {r : Int64} (own : String) (L : List (Nat × Value)) (hy : plainName y.cls = true) (hw : ws = Cond.code y cc maxL ret :: ws') (ho : y.cls = own) (hav : (lg_sl av).length ≤ maxL) (hL : lv_args 0 av = L)
    (body : ∀ (p : Program) (e : Env) (s : State) (m : MethodId) (below : List Frame) (meth : Method) (c : Code) (A : Nat → Prop) (ls : Array Slot), p.tables.exec = Jvm.exec → c.code = cc → meth.sig.returnType = ret → c.maxLocals = maxL → (∀ x ∈ ws, x.before av.toArray s = true) → s.vm.findClass own = some m.cls → meth.locks = false → va_P D vwCl w s.heap → va_K D vwCl tys s → kG s → va_D A w → (∀ q : Nat, s.heap.size ≤ q → A q) → va_S A s.heap s.heap [] → lv_has ls maxL L →
      W p l e (headSpec ws rm).room s m av.toArray below meth c s.heap [] 0 0 (MQ below (kL D r w1 A) av.toArray s mc ms A) (F0 m 0 ls [])) : Met l y ws rm (kPre D tys av sz w) (kL D r w1 (va_A w sz)) mc ms (va_A w sz) := kmet (fun A => kL D r w1 A) own L hy hw ho hav hL body
theorem kmet_v {l : Launch} {y : MethodName} {ws ws' : List Cond} {rm : Room} {D : va_G} {tys : List (ClassId × FieldType)} {av : List Value} {sz mc ms : Nat} {w w1 : va_W} {cc : ByteArray} {maxL : Nat} {ret : Option FieldType} (own : String) (L : List (Nat × Value)) (hy : plainName y.cls = true) (hw : ws = Cond.code y cc maxL ret :: ws') (ho : y.cls = own) (hav : (lg_sl av).length ≤ maxL) (hL : lv_args 0 av = L)
    (body : ∀ (p : Program) (e : Env) (s : State) (m : MethodId) (below : List Frame) (meth : Method) (c : Code) (A : Nat → Prop) (ls : Array Slot), p.tables.exec = Jvm.exec → c.code = cc → meth.sig.returnType = ret → c.maxLocals = maxL → (∀ x ∈ ws, x.before av.toArray s = true) → s.vm.findClass own = some m.cls → meth.locks = false → va_P D vwCl w s.heap → va_K D vwCl tys s → kG s → va_D A w → (∀ q : Nat, s.heap.size ≤ q → A q) → va_S A s.heap s.heap [] → lv_has ls maxL L →
      W p l e (headSpec ws rm).room s m av.toArray below meth c s.heap [] 0 0 (MQ below (kV D w1 A) av.toArray s mc ms A) (F0 m 0 ls [])) : Met l y ws rm (kPre D tys av sz w) (kV D w1 (va_A w sz)) mc ms (va_A w sz) := kmet (fun A => kV D w1 A) own L hy hw ho hav hL body
theorem kmet_x {l : Launch} {y : MethodName} {ws ws' : List Cond} {rm : Room} {D : va_G} {tys : List (ClassId × FieldType)} {av : List Value} {sz mc ms k : Nat} {w w1 : va_W} {cc : ByteArray} {maxL : Nat} {ret : Option FieldType} (own : String) (L : List (Nat × Value)) (hy : plainName y.cls = true) (hw : ws = Cond.code y cc maxL ret :: ws') (ho : y.cls = own) (hav : (lg_sl av).length ≤ maxL) (hL : lv_args 0 av = L)
    (body : ∀ (p : Program) (e : Env) (s : State) (m : MethodId) (below : List Frame) (meth : Method) (c : Code) (A : Nat → Prop) (ls : Array Slot), p.tables.exec = Jvm.exec → c.code = cc → meth.sig.returnType = ret → c.maxLocals = maxL → (∀ x ∈ c.exceptionTable.toList, False) → (∀ x ∈ ws, x.before av.toArray s = true) → s.vm.findClass own = some m.cls → meth.locks = false → va_P D vwCl w s.heap → va_K D vwCl tys s → kG s → kZ A s s.heap → va_D A w → (∀ q : Nat, s.heap.size ≤ q → A q) → va_S A s.heap s.heap [] → lv_has ls maxL L →
      W p l e (headSpec ws rm).room s m av.toArray below meth c s.heap [] 0 0 (vx_MQ below kNo (kX D k w1 A) av.toArray s mc ms A) (F0 m 0 ls [])) : vx_Met l y ws rm (kPreX D tys av sz w) kNo (kX D k w1 (va_A w sz)) mc ms (va_A w sz) := by
  refine vx_ofW (cc := cc) (maxL := maxL) (ret := ret) hy hw ?_
  intro p e s m args below meth c s₁ B hml ht hv
  obtain ⟨rfl, hsz, hP, hK, hD0, hG, hZ⟩ := hv
  subst hsz
  have hown : s.vm.findClass own = some m.cls := by rw [← ho]; exact findClass_of_methodNamed B.named
  have hl := lv_entry av hav
  rw [hL] at hl
  rw [lg_entry_eq]
  exact body p e s m below meth c (va_A w s.heap.size) _ B.exec B.bytes B.returns hml ht (atoms_spec (ws := ws) B.pre) hown B.notSynchronized hP hK hG hZ hD0.self (fun q h => Or.inr h) va_S.rf hl
theorem kmet_w {l : Launch} {y : MethodName} {ws ws' : List Cond} {rm : Room} {D : va_G} {tys : List (ClassId × FieldType)} {av : List Value} {sz mc ms : Nat} {w w1 : va_W} {cc : ByteArray} {maxL : Nat} {ret : Option FieldType} {ty : FieldType} {r : Int32} {hh : List (Nat × Nat × Nat × Nat)} (own : String) (L : List (Nat × Value)) (hy : plainName y.cls = true) (hw : ws = Cond.codeWith y cc maxL ret hh :: ws') (ho : y.cls = own) (hav : (lg_sl av).length ≤ maxL) (hL : lv_args 0 av = L)
    (body : ∀ (p : Program) (e : Env) (s : State) (m : MethodId) (below : List Frame) (meth : Method) (c : Code) (A : Nat → Prop) (ls : Array Slot), p.tables.exec = Jvm.exec → c.code = cc → meth.sig.returnType = ret → c.maxLocals = maxL → c.exceptionTable.toList = tableOf hh → (∀ x ∈ ws, x.before av.toArray s = true) → s.vm.findClass own = some m.cls → meth.locks = false → va_P D vwCl w s.heap → va_K D vwCl tys s → kG s → kZ A s s.heap → va_D A w → (∀ q : Nat, s.heap.size ≤ q → A q) → va_S A s.heap s.heap [] → lv_has ls maxL L →
      W p l e (headSpec ws rm).room s m av.toArray below meth c s.heap [] 0 0 (MQ below (kI D ty r w1 A) av.toArray s mc ms A) (F0 m 0 ls [])) : Met l y ws rm (kPreX D tys av sz w) (kI D ty r w1 (va_A w sz)) mc ms (va_A w sz) := by
  refine va_MetW (cc := cc) (maxL := maxL) (ret := ret) (hh := hh) hy hw ?_
  intro p e s m args below meth c s₁ B hml hv
  obtain ⟨rfl, hsz, hP, hK, hD0, hG, hZ⟩ := hv
  subst hsz
  have hts := atoms_spec (ws := ws) B.pre
  have hht := vx_table (x := y) B (hts _ (by rw [hw]; exact List.mem_cons_self))
  have hown : s.vm.findClass own = some m.cls := by rw [← ho]; exact findClass_of_methodNamed B.named
  have hl := lv_entry av hav
  rw [hL] at hl
  rw [lg_entry_eq]
  exact body p e s m below meth c (va_A w s.heap.size) _ B.exec B.bytes B.returns hml hht hts hown B.notSynchronized hP hK hG hZ hD0.self (fun q h => Or.inr h) va_S.rf hl
theorem krecv_0 {s : State} {H : Heap} {D : va_G} {a q0 : Nat} {fs : List Value} {ws : va_W} {tys : List (ClassId × FieldType)} (hK : va_K D vwCl tys s) (hP : va_P D vwCl ws H) (he : ws[q0]? = some (a, .inr (0, fs))) : ∃ cell : Cell, H[a]? = some cell ∧ cell.vm.isStatics = false ∧ s.vm.findClass RJ0 = some cell.cls := va_recv (ci := 0) (q := (RJ0, TJ0, 4)) hK hP rfl he
theorem krecv_1 {s : State} {H : Heap} {D : va_G} {a q0 : Nat} {fs : List Value} {ws : va_W} {tys : List (ClassId × FieldType)} (hK : va_K D vwCl tys s) (hP : va_P D vwCl ws H) (he : ws[q0]? = some (a, .inr (1, fs))) : ∃ cell : Cell, H[a]? = some cell ∧ cell.vm.isStatics = false ∧ s.vm.findClass RJ4 = some cell.cls := va_recv (ci := 1) (q := (RJ4, TJ4, 4)) hK hP rfl he
theorem krecv_2 {s : State} {H : Heap} {D : va_G} {a q0 : Nat} {fs : List Value} {ws : va_W} {tys : List (ClassId × FieldType)} (hK : va_K D vwCl tys s) (hP : va_P D vwCl ws H) (he : ws[q0]? = some (a, .inr (2, fs))) : ∃ cell : Cell, H[a]? = some cell ∧ cell.vm.isStatics = false ∧ s.vm.findClass RX0 = some cell.cls := va_recv (ci := 2) (q := (RX0, TX0, 4)) hK hP rfl he
theorem krecv_3 {s : State} {H : Heap} {D : va_G} {a q0 : Nat} {fs : List Value} {ws : va_W} {tys : List (ClassId × FieldType)} (hK : va_K D vwCl tys s) (hP : va_P D vwCl ws H) (he : ws[q0]? = some (a, .inr (3, fs))) : ∃ cell : Cell, H[a]? = some cell ∧ cell.vm.isStatics = false ∧ s.vm.findClass RX1 = some cell.cls := va_recv (ci := 3) (q := (RX1, TX1, 10)) hK hP rfl he
theorem krecv_4 {s : State} {H : Heap} {D : va_G} {a q0 : Nat} {fs : List Value} {ws : va_W} {tys : List (ClassId × FieldType)} (hK : va_K D vwCl tys s) (hP : va_P D vwCl ws H) (he : ws[q0]? = some (a, .inr (4, fs))) : ∃ cell : Cell, H[a]? = some cell ∧ cell.vm.isStatics = false ∧ s.vm.findClass RX2 = some cell.cls := va_recv (ci := 4) (q := (RX2, TX2, 2)) hK hP rfl he
theorem krecv_5 {s : State} {H : Heap} {D : va_G} {a q0 : Nat} {fs : List Value} {ws : va_W} {tys : List (ClassId × FieldType)} (hK : va_K D vwCl tys s) (hP : va_P D vwCl ws H) (he : ws[q0]? = some (a, .inr (5, fs))) : ∃ cell : Cell, H[a]? = some cell ∧ cell.vm.isStatics = false ∧ s.vm.findClass RX3 = some cell.cls := va_recv (ci := 5) (q := (RX3, TX3, 14)) hK hP rfl he
theorem kpl_X0 : plainName RX0 = true := by decide
theorem kpl_X1 : plainName RX1 = true := by decide
theorem kpl_X2 : plainName RX2 = true := by decide
theorem kpl_X3 : plainName RX3 = true := by decide
theorem kpl_L : plainName RL = true := by decide
theorem kb_g1 {m : List Nat} {LL : List (List Cond)} (h : kPg m tables_1_1 = List.flatten LL) (hg : (kPg m tables_1_1).all goodWord = true) (j k : Nat) {L : List Cond} {w : Cond} (hj : LL[j]? = some L) (hk : L[k]? = some w) : w ∈ kBIG := List.mem_append_left _ (List.mem_filter.mpr ⟨List.mem_append_right _ (kt_g1 h j k hj hk), List.all_eq_true.mp hg w (by rw [h]; exact List.mem_flatten.mpr ⟨L, List.mem_of_getElem? hj, List.mem_of_getElem? hk⟩)⟩)
theorem kb_g2 {m : List Nat} {LL : List (List Cond)} (h : kPg m tables_1_2 = List.flatten LL) (hg : (kPg m tables_1_2).all goodWord = true) (j k : Nat) {L : List Cond} {w : Cond} (hj : LL[j]? = some L) (hk : L[k]? = some w) : w ∈ kBIG := List.mem_append_left _ (List.mem_filter.mpr ⟨List.mem_append_right _ (kt_g2 h j k hj hk), List.all_eq_true.mp hg w (by rw [h]; exact List.mem_flatten.mpr ⟨L, List.mem_of_getElem? hj, List.mem_of_getElem? hk⟩)⟩)
theorem kb_g3 {m : List Nat} {LL : List (List Cond)} (h : kPg m tables_1_3 = List.flatten LL) (hg : (kPg m tables_1_3).all goodWord = true) (j k : Nat) {L : List Cond} {w : Cond} (hj : LL[j]? = some L) (hk : L[k]? = some w) : w ∈ kBIG := List.mem_append_left _ (List.mem_filter.mpr ⟨List.mem_append_right _ (kt_g3 h j k hj hk), List.all_eq_true.mp hg w (by rw [h]; exact List.mem_flatten.mpr ⟨L, List.mem_of_getElem? hj, List.mem_of_getElem? hk⟩)⟩)
theorem kb_g4 {m : List Nat} {LL : List (List Cond)} (h : kPg m tables_1_4 = List.flatten LL) (hg : (kPg m tables_1_4).all goodWord = true) (j k : Nat) {L : List Cond} {w : Cond} (hj : LL[j]? = some L) (hk : L[k]? = some w) : w ∈ kBIG := List.mem_append_left _ (List.mem_filter.mpr ⟨List.mem_append_right _ (kt_g4 h j k hj hk), List.all_eq_true.mp hg w (by rw [h]; exact List.mem_flatten.mpr ⟨L, List.mem_of_getElem? hj, List.mem_of_getElem? hk⟩)⟩)
theorem kb_g5 {m : List Nat} {LL : List (List Cond)} (h : kPg m tables_1_5 = List.flatten LL) (hg : (kPg m tables_1_5).all goodWord = true) (j k : Nat) {L : List Cond} {w : Cond} (hj : LL[j]? = some L) (hk : L[k]? = some w) : w ∈ kBIG := List.mem_append_left _ (List.mem_filter.mpr ⟨List.mem_append_right _ (kt_g5 h j k hj hk), List.all_eq_true.mp hg w (by rw [h]; exact List.mem_flatten.mpr ⟨L, List.mem_of_getElem? hj, List.mem_of_getElem? hk⟩)⟩)
theorem kb_g6 {m : List Nat} {LL : List (List Cond)} (h : kPg m tables_1_6 = List.flatten LL) (hg : (kPg m tables_1_6).all goodWord = true) (j k : Nat) {L : List Cond} {w : Cond} (hj : LL[j]? = some L) (hk : L[k]? = some w) : w ∈ kBIG := List.mem_append_left _ (List.mem_filter.mpr ⟨List.mem_append_right _ (kt_g6 h j k hj hk), List.all_eq_true.mp hg w (by rw [h]; exact List.mem_flatten.mpr ⟨L, List.mem_of_getElem? hj, List.mem_of_getElem? hk⟩)⟩)
theorem kb_g7 {m : List Nat} {LL : List (List Cond)} (h : kPg m tables_1_7 = List.flatten LL) (hg : (kPg m tables_1_7).all goodWord = true) (j k : Nat) {L : List Cond} {w : Cond} (hj : LL[j]? = some L) (hk : L[k]? = some w) : w ∈ kBIG := List.mem_append_left _ (List.mem_filter.mpr ⟨List.mem_append_right _ (kt_g7 h j k hj hk), List.all_eq_true.mp hg w (by rw [h]; exact List.mem_flatten.mpr ⟨L, List.mem_of_getElem? hj, List.mem_of_getElem? hk⟩)⟩)
theorem kmh_RJ0 : RJ0 ≠ "java/lang/invoke/MethodHandle" := by decide +kernel
theorem kvh_RJ0 : RJ0 ≠ "java/lang/invoke/VarHandle" := by decide +kernel
theorem kmh_RJ1 : RJ1 ≠ "java/lang/invoke/MethodHandle" := by decide +kernel
theorem kvh_RJ1 : RJ1 ≠ "java/lang/invoke/VarHandle" := by decide +kernel
theorem kmh_RJ2 : RJ2 ≠ "java/lang/invoke/MethodHandle" := by decide +kernel
theorem kvh_RJ2 : RJ2 ≠ "java/lang/invoke/VarHandle" := by decide +kernel
theorem kmh_RJ3 : RJ3 ≠ "java/lang/invoke/MethodHandle" := by decide +kernel
theorem kvh_RJ3 : RJ3 ≠ "java/lang/invoke/VarHandle" := by decide +kernel
theorem kmh_RJ4 : RJ4 ≠ "java/lang/invoke/MethodHandle" := by decide +kernel
theorem kvh_RJ4 : RJ4 ≠ "java/lang/invoke/VarHandle" := by decide +kernel
theorem kmh_RJ5 : RJ5 ≠ "java/lang/invoke/MethodHandle" := by decide +kernel
theorem kvh_RJ5 : RJ5 ≠ "java/lang/invoke/VarHandle" := by decide +kernel
theorem kmh_RJ6 : RJ6 ≠ "java/lang/invoke/MethodHandle" := by decide +kernel
theorem kvh_RJ6 : RJ6 ≠ "java/lang/invoke/VarHandle" := by decide +kernel
theorem kmh_RJ7 : RJ7 ≠ "java/lang/invoke/MethodHandle" := by decide +kernel
theorem kvh_RJ7 : RJ7 ≠ "java/lang/invoke/VarHandle" := by decide +kernel
theorem kmh_RJ8 : RJ8 ≠ "java/lang/invoke/MethodHandle" := by decide +kernel
theorem kvh_RJ8 : RJ8 ≠ "java/lang/invoke/VarHandle" := by decide +kernel
theorem kmh_RJ9 : RJ9 ≠ "java/lang/invoke/MethodHandle" := by decide +kernel
theorem kvh_RJ9 : RJ9 ≠ "java/lang/invoke/VarHandle" := by decide +kernel
theorem kmh_RL : RL ≠ "java/lang/invoke/MethodHandle" := by decide +kernel
theorem kvh_RL : RL ≠ "java/lang/invoke/VarHandle" := by decide +kernel
theorem kmh_RX0 : RX0 ≠ "java/lang/invoke/MethodHandle" := by decide +kernel
theorem kvh_RX0 : RX0 ≠ "java/lang/invoke/VarHandle" := by decide +kernel
theorem kmh_RX1 : RX1 ≠ "java/lang/invoke/MethodHandle" := by decide +kernel
theorem kvh_RX1 : RX1 ≠ "java/lang/invoke/VarHandle" := by decide +kernel
theorem kmh_RX2 : RX2 ≠ "java/lang/invoke/MethodHandle" := by decide +kernel
theorem kvh_RX2 : RX2 ≠ "java/lang/invoke/VarHandle" := by decide +kernel
theorem kmh_RX3 : RX3 ≠ "java/lang/invoke/MethodHandle" := by decide +kernel
theorem kvh_RX3 : RX3 ≠ "java/lang/invoke/VarHandle" := by decide +kernel
theorem kpl_J0 : plainName RJ0 = true := by decide +kernel
theorem kpl_J1 : plainName RJ1 = true := by decide +kernel
theorem kpl_J4 : plainName RJ4 = true := by decide +kernel
theorem kpl_J5 : plainName RJ5 = true := by decide +kernel
theorem kpl_J6 : plainName RJ6 = true := by decide +kernel
theorem kpl_J7 : plainName RJ7 = true := by decide +kernel
theorem kpl_J8 : plainName RJ8 = true := by decide +kernel
/-! short words for what is said often -/
abbrev kRm (f c s l : Nat) : Room := { frames := f, cells := c, slots := s, locals := l }
abbrev kvI (i : Nat) (x : Int32) (L : List (Nat × Value)) : List (Nat × Value) := (i, .int x) :: L
abbrev kvJ (i : Nat) (x : Int64) (L : List (Nat × Value)) : List (Nat × Value) := (i, .long x) :: L
abbrev kvA (i : Nat) (x : Nat) (L : List (Nat × Value)) : List (Nat × Value) := (i, .ref x) :: L
abbrev kvN (i : Nat) (L : List (Nat × Value)) : List (Nat × Value) := (i, .null) :: L
abbrev kvE : List (Nat × Value) := []
abbrev wO (o : Nat) (on : Int64) (ov : Value) : va_W := [(o, .inr (4, [.long on, ov]))]
abbrev kMi (l : Launch) (y : MethodName) (ws : List Cond) (rm : Room) (dC : Nat → ClassId) (dI : Nat → Nat → Nat) (cB cI cJ cZ : ClassId) (av : List Value) (sz : Nat) (w : va_W) (ty : FieldType) (r : Int32) (w1 : va_W) (mc ms : Nat) : Prop := Met l y ws rm (kPre (dC, dI) (kTy cB cI cJ cZ) av sz w) (kI (dC, dI) ty r w1 (va_A w sz)) mc ms (va_A w sz)
abbrev kMl (l : Launch) (y : MethodName) (ws : List Cond) (rm : Room) (dC : Nat → ClassId) (dI : Nat → Nat → Nat) (cB cI cJ cZ : ClassId) (av : List Value) (sz : Nat) (w : va_W) (r : Int64) (w1 : va_W) (mc ms : Nat) : Prop := Met l y ws rm (kPre (dC, dI) (kTy cB cI cJ cZ) av sz w) (kL (dC, dI) r w1 (va_A w sz)) mc ms (va_A w sz)
abbrev kMv (l : Launch) (y : MethodName) (ws : List Cond) (rm : Room) (dC : Nat → ClassId) (dI : Nat → Nat → Nat) (cB cI cJ cZ : ClassId) (av : List Value) (sz : Nat) (w : va_W) (w1 : va_W) (mc ms : Nat) : Prop := Met l y ws rm (kPre (dC, dI) (kTy cB cI cJ cZ) av sz w) (kV (dC, dI) w1 (va_A w sz)) mc ms (va_A w sz)
abbrev kMw (l : Launch) (y : MethodName) (ws : List Cond) (rm : Room) (dC : Nat → ClassId) (dI : Nat → Nat → Nat) (cB cI cJ cZ : ClassId) (av : List Value) (sz : Nat) (w : va_W) (ty : FieldType) (r : Int32) (w1 : va_W) (mc ms : Nat) : Prop := Met l y ws rm (kPreX (dC, dI) (kTy cB cI cJ cZ) av sz w) (kI (dC, dI) ty r w1 (va_A w sz)) mc ms (va_A w sz)
abbrev kMX (l : Launch) (y : MethodName) (ws : List Cond) (rm : Room) (dC : Nat → ClassId) (dI : Nat → Nat → Nat) (cB cI cJ cZ : ClassId) (av : List Value) (sz : Nat) (w : va_W) (k : Nat) (w1 : va_W) (mc ms : Nat) : Prop := vx_Met l y ws rm (kPreX (dC, dI) (kTy cB cI cJ cZ) av sz w) kNo (kX (dC, dI) k w1 (va_A w sz)) mc ms (va_A w sz)
end
-- 05.words.lean.txt
section
theorem pd_0 : (parseMethodDescriptor "()B").map (fun d => d.parameters.length) = some 0 := by decide +kernel
theorem pd_1 : (parseMethodDescriptor "([BIB)V").map (fun d => d.parameters.length) = some 3 := by decide +kernel
theorem pd_2 : (parseMethodDescriptor "()I").map (fun d => d.parameters.length) = some 0 := by decide +kernel
theorem pd_3 : (parseMethodDescriptor "(C)Z").map (fun d => d.parameters.length) = some 1 := by decide +kernel
theorem pd_4 : (parseMethodDescriptor "(I)Ljava/lang/StringBuilder;").map (fun d => d.parameters.length) = some 1 := by decide +kernel
theorem pd_5 : (parseMethodDescriptor "(C)Ljava/lang/StringBuilder;").map (fun d => d.parameters.length) = some 1 := by decide +kernel
theorem pd_6 : (parseMethodDescriptor "()Ljava/lang/String;").map (fun d => d.parameters.length) = some 0 := by decide +kernel
theorem pd_7 : (parseMethodDescriptor "(I)V").map (fun d => d.parameters.length) = some 1 := by decide +kernel
theorem pd_8 : (parseMethodDescriptor "()[B").map (fun d => d.parameters.length) = some 0 := by decide +kernel
theorem pd_9 : (parseMethodDescriptor "(Ljava/lang/String;)V").map (fun d => d.parameters.length) = some 1 := by decide +kernel
theorem pd_10 : (parseMethodDescriptor "()Z").map (fun d => d.parameters.length) = some 0 := by decide +kernel
theorem pd_11 : (parseMethodDescriptor "(I)I").map (fun d => d.parameters.length) = some 1 := by decide +kernel
theorem pd_12 : (parseMethodDescriptor "(ILjava/lang/String;)V").map (fun d => d.parameters.length) = some 2 := by decide +kernel
theorem pd_13 : (parseMethodDescriptor "(II[B)I").map (fun d => d.parameters.length) = some 3 := by decide +kernel
theorem pd_14 : (parseMethodDescriptor "(II)V").map (fun d => d.parameters.length) = some 2 := by decide +kernel
theorem pd_15 : (parseMethodDescriptor "([BII)[B").map (fun d => d.parameters.length) = some 3 := by decide +kernel
theorem pd_16 : (parseMethodDescriptor "([BI)[B").map (fun d => d.parameters.length) = some 2 := by decide +kernel
theorem pd_17 : (parseMethodDescriptor "(III)I").map (fun d => d.parameters.length) = some 3 := by decide +kernel
theorem pd_18 : (parseMethodDescriptor "(JJ)J").map (fun d => d.parameters.length) = some 2 := by decide +kernel
theorem pd_19 : (parseMethodDescriptor "(JJZ)I").map (fun d => d.parameters.length) = some 3 := by decide +kernel
theorem pd_20 : (parseMethodDescriptor "(I)J").map (fun d => d.parameters.length) = some 1 := by decide +kernel
theorem pd_21 : (parseMethodDescriptor "(J)I").map (fun d => d.parameters.length) = some 1 := by decide +kernel
theorem pd_22 : (parseMethodDescriptor "(II)Z").map (fun d => d.parameters.length) = some 2 := by decide +kernel
theorem pd_23 : (parseMethodDescriptor "(JJI)I").map (fun d => d.parameters.length) = some 3 := by decide +kernel
theorem pd_24 : (parseMethodDescriptor "(J)V").map (fun d => d.parameters.length) = some 1 := by decide +kernel
theorem pd_25 : (parseMethodDescriptor "(I)Z").map (fun d => d.parameters.length) = some 1 := by decide +kernel
theorem pd_26 : (parseMethodDescriptor "(J)Z").map (fun d => d.parameters.length) = some 1 := by decide +kernel
theorem pd_27 : (parseMethodDescriptor "(IJJ)V").map (fun d => d.parameters.length) = some 3 := by decide +kernel
theorem pd_28 : (parseMethodDescriptor "(JI)I").map (fun d => d.parameters.length) = some 2 := by decide +kernel
theorem pd_29 : (parseMethodDescriptor "(IJJ)Z").map (fun d => d.parameters.length) = some 3 := by decide +kernel
theorem pd_30 : (parseMethodDescriptor "()V").map (fun d => d.parameters.length) = some 0 := by decide +kernel
theorem pd_31 : (parseMethodDescriptor "(J)J").map (fun d => d.parameters.length) = some 1 := by decide +kernel
theorem pd_32 : (parseMethodDescriptor "()J").map (fun d => d.parameters.length) = some 0 := by decide +kernel
theorem pd_33 : (parseMethodDescriptor "(JJ)Z").map (fun d => d.parameters.length) = some 2 := by decide +kernel
theorem pd_34 : (parseMethodDescriptor "(III)Z").map (fun d => d.parameters.length) = some 3 := by decide +kernel
theorem pd_35 : (parseMethodDescriptor "(II)J").map (fun d => d.parameters.length) = some 2 := by decide +kernel
theorem pd_36 : (parseMethodDescriptor "(JI)J").map (fun d => d.parameters.length) = some 2 := by decide +kernel
theorem pd_37 : (parseMethodDescriptor "(JLSpanbooker$Row;I)J").map (fun d => d.parameters.length) = some 3 := by decide +kernel
theorem pd_38 : (parseMethodDescriptor "(LSpanbooker$Row;I)V").map (fun d => d.parameters.length) = some 2 := by decide +kernel
theorem pd_39 : (parseMethodDescriptor "(Z)V").map (fun d => d.parameters.length) = some 1 := by decide +kernel
theorem pd_40 : (parseMethodDescriptor "(III)V").map (fun d => d.parameters.length) = some 3 := by decide +kernel
theorem pd_41 : (parseMethodDescriptor "(LSpanbooker$Row;II)I").map (fun d => d.parameters.length) = some 3 := by decide +kernel
theorem pd_42 : (parseMethodDescriptor "(JJ)I").map (fun d => d.parameters.length) = some 2 := by decide +kernel
set_option maxRecDepth 100000 in
theorem kS05_1 : kPg (gpC 1 (gpC 0 (gpC 5 (gpC 0 (gpC 0 (gpC 1 (gpC 0 (gpC 1 (gpC 0 (gpC 0 (gpC 0 (gpC 1 (gpC 5 (gpC 0 (gpC 0 (gpC 0 (gpC 0 (gpC 0 (gpC 0 (gpC 2 (gpC 0 (gpC 0 (gpC 0 (gpC 0 (gpC 9 (gpC 0 (gpC 0 (gpC 0 (gpC 0 (gpC 0 (gpC 0 (gpC 0 (gpC 0 (gpC 0 (gpC 0 (gpC 0 (gpC 21 (gpC 4 (gpC 0 (gpC 0 (gpC 0 (gpC 0 (gpC 1 (gpC 0 (gpC 4 (gpC 0 (gpC 0 (gpC 0 (gpC 1 (gpC 0 (gpC 0 (gpC 0 (gpC 0 (gpC 0 (gpC 0 (gpC 1 (gpC 0 (gpC 0 (gpC 0 (gpC 0 (gpC 0 (gpC 0 (gpC 0 (gpC 0 (gpC 0 (gpC 4 (gpC 1 (gpC 0 (gpC 0 (gpC 1 (gpC 0 (gpC 0 (gpC 0 (gpC 0 (gpC 0 (gpC 0 (gpC 0 (gpC 0 (gpC 0 (gpC 0 (gpC 1 (gpC 0 (gpC 0 (gpC 1 (gpC 0 (gpC 0 (gpC 0 (gpC 0 (gpC 0 (gpC 0 (gpC 0 (gpC 0 (gpC 0 (gpC 0 (gpC 0 (gpC 0 (gpC 0 (gpC 0 (gpC 5 (gpC 0 (gpC 0 (gpC 0 (gpC 1 (gpC 0 (gpC 0 (gpC 1 (gpC 0 (gpC 1 (gpC 0 (gpC 0 (gpC 4 (gpC 1 (gpC 0 (gpC 0 (gpC 1 (gpC 0 (gpC 0 (gpC 0 (gpC 0 (gpC 0 (gpC 0 (gpC 1 (gpC 0 (gpC 0 (gpC 1 (gpC 0 (gpC 0 (gpC 5 (gpC 0 (gpC 0 (gpC 0 (gpC 1 (gpC 0 (gpC 0 (gpC 1 (gpC 0 (gpC 0 (gpC 0 (gpC 0 (gpC 0 (gpC 0 (gpC 1 (gpC 0 (gpC 0 (gpC 1 (gpC 0 (gpC 0 (gpC 1 (gpC 0 gpE))))))))))))))))))))))))))))))))))))))))))))))))))))))))))))))))))))))))))))))))))))))))))))))))))))))))))))))))))))))))))))))))))))))))))))))))))))) tables_1_1 = List.flatten (wpL (wpC (Cond.initialized yX1_addSpan.cls) (wpC (Cond.initialized RX0) (wpC (Cond.initialized "java/lang/IndexOutOfBoundsException") (wpC (Cond.initialized "java/lang/IllegalArgumentException") (wpC (Cond.initialized "java/lang/Math") (wpC (Cond.initialized RJ4) (wpC (Cond.initialized RJ0) (wpC (Cond.initialized yJ6_bitCount_0f7a4.cls) (wpC (Cond.initialized yJ8_newLength_cabcc.cls) (wpC (Cond.initialized yJ7_checkLength_df160.cls) (wpC (Cond.initialized "java/lang/System") (wpC (Cond.initialized yJ1_canEncode_fc78d.cls) wpE)))))))))))) (wpL (wpC (Cond.methodLink RX1 3 objectInit) (wpC (Cond.instanceMethod objectInit) (wpC (Cond.code objectInit ⟨#[0xb1]⟩ 1 none) (wpC (Cond.constantLong RX1 17 (86400000000000)) (wpC (Cond.classLink RX1 22 RX0) (wpC (Cond.instantiable RX0 4) (wpC (Cond.methodLink RX1 24 yX0_init) (wpC (Cond.methodLink RX0 3 objectInit) (wpC (Cond.fieldLink RX0 9 "Spanbooker$Row" "begins" "[J") (wpC (Cond.fieldLink RX0 15 "Spanbooker$Row" "ends" "[J") (wpC (Cond.fieldLink RX0 18 "Spanbooker$Row" "overs" "[Z") (wpC (Cond.fieldLink RX0 22 "Spanbooker$Row" "count" "I") wpE)))))))))))) (wpL (wpC (Cond.arrayClass .long) (wpC (Cond.arrayClass .boolean) (wpC (Cond.fieldLink RX1 9 "Spanbooker" "cells" "[J") (wpC (Cond.fieldLink RX1 13 "Spanbooker" "from" "J") (wpC (Cond.fieldLink RX1 19 "Spanbooker" "until" "J") (wpC (Cond.fieldLink RX1 25 "Spanbooker" "spanRow" "LSpanbooker$Row;") (wpC (Cond.fieldLink RX1 29 "Spanbooker" "wishRow" "LSpanbooker$Row;") (wpC (Cond.fieldLink RX1 32 "Spanbooker" "freeRow" "LSpanbooker$Row;") (wpC (Cond.fieldLink RX1 35 "Spanbooker" "roomOf" "[I") (wpC (Cond.fieldLink RX1 224 "Spanbooker" "acts" "I") (wpC (Cond.fieldLink RX1 228 "Spanbooker" "refusals" "I") (wpC (Cond.fieldLink RX1 231 "Spanbooker" "knocks" "I") wpE)))))))))))) (wpL (wpC (Cond.arrayClass .int) (wpC (Cond.methodLink RX1 99 yX0_clear) (wpC (Cond.instanceMethod yX0_clear) (wpC (Cond.selects yX0_clear.cls yX0_clear yX0_clear) (wpC (Cond.code yX0_clear cX0_clear 2 (some .int)) (wpC (Cond.methodLink RX1 69 yX1_done) (wpC (Cond.instanceMethod yX1_done) (wpC (Cond.code yX1_done cX1_done 2 (some .int)) (wpC (Cond.methodLink RX1 96 yX0_count) (wpC (Cond.instanceMethod yX0_count) (wpC (Cond.selects yX0_count.cls yX0_count yX0_count) (wpC (Cond.code yX0_count cX0_count 1 (some .int)) wpE)))))))))))) (wpL (wpC (Cond.instanceMethod yX1_clashes) (wpC (Cond.selects yX1_clashes.cls yX1_clashes yX1_clashes) (wpC (Cond.code yX1_clashes cX1_clashes 4 (some .int)) (wpC (Cond.methodLink RX1 170 yX0_doMeet) (wpC (Cond.instanceMethod yX0_doMeet) (wpC (Cond.selects yX0_doMeet.cls yX0_doMeet yX0_doMeet) (wpC (Cond.code yX0_doMeet cX0_doMeet 3 (some .boolean)) (wpC (Cond.instanceMethod yX1_deepest) (wpC (Cond.selects yX1_deepest.cls yX1_deepest yX1_deepest) (wpC (Cond.code yX1_deepest cX1_deepest 1 (some .int)) (wpC (Cond.methodLink RX1 177 yX0_depth) (wpC (Cond.instanceMethod yX0_depth) wpE)))))))))))) (wpL (wpC (Cond.selects yX0_depth.cls yX0_depth yX0_depth) (wpC (Cond.code yX0_depth cX0_depth 5 (some .int)) (wpC (Cond.methodLink RX0 38 Lib.Math.max.name) (wpC (Cond.static Lib.Math.max.name) (wpC (Cond.code Lib.Math.max.name Lib.Math.max.code 2 (some .int)) (wpC (Cond.methodLink RX1 188 yX1_findFrees) (wpC (Cond.instanceMethod yX1_findFrees) (wpC (Cond.code yX1_findFrees cX1_findFrees 6 none) (wpC (Cond.methodLink RX1 136 yX1_firstWithoutSpan) (wpC (Cond.instanceMethod yX1_firstWithoutSpan) (wpC (Cond.code yX1_firstWithoutSpan cX1_firstWithoutSpan 9 (some .long)) (wpC (Cond.methodLink RX1 184 yX0_firstMeeting) wpE)))))))))))) (wpL (wpC (Cond.instanceMethod yX0_firstMeeting) (wpC (Cond.selects yX0_firstMeeting.cls yX0_firstMeeting yX0_firstMeeting) (wpC (Cond.code yX0_firstMeeting cX0_firstMeeting 7 (some .int)) (wpC (Cond.methodLink RX1 117 yX0_end) (wpC (Cond.instanceMethod yX0_end) (wpC (Cond.selects yX0_end.cls yX0_end yX0_end) (wpC (Cond.code yX0_end cX0_end 2 (some .long)) (wpC (Cond.methodLink RX0 26 yX0_isIn) (wpC (Cond.instanceMethod yX0_isIn) (wpC (Cond.code yX0_isIn cX0_isIn 2 (some .boolean)) (wpC (Cond.methodLink RX1 302 yX1_firstTaken) (wpC (Cond.instanceMethod yX1_firstTaken) wpE)))))))))))) (wpL (wpC (Cond.code yX1_firstTaken cX1_firstTaken 3 (some .long)) (wpC (Cond.methodLink RX1 174 yX0_firstWith) (wpC (Cond.instanceMethod yX0_firstWith) (wpC (Cond.selects yX0_firstWith.cls yX0_firstWith yX0_firstWith) (wpC (Cond.code yX0_firstWith cX0_firstWith 3 (some .int)) (wpC (Cond.methodLink RX0 34 yX0_firstMeeting) (wpC (Cond.methodLink RX1 299 yX0_nextBegin) (wpC (Cond.instanceMethod yX0_nextBegin) (wpC (Cond.selects yX0_nextBegin.cls yX0_nextBegin yX0_nextBegin) (wpC (Cond.code yX0_nextBegin cX0_nextBegin 8 (some .long)) (wpC (Cond.methodLink RX1 139 yX0_add) (wpC (Cond.instanceMethod yX0_add) wpE)))))))))))) (wpL (wpC (Cond.selects yX0_add.cls yX0_add yX0_add) (wpC (Cond.code yX0_add cX0_add 6 (some .int)) (wpC (Cond.instanceMethod yX1_chosen) (wpC (Cond.selects yX1_chosen.cls yX1_chosen yX1_chosen) (wpC (Cond.code yX1_chosen cX1_chosen 4 (some .int)) (wpC (Cond.methodLink RX1 204 yX1_nextChosen) (wpC (Cond.instanceMethod yX1_nextChosen) (wpC (Cond.code yX1_nextChosen cX1_nextChosen 4 (some .int)) (wpC (Cond.methodLink RX1 305 yX1_meetsOneOf) (wpC (Cond.instanceMethod yX1_meetsOneOf) (wpC (Cond.code yX1_meetsOneOf cX1_meetsOneOf 4 (some .boolean)) (wpC (Cond.instanceMethod yX1_crowd) wpE)))))))))))) (wpL (wpC (Cond.selects yX1_crowd.cls yX1_crowd yX1_crowd) (wpC (Cond.code yX1_crowd cX1_crowd 1 (some .int)) (wpC (Cond.methodLink RX1 218 yX1_findRooms) (wpC (Cond.instanceMethod yX1_findRooms) (wpC (Cond.code yX1_findRooms cX1_findRooms 3 none) (wpC (Cond.methodLink RX1 308 yX1_firstWithoutRoom) (wpC (Cond.instanceMethod yX1_firstWithoutRoom) (wpC (Cond.code yX1_firstWithoutRoom cX1_firstWithoutRoom 3 (some .int)) (wpC (Cond.methodLink RX1 113 yX0_begin) (wpC (Cond.instanceMethod yX0_begin) (wpC (Cond.selects yX0_begin.cls yX0_begin yX0_begin) (wpC (Cond.code yX0_begin cX0_begin 2 (some .long)) wpE)))))))))))) (wpL (wpC (Cond.methodLink RX1 311 yX1_smallestRoom) (wpC (Cond.instanceMethod yX1_smallestRoom) (wpC (Cond.code yX1_smallestRoom cX1_smallestRoom 4 (some .int)) (wpC (Cond.methodLink RX1 221 yX1_roomCount) (wpC (Cond.instanceMethod yX1_roomCount) (wpC (Cond.code yX1_roomCount cX1_roomCount 3 (some .int)) (wpC (Cond.methodLink RX1 314 Lib.Math.max.name) (wpC (Cond.instanceMethod yX1_isSound) (wpC (Cond.selects yX1_isSound.cls yX1_isSound yX1_isSound) (wpC (Cond.code yX1_isSound cX1_isSound 1 (some .boolean)) (wpC (Cond.methodLink RX1 234 yX1_isSoundInSpans) (wpC (Cond.instanceMethod yX1_isSoundInSpans) wpE)))))))))))) (wpL (wpC (Cond.code yX1_isSoundInSpans cX1_isSoundInSpans 3 (some .boolean)) (wpC (Cond.methodLink RX1 180 yX1_isInCalendar) (wpC (Cond.instanceMethod yX1_isInCalendar) (wpC (Cond.code yX1_isInCalendar cX1_isInCalendar 5 (some .boolean)) (wpC (Cond.methodLink RX1 162 yX0_isOver) (wpC (Cond.instanceMethod yX0_isOver) (wpC (Cond.selects yX0_isOver.cls yX0_isOver yX0_isOver) (wpC (Cond.code yX0_isOver cX0_isOver 2 (some .boolean)) (wpC (Cond.methodLink RX1 238 yX1_isSoundInFrees) (wpC (Cond.instanceMethod yX1_isSoundInFrees) (wpC (Cond.code yX1_isSoundInFrees cX1_isSoundInFrees 2 (some .boolean)) (wpC (Cond.methodLink RX1 191 yX1_takenLength) wpE)))))))))))) (wpL (wpC (Cond.instanceMethod yX1_takenLength) (wpC (Cond.code yX1_takenLength cX1_takenLength 8 (some .long)) (wpC (Cond.methodLink RX1 195 yX1_freeLength) (wpC (Cond.instanceMethod yX1_freeLength) (wpC (Cond.code yX1_freeLength cX1_freeLength 4 (some .long)) wpE))))) wpN))))))))))))) := rfl
theorem kS05_1g : (kPg (gpC 1 (gpC 0 (gpC 5 (gpC 0 (gpC 0 (gpC 1 (gpC 0 (gpC 1 (gpC 0 (gpC 0 (gpC 0 (gpC 1 (gpC 5 (gpC 0 (gpC 0 (gpC 0 (gpC 0 (gpC 0 (gpC 0 (gpC 2 (gpC 0 (gpC 0 (gpC 0 (gpC 0 (gpC 9 (gpC 0 (gpC 0 (gpC 0 (gpC 0 (gpC 0 (gpC 0 (gpC 0 (gpC 0 (gpC 0 (gpC 0 (gpC 0 (gpC 21 (gpC 4 (gpC 0 (gpC 0 (gpC 0 (gpC 0 (gpC 1 (gpC 0 (gpC 4 (gpC 0 (gpC 0 (gpC 0 (gpC 1 (gpC 0 (gpC 0 (gpC 0 (gpC 0 (gpC 0 (gpC 0 (gpC 1 (gpC 0 (gpC 0 (gpC 0 (gpC 0 (gpC 0 (gpC 0 (gpC 0 (gpC 0 (gpC 0 (gpC 4 (gpC 1 (gpC 0 (gpC 0 (gpC 1 (gpC 0 (gpC 0 (gpC 0 (gpC 0 (gpC 0 (gpC 0 (gpC 0 (gpC 0 (gpC 0 (gpC 0 (gpC 1 (gpC 0 (gpC 0 (gpC 1 (gpC 0 (gpC 0 (gpC 0 (gpC 0 (gpC 0 (gpC 0 (gpC 0 (gpC 0 (gpC 0 (gpC 0 (gpC 0 (gpC 0 (gpC 0 (gpC 0 (gpC 5 (gpC 0 (gpC 0 (gpC 0 (gpC 1 (gpC 0 (gpC 0 (gpC 1 (gpC 0 (gpC 1 (gpC 0 (gpC 0 (gpC 4 (gpC 1 (gpC 0 (gpC 0 (gpC 1 (gpC 0 (gpC 0 (gpC 0 (gpC 0 (gpC 0 (gpC 0 (gpC 1 (gpC 0 (gpC 0 (gpC 1 (gpC 0 (gpC 0 (gpC 5 (gpC 0 (gpC 0 (gpC 0 (gpC 1 (gpC 0 (gpC 0 (gpC 1 (gpC 0 (gpC 0 (gpC 0 (gpC 0 (gpC 0 (gpC 0 (gpC 1 (gpC 0 (gpC 0 (gpC 1 (gpC 0 (gpC 0 (gpC 1 (gpC 0 gpE))))))))))))))))))))))))))))))))))))))))))))))))))))))))))))))))))))))))))))))))))))))))))))))))))))))))))))))))))))))))))))))))))))))))))))))))))))) tables_1_1).all goodWord = true := by decide +kernel
set_option maxRecDepth 100000 in
theorem kS05_2 : kPg (gpC 0 (gpC 1 (gpC 0 (gpC 0 (gpC 0 (gpC 1 (gpC 0 (gpC 0 (gpC 0 (gpC 0 (gpC 0 (gpC 0 (gpC 0 (gpC 0 (gpC 1 (gpC 0 (gpC 0 (gpC 1 (gpC 0 (gpC 0 (gpC 4 (gpC 0 (gpC 1 (gpC 0 (gpC 0 (gpC 0 (gpC 0 (gpC 0 (gpC 0 (gpC 0 (gpC 0 (gpC 0 (gpC 0 (gpC 0 (gpC 0 (gpC 0 (gpC 0 (gpC 0 (gpC 0 (gpC 0 (gpC 0 (gpC 0 (gpC 1 (gpC 0 (gpC 0 (gpC 0 (gpC 0 (gpC 0 (gpC 0 (gpC 0 (gpC 0 (gpC 0 (gpC 0 (gpC 0 (gpC 0 (gpC 65 (gpC 0 (gpC 0 (gpC 0 (gpC 0 (gpC 0 (gpC 0 (gpC 0 (gpC 0 (gpC 0 (gpC 0 (gpC 0 (gpC 0 (gpC 1 (gpC 0 (gpC 0 (gpC 0 (gpC 0 (gpC 0 (gpC 0 (gpC 1 (gpC 0 (gpC 0 (gpC 5 (gpC 16 (gpC 0 (gpC 0 (gpC 0 (gpC 15 (gpC 0 (gpC 0 (gpC 0 (gpC 0 (gpC 0 (gpC 0 (gpC 0 (gpC 0 (gpC 0 (gpC 1 (gpC 0 (gpC 7 (gpC 0 (gpC 0 (gpC 0 (gpC 0 (gpC 0 (gpC 0 (gpC 0 (gpC 0 (gpC 0 (gpC 7 (gpC 1 (gpC 0 gpE)))))))))))))))))))))))))))))))))))))))))))))))))))))))))))))))))))))))))))))))))))))))))))))))))))))))))))) tables_1_2 = List.flatten (wpL (wpC (Cond.methodLink RX1 241 yX1_isSoundInWishes) (wpC (Cond.instanceMethod yX1_isSoundInWishes) (wpC (Cond.code yX1_isSoundInWishes cX1_isSoundInWishes 2 (some .boolean)) (wpC (Cond.methodLink RX1 207 yX1_chosen) (wpC (Cond.methodLink RX1 201 yX1_isWithoutMeeting) (wpC (Cond.instanceMethod yX1_isWithoutMeeting) (wpC (Cond.code yX1_isWithoutMeeting cX1_isWithoutMeeting 4 (some .boolean)) (wpC (Cond.methodLink RX1 210 yJ6_bitCount_0f7a4) (wpC (Cond.static yJ6_bitCount_0f7a4) (wpC (Cond.code yJ6_bitCount_0f7a4 cJ6_bitCount_0f7a4 1 (some .int)) (wpC (Cond.constant RJ6 265 (1431655765)) (wpC (Cond.constant RJ6 266 (858993459)) wpE)))))))))))) (wpL (wpC (Cond.constant RJ6 267 (252645135)) (wpC (Cond.methodLink RX1 215 yX1_mostOfAllSets) (wpC (Cond.instanceMethod yX1_mostOfAllSets) (wpC (Cond.code yX1_mostOfAllSets cX1_mostOfAllSets 5 (some .int)) (wpC (Cond.methodLink RX1 198 yX1_setOfAllWishes) (wpC (Cond.instanceMethod yX1_setOfAllWishes) (wpC (Cond.code yX1_setOfAllWishes cX1_setOfAllWishes 1 (some .int)) (wpC (Cond.methodLink RX1 317 yX1_crowd) (wpC (Cond.constantLong RX1 244 (8009)) (wpC (Cond.methodLink RX1 246 yX1_mixCells) (wpC (Cond.instanceMethod yX1_mixCells) (wpC (Cond.code yX1_mixCells cX1_mixCells 6 (some .long)) wpE)))))))))))) (wpL (wpC (Cond.methodLink RX1 65 yX1_secondOf) (wpC (Cond.static yX1_secondOf) (wpC (Cond.code yX1_secondOf cX1_secondOf 2 (some .int)) (wpC (Cond.constantLong RX1 55 (1000000000)) (wpC (Cond.methodLink RX1 284 yJ9_floorDiv_f86c9) (wpC (Cond.static yJ9_floorDiv_f86c9) (wpC (Cond.code yJ9_floorDiv_f86c9 cJ9_floorDiv_f86c9 6 (some .long)) (wpC (Cond.methodLink RX1 259 yX1_mix) (wpC (Cond.static yX1_mix) (wpC (Cond.code yX1_mix cX1_mix 3 (some .long)) (wpC (Cond.constantLong RX1 320 (31)) (wpC (Cond.methodLink RX1 142 yX1_nanoOf) wpE)))))))))))) (wpL (wpC (Cond.static yX1_nanoOf) (wpC (Cond.code yX1_nanoOf cX1_nanoOf 2 (some .int)) (wpC (Cond.methodLink RX1 287 yJ9_floorMod_f86c9) (wpC (Cond.static yJ9_floorMod_f86c9) (wpC (Cond.code yJ9_floorMod_f86c9 cJ9_floorMod_f86c9 6 (some .long)) (wpC (Cond.methodLink RX1 250 yX1_mixSpans) (wpC (Cond.instanceMethod yX1_mixSpans) (wpC (Cond.code yX1_mixSpans cX1_mixSpans 6 (some .long)) (wpC (Cond.methodLink RX1 322 yX1_calendar) (wpC (Cond.instanceMethod yX1_calendar) (wpC (Cond.selects yX1_calendar.cls yX1_calendar yX1_calendar) (wpC (Cond.code yX1_calendar cX1_calendar 2 (some .int)) wpE)))))))))))) (wpL (wpC (Cond.methodLink RX1 45 yX1_isWithin) (wpC (Cond.static yX1_isWithin) (wpC (Cond.code yX1_isWithin cX1_isWithin 3 (some .boolean)) (wpC (Cond.methodLink RX1 51 yX1_needThat) (wpC (Cond.static yX1_needThat) (wpC (Cond.code yX1_needThat cX1_needThat 1 none) (wpC (Cond.classLink RX1 275 "java/lang/IllegalArgumentException") (wpC (Cond.arrayClass .byte) (wpC (Cond.methodLink RX1 159 yX1_partOf) (wpC (Cond.static yX1_partOf) (wpC (Cond.code yX1_partOf cX1_partOf 3 (some .int)) (wpC (Cond.methodLink RX1 325 yX1_mixParts) wpE)))))))))))) (wpL (wpC (Cond.static yX1_mixParts) (wpC (Cond.code yX1_mixParts cX1_mixParts 7 (some .long)) (wpC (Cond.methodLink RX1 166 yX1_partIn) (wpC (Cond.static yX1_partIn) (wpC (Cond.code yX1_partIn cX1_partIn 3 (some .int)) (wpC (Cond.methodLink RX1 329 yX1_clashes) (wpC (Cond.methodLink RX1 332 yX1_deepest) (wpC (Cond.methodLink RX1 253 yX1_mixFrees) (wpC (Cond.instanceMethod yX1_mixFrees) (wpC (Cond.code yX1_mixFrees cX1_mixFrees 6 (some .long)) (wpC (Cond.methodLink RX1 335 yX1_length) (wpC (Cond.instanceMethod yX1_length) wpE)))))))))))) (wpL (wpC (Cond.selects yX1_length.cls yX1_length yX1_length) (wpC (Cond.code yX1_length cX1_length 2 (some .int)) (wpC (Cond.methodLink RX1 256 yX1_mixWishes) (wpC (Cond.instanceMethod yX1_mixWishes) (wpC (Cond.code yX1_mixWishes cX1_mixWishes 6 (some .long)) (wpC (Cond.methodLink RX1 263 yX1_isSound) (wpC (Cond.methodLink RX2 1 objectInit) (wpC (Cond.methodLink RX1 39 yX1_needCell) (wpC (Cond.static yX1_needCell) (wpC (Cond.code yX1_needCell cX1_needCell 1 none) (wpC (Cond.classLink RX1 266 "java/lang/IndexOutOfBoundsException") (wpC (Cond.constant RX1 43 (-1000000000)) wpE)))))))))))) (wpL (wpC (Cond.constant RX1 44 (1000000000)) (wpC (Cond.constant RX1 49 (-2000000000)) (wpC (Cond.constant RX1 50 (2000000000)) (wpC (Cond.methodLink RX1 57 yX1_isLet) (wpC (Cond.static yX1_isLet) (wpC (Cond.code yX1_isLet cX1_isLet 2 (some .boolean)) (wpC (Cond.constantLong RX1 280 (-1000000000000000000)) (wpC (Cond.constantLong RX1 282 (1000000000999999999)) (wpC (Cond.methodLink RX1 61 yX1_refuse) (wpC (Cond.instanceMethod yX1_refuse) (wpC (Cond.code yX1_refuse cX1_refuse 1 (some .int)) (wpC (Cond.methodLink RX1 73 yX1_needUnits) wpE)))))))))))) (wpL (wpC (Cond.static yX1_needUnits) (wpC (Cond.code yX1_needUnits cX1_needUnits 3 none) (wpC (Cond.methodLink RX1 77 yX1_lengthOf) (wpC (Cond.static yX1_lengthOf) (wpC (Cond.code yX1_lengthOf cX1_lengthOf 2 (some .long)) (wpC (Cond.constantLong RX1 290 (1000000)) (wpC (Cond.methodLink RX1 81 yX1_sideOf) (wpC (Cond.static yX1_sideOf) (wpC (Cond.code yX1_sideOf cX1_sideOf 4 (some .int)) (wpC (Cond.methodLink RX1 85 yX1_bring) (wpC (Cond.instanceMethod yX1_bring) (wpC (Cond.code yX1_bring cX1_bring 5 (some .int)) wpE)))))))))))) wpN))))))))) := rfl
theorem kS05_2g : (kPg (gpC 0 (gpC 1 (gpC 0 (gpC 0 (gpC 0 (gpC 1 (gpC 0 (gpC 0 (gpC 0 (gpC 0 (gpC 0 (gpC 0 (gpC 0 (gpC 0 (gpC 1 (gpC 0 (gpC 0 (gpC 1 (gpC 0 (gpC 0 (gpC 4 (gpC 0 (gpC 1 (gpC 0 (gpC 0 (gpC 0 (gpC 0 (gpC 0 (gpC 0 (gpC 0 (gpC 0 (gpC 0 (gpC 0 (gpC 0 (gpC 0 (gpC 0 (gpC 0 (gpC 0 (gpC 0 (gpC 0 (gpC 0 (gpC 0 (gpC 1 (gpC 0 (gpC 0 (gpC 0 (gpC 0 (gpC 0 (gpC 0 (gpC 0 (gpC 0 (gpC 0 (gpC 0 (gpC 0 (gpC 0 (gpC 65 (gpC 0 (gpC 0 (gpC 0 (gpC 0 (gpC 0 (gpC 0 (gpC 0 (gpC 0 (gpC 0 (gpC 0 (gpC 0 (gpC 0 (gpC 1 (gpC 0 (gpC 0 (gpC 0 (gpC 0 (gpC 0 (gpC 0 (gpC 1 (gpC 0 (gpC 0 (gpC 5 (gpC 16 (gpC 0 (gpC 0 (gpC 0 (gpC 15 (gpC 0 (gpC 0 (gpC 0 (gpC 0 (gpC 0 (gpC 0 (gpC 0 (gpC 0 (gpC 0 (gpC 1 (gpC 0 (gpC 7 (gpC 0 (gpC 0 (gpC 0 (gpC 0 (gpC 0 (gpC 0 (gpC 0 (gpC 0 (gpC 0 (gpC 7 (gpC 1 (gpC 0 gpE)))))))))))))))))))))))))))))))))))))))))))))))))))))))))))))))))))))))))))))))))))))))))))))))))))))))))))) tables_1_2).all goodWord = true := by decide +kernel
set_option maxRecDepth 100000 in
theorem kS05_3 : kPg (gpC 18 (gpC 1 (gpC 0 (gpC 0 (gpC 0 (gpC 0 (gpC 0 (gpC 1 (gpC 0 (gpC 0 (gpC 0 (gpC 14 (gpC 1 (gpC 0 (gpC 7 (gpC 0 (gpC 0 (gpC 1 (gpC 0 (gpC 0 (gpC 0 (gpC 7 (gpC 1 (gpC 0 (gpC 0 (gpC 0 (gpC 0 (gpC 0 (gpC 0 (gpC 0 (gpC 0 (gpC 0 (gpC 7 (gpC 0 (gpC 0 (gpC 0 (gpC 7 (gpC 0 (gpC 0 (gpC 42 (gpC 0 (gpC 0 (gpC 2 (gpC 2 (gpC 0 (gpC 8 (gpC 0 (gpC 0 (gpC 0 (gpC 9 (gpC 0 (gpC 0 (gpC 0 (gpC 0 (gpC 2 (gpC 0 (gpC 0 (gpC 0 (gpC 3 (gpC 3 (gpC 0 (gpC 0 (gpC 0 (gpC 0 (gpC 3 (gpC 0 (gpC 0 (gpC 0 (gpC 0 (gpC 0 (gpC 0 (gpC 0 (gpC 0 (gpC 1 (gpC 0 (gpC 0 (gpC 0 (gpC 0 (gpC 0 (gpC 0 (gpC 0 (gpC 4 (gpC 0 (gpC 0 (gpC 0 (gpC 1 gpE)))))))))))))))))))))))))))))))))))))))))))))))))))))))))))))))))))))))))))))))))))))) tables_1_3 = List.flatten (wpL (wpC (Cond.methodLink RX1 89 yX1_isAllLetAfter) (wpC (Cond.instanceMethod yX1_isAllLetAfter) (wpC (Cond.code yX1_isAllLetAfter cX1_isAllLetAfter 4 (some .boolean)) (wpC (Cond.methodLink RX1 292 yX0_isLetAfter) (wpC (Cond.instanceMethod yX0_isLetAfter) (wpC (Cond.selects yX0_isLetAfter.cls yX0_isLetAfter yX0_isLetAfter) (wpC (Cond.code yX0_isLetAfter cX0_isLetAfter 4 (some .boolean)) (wpC (Cond.methodLink RX1 92 yX0_goOn) (wpC (Cond.instanceMethod yX0_goOn) (wpC (Cond.selects yX0_goOn.cls yX0_goOn yX0_goOn) (wpC (Cond.code yX0_goOn cX0_goOn 4 none) (wpC (Cond.methodLink RX1 102 yX1_addSpan) wpE)))))))))))) (wpL (wpC (Cond.instanceMethod yX1_addSpan) (wpC (Cond.code yX1_addSpan cX1_addSpan 6 (some .int)) (wpC (Cond.methodLink RX1 106 yX1_needNumberIn) (wpC (Cond.static yX1_needNumberIn) (wpC (Cond.code yX1_needNumberIn cX1_needNumberIn 2 none) (wpC (Cond.methodLink RX1 110 yX0_remove) (wpC (Cond.instanceMethod yX0_remove) (wpC (Cond.selects yX0_remove.cls yX0_remove yX0_remove) (wpC (Cond.code yX0_remove cX0_remove 3 (some .int)) (wpC (Cond.methodLink RX1 120 yX1_changeSpan) (wpC (Cond.instanceMethod yX1_changeSpan) (wpC (Cond.code yX1_changeSpan cX1_changeSpan 6 (some .boolean)) wpE)))))))))))) (wpL (wpC (Cond.methodLink RX1 295 yX0_put) (wpC (Cond.instanceMethod yX0_put) (wpC (Cond.selects yX0_put.cls yX0_put yX0_put) (wpC (Cond.code yX0_put cX0_put 6 none) (wpC (Cond.methodLink RX1 124 yX0_beginsBefore) (wpC (Cond.instanceMethod yX0_beginsBefore) (wpC (Cond.selects yX0_beginsBefore.cls yX0_beginsBefore yX0_beginsBefore) (wpC (Cond.code yX0_beginsBefore cX0_beginsBefore 5 (some .int)) (wpC (Cond.methodLink RX1 127 yX0_endsBefore) (wpC (Cond.instanceMethod yX0_endsBefore) (wpC (Cond.selects yX0_endsBefore.cls yX0_endsBefore yX0_endsBefore) (wpC (Cond.code yX0_endsBefore cX0_endsBefore 5 (some .int)) wpE)))))))))))) (wpL (wpC (Cond.methodLink RX1 130 Lib.MathLoose.max_long.x) (wpC (Cond.static Lib.MathLoose.max_long.x) (wpC (Cond.code Lib.MathLoose.max_long.x Lib.MathLoose.max_long.code 4 (some .long)) (wpC (Cond.classLink RX1 145 RJ4) (wpC (Cond.instantiable RJ4 4) (wpC (Cond.methodLink RX1 147 yJ4_init_da8c8) (wpC (Cond.methodLink RJ4 1 yJ5_init_d00df) (wpC (Cond.methodLink RJ5 3 objectInit) (wpC (Cond.fieldLink RJ5 18 "java/lang/String" "COMPACT_STRINGS" "Z") (wpC (Cond.fieldLink RJ5 15 "java/lang/AbstractStringBuilder" "value" "[B") (wpC (Cond.fieldLink RJ5 22 "java/lang/AbstractStringBuilder" "coder" "B") (wpC (Cond.fieldLink RJ0 1048 "java/lang/AbstractStringBuilder" "maybeLatin1" "Z") wpE)))))))))))) (wpL (wpC (Cond.fieldLink RJ5 79 "java/lang/AbstractStringBuilder" "count" "I") (wpC (Cond.methodLink RX1 148 yJ4_append_bf812) (wpC (Cond.instanceMethod yJ4_append_bf812) (wpC (Cond.selects yJ4_append_bf812.cls yJ4_append_bf812 yJ4_append_bf812) (wpC (Cond.code yJ4_append_bf812 cJ4_append_bf812 2 (some (.object "java/lang/StringBuilder"))) (wpC (Cond.methodLink RJ4 53 yJ5_append_c97b9) (wpC (Cond.methodLink RJ5 245 yJ6_stringSize_0f7a4) (wpC (Cond.static yJ6_stringSize_0f7a4) (wpC (Cond.code yJ6_stringSize_0f7a4 cJ6_stringSize_0f7a4 4 (some .int)) (wpC (Cond.methodLink RJ5 100 yJ5_ensureCapacityInternal_d00df) (wpC (Cond.methodLink RJ5 104 yJ5_newCapacity_0f7a4) (wpC (Cond.methodLink RJ5 114 yJ8_newLength_cabcc) wpE)))))))))))) (wpL (wpC (Cond.static yJ8_newLength_cabcc) (wpC (Cond.code yJ8_newLength_cabcc cJ8_newLength_cabcc 4 (some .int)) (wpC (Cond.methodLink RJ8 194 Lib.Math.max.name) (wpC (Cond.constant RJ8 200 (2147483639)) (wpC (Cond.constant RJ5 39 (2147483647)) (wpC (Cond.methodLink RJ5 108 yJ7_copyOf_9075b) (wpC (Cond.static yJ7_copyOf_9075b) (wpC (Cond.code yJ7_copyOf_9075b cJ7_copyOf_9075b 3 (some (.array .byte))) (wpC (Cond.methodLink RJ7 310 kBclone) (wpC (Cond.sameMethod "[B" "java/lang/Object" "clone" "()Ljava/lang/Object;") (wpC (Cond.native kOclone) (wpC (Cond.instanceMethod kOclone) wpE)))))))))))) (wpL (wpC (Cond.selects "[B" kBclone kOclone) (wpC (Cond.classLink RJ7 311 "[B") (wpC (Cond.methodLink RJ7 304 Lib.Math.min.name) (wpC (Cond.static Lib.Math.min.name) (wpC (Cond.code Lib.Math.min.name Lib.Math.min.code 2 (some .int)) (wpC (Cond.methodLink RJ7 150 arraycopyName) (wpC (Cond.static arraycopyName) (wpC (Cond.native arraycopyName) (wpC (Cond.methodLink RJ5 83 yJ5_isLatin1_aae02) (wpC (Cond.methodLink RJ5 248 yJ6_getChars_ba4f3) (wpC (Cond.static yJ6_getChars_ba4f3) (wpC (Cond.code yJ6_getChars_ba4f3 cJ6_getChars_ba4f3 7 (some .int)) wpE)))))))))))) (wpL (wpC (Cond.fieldLink RJ6 83 "java/lang/Integer" "DigitOnes" "[B") (wpC (Cond.fieldLink RJ6 87 "java/lang/Integer" "DigitTens" "[B") wpE)) wpN)))))))) := rfl
theorem kS05_3g : (kPg (gpC 18 (gpC 1 (gpC 0 (gpC 0 (gpC 0 (gpC 0 (gpC 0 (gpC 1 (gpC 0 (gpC 0 (gpC 0 (gpC 14 (gpC 1 (gpC 0 (gpC 7 (gpC 0 (gpC 0 (gpC 1 (gpC 0 (gpC 0 (gpC 0 (gpC 7 (gpC 1 (gpC 0 (gpC 0 (gpC 0 (gpC 0 (gpC 0 (gpC 0 (gpC 0 (gpC 0 (gpC 0 (gpC 7 (gpC 0 (gpC 0 (gpC 0 (gpC 7 (gpC 0 (gpC 0 (gpC 42 (gpC 0 (gpC 0 (gpC 2 (gpC 2 (gpC 0 (gpC 8 (gpC 0 (gpC 0 (gpC 0 (gpC 9 (gpC 0 (gpC 0 (gpC 0 (gpC 0 (gpC 2 (gpC 0 (gpC 0 (gpC 0 (gpC 3 (gpC 3 (gpC 0 (gpC 0 (gpC 0 (gpC 0 (gpC 3 (gpC 0 (gpC 0 (gpC 0 (gpC 0 (gpC 0 (gpC 0 (gpC 0 (gpC 0 (gpC 1 (gpC 0 (gpC 0 (gpC 0 (gpC 0 (gpC 0 (gpC 0 (gpC 0 (gpC 4 (gpC 0 (gpC 0 (gpC 0 (gpC 1 gpE)))))))))))))))))))))))))))))))))))))))))))))))))))))))))))))))))))))))))))))))))))))) tables_1_3).all goodWord = true := by decide +kernel
set_option maxRecDepth 100000 in
theorem kS05_4 : kPg (gpC 23 (gpC 0 (gpC 0 (gpC 0 (gpC 0 (gpC 2 (gpC 0 (gpC 0 (gpC 31 (gpC 0 (gpC 0 (gpC 0 (gpC 0 (gpC 0 (gpC 0 (gpC 2 (gpC 2 (gpC 0 (gpC 4 (gpC 5 (gpC 1 (gpC 0 (gpC 0 (gpC 0 (gpC 0 (gpC 0 (gpC 0 (gpC 0 (gpC 0 (gpC 0 (gpC 9 (gpC 9 (gpC 0 (gpC 0 (gpC 0 (gpC 0 (gpC 0 (gpC 0 (gpC 0 (gpC 0 (gpC 0 (gpC 3 (gpC 3 (gpC 0 (gpC 0 (gpC 0 (gpC 0 (gpC 0 (gpC 16 (gpC 0 gpE)))))))))))))))))))))))))))))))))))))))))))))))))) tables_1_4 = List.flatten (wpL (wpC (Cond.methodLink RX1 152 yJ4_append_cf468) (wpC (Cond.instanceMethod yJ4_append_cf468) (wpC (Cond.selects yJ4_append_cf468.cls yJ4_append_cf468 yJ4_append_cf468) (wpC (Cond.code yJ4_append_cf468 cJ4_append_cf468 2 (some (.object "java/lang/StringBuilder"))) (wpC (Cond.methodLink RJ4 50 yJ5_append_3fe6f) (wpC (Cond.methodLink RJ5 191 yJ1_canEncode_fc78d) (wpC (Cond.static yJ1_canEncode_fc78d) (wpC (Cond.code yJ1_canEncode_fc78d cJ1_canEncode_fc78d 1 (some .boolean)) (wpC (Cond.methodLink RX1 155 yJ4_toString_0e30d) (wpC (Cond.instanceMethod yJ4_toString_0e30d) (wpC (Cond.selects yJ4_toString_0e30d.cls yJ4_toString_0e30d yJ4_toString_0e30d) (wpC (Cond.code yJ4_toString_0e30d cJ4_toString_0e30d 1 (some (.object "java/lang/String"))) wpE)))))))))))) (wpL (wpC (Cond.classLink RJ4 18 RJ0) (wpC (Cond.instantiable RJ0 4) (wpC (Cond.methodLink RJ4 137 yJ0_init_81219) (wpC (Cond.methodLink RJ0 489 yJ0_init_db425) (wpC (Cond.methodLink RJ0 1 objectInit) (wpC (Cond.methodLink RJ0 552 yJ5_getValue_6d5f1) (wpC (Cond.methodLink RJ0 549 yJ5_length_8abf5) (wpC (Cond.methodLink RJ4 343 yJ5_length_8abf5) (wpC (Cond.methodLink RJ0 1047 yJ5_isLatin1_aae02) (wpC (Cond.methodLink RJ0 54 yJ7_copyOfRange_39247) (wpC (Cond.static yJ7_copyOfRange_39247) (wpC (Cond.code yJ7_copyOfRange_39247 cJ7_copyOfRange_39247 3 (some (.array .byte))) wpE)))))))))))) (wpL (wpC (Cond.methodLink RJ7 339 yJ7_copyOfRangeByte_39247) (wpC (Cond.static yJ7_copyOfRangeByte_39247) (wpC (Cond.code yJ7_copyOfRangeByte_39247 cJ7_copyOfRangeByte_39247 5 (some (.array .byte))) (wpC (Cond.methodLink RJ7 343 yJ7_checkLength_df160) (wpC (Cond.static yJ7_checkLength_df160) (wpC (Cond.code yJ7_checkLength_df160 cJ7_checkLength_df160 2 none) (wpC (Cond.methodLink RJ4 29 yJ5_append_cf1ce) (wpC (Cond.methodLink RJ5 32 yJ0_length_8abf5) (wpC (Cond.instanceMethod yJ0_length_8abf5) (wpC (Cond.selects yJ0_length_8abf5.cls yJ0_length_8abf5 yJ0_length_8abf5) (wpC (Cond.code yJ0_length_8abf5 cJ0_length_8abf5 1 (some .int)) (wpC (Cond.methodLink RJ0 335 yJ0_coder_7d493) wpE)))))))))))) (wpL (wpC (Cond.instanceMethod yJ0_coder_7d493) (wpC (Cond.selects yJ0_coder_7d493.cls yJ0_coder_7d493 yJ0_coder_7d493) (wpC (Cond.code yJ0_coder_7d493 cJ0_coder_7d493 1 (some .byte)) (wpC (Cond.fieldLink RJ0 38 "java/lang/String" "COMPACT_STRINGS" "Z") (wpC (Cond.methodLink RJ5 208 yJ5_putStringAt_47b60) (wpC (Cond.methodLink RJ5 397 yJ5_inflateIfNeededFor_a7421) (wpC (Cond.methodLink RJ5 40 yJ0_coder_7d493) (wpC (Cond.methodLink RJ5 399 yJ0_getBytes_840e7) (wpC (Cond.instanceMethod yJ0_getBytes_840e7) (wpC (Cond.selects yJ0_getBytes_840e7.cls yJ0_getBytes_840e7 yJ0_getBytes_840e7) (wpC (Cond.code yJ0_getBytes_840e7 cJ0_getBytes_840e7 4 none) (wpC (Cond.methodLink RJ0 212 arraycopyName) wpE)))))))))))) (wpL (wpC (Cond.fieldLink RJ0 9 "java/lang/String" "value" "[B") (wpC (Cond.fieldLink RJ0 15 "java/lang/String" "coder" "B") wpE)) wpN))))) := rfl
theorem kS05_4g : (kPg (gpC 23 (gpC 0 (gpC 0 (gpC 0 (gpC 0 (gpC 2 (gpC 0 (gpC 0 (gpC 31 (gpC 0 (gpC 0 (gpC 0 (gpC 0 (gpC 0 (gpC 0 (gpC 2 (gpC 2 (gpC 0 (gpC 4 (gpC 5 (gpC 1 (gpC 0 (gpC 0 (gpC 0 (gpC 0 (gpC 0 (gpC 0 (gpC 0 (gpC 0 (gpC 0 (gpC 9 (gpC 9 (gpC 0 (gpC 0 (gpC 0 (gpC 0 (gpC 0 (gpC 0 (gpC 0 (gpC 0 (gpC 0 (gpC 3 (gpC 3 (gpC 0 (gpC 0 (gpC 0 (gpC 0 (gpC 0 (gpC 16 (gpC 0 gpE)))))))))))))))))))))))))))))))))))))))))))))))))) tables_1_4).all goodWord = true := by decide +kernel
theorem kw_58 : Cond.initialized RX0 ∈ kBIG := (kb_g1 kS05_1 kS05_1g 0 1 rfl rfl)
theorem kw_64 : Cond.initialized "java/lang/IndexOutOfBoundsException" ∈ kBIG := (kb_g1 kS05_1 kS05_1g 0 2 rfl rfl)
theorem kw_65 : Cond.initialized "java/lang/IllegalArgumentException" ∈ kBIG := (kb_g1 kS05_1 kS05_1g 0 3 rfl rfl)
theorem kw_66 : Cond.initialized "java/lang/Math" ∈ kBIG := (kb_g1 kS05_1 kS05_1g 0 4 rfl rfl)
theorem kw_68 : Cond.initialized RJ4 ∈ kBIG := (kb_g1 kS05_1 kS05_1g 0 5 rfl rfl)
theorem kw_69 : Cond.initialized RJ0 ∈ kBIG := (kb_g1 kS05_1 kS05_1g 0 6 rfl rfl)
theorem kw_74 : Cond.initialized "java/lang/System" ∈ kBIG := (kb_g1 kS05_1 kS05_1g 0 10 rfl rfl)
theorem kw_82 : Cond.methodLink RX1 3 objectInit ∈ kBIG := (kb_g1 kS05_1 kS05_1g 1 0 rfl rfl)
theorem kw_83 : Cond.instanceMethod objectInit ∈ kBIG := (kb_g1 kS05_1 kS05_1g 1 1 rfl rfl)
theorem kw_84 : Cond.code objectInit ⟨#[0xb1]⟩ 1 none ∈ kBIG := (kb_g1 kS05_1 kS05_1g 1 2 rfl rfl)
theorem kw_85 : Cond.constantLong RX1 17 (86400000000000) ∈ kBIG := (kb_g1 kS05_1 kS05_1g 1 3 rfl rfl)
theorem kw_86 : Cond.classLink RX1 22 RX0 ∈ kBIG := (kb_g1 kS05_1 kS05_1g 1 4 rfl rfl)
theorem kw_87 : Cond.instantiable RX0 4 ∈ kBIG := (kb_g1 kS05_1 kS05_1g 1 5 rfl rfl)
theorem kw_88 : Cond.methodLink RX1 24 yX0_init ∈ kBIG := (kb_g1 kS05_1 kS05_1g 1 6 rfl rfl)
theorem kw_91 : Cond.methodLink RX0 3 objectInit ∈ kBIG := (kb_g1 kS05_1 kS05_1g 1 7 rfl rfl)
theorem kw_92 : Cond.fieldLink RX0 9 "Spanbooker$Row" "begins" "[J" ∈ kBIG := (kb_g1 kS05_1 kS05_1g 1 8 rfl rfl)
theorem kw_93 : Cond.fieldLink RX0 15 "Spanbooker$Row" "ends" "[J" ∈ kBIG := (kb_g1 kS05_1 kS05_1g 1 9 rfl rfl)
theorem kw_94 : Cond.fieldLink RX0 18 "Spanbooker$Row" "overs" "[Z" ∈ kBIG := (kb_g1 kS05_1 kS05_1g 1 10 rfl rfl)
theorem kw_95 : Cond.fieldLink RX0 22 "Spanbooker$Row" "count" "I" ∈ kBIG := (kb_g1 kS05_1 kS05_1g 1 11 rfl rfl)
theorem kw_105 : Cond.arrayClass .long ∈ kBIG := (kb_g1 kS05_1 kS05_1g 2 0 rfl rfl)
theorem kw_106 : Cond.arrayClass .boolean ∈ kBIG := (kb_g1 kS05_1 kS05_1g 2 1 rfl rfl)
theorem kw_107 : Cond.fieldLink RX1 9 "Spanbooker" "cells" "[J" ∈ kBIG := (kb_g1 kS05_1 kS05_1g 2 2 rfl rfl)
theorem kw_108 : Cond.fieldLink RX1 13 "Spanbooker" "from" "J" ∈ kBIG := (kb_g1 kS05_1 kS05_1g 2 3 rfl rfl)
theorem kw_109 : Cond.fieldLink RX1 19 "Spanbooker" "until" "J" ∈ kBIG := (kb_g1 kS05_1 kS05_1g 2 4 rfl rfl)
theorem kw_110 : Cond.fieldLink RX1 25 "Spanbooker" "spanRow" "LSpanbooker$Row;" ∈ kBIG := (kb_g1 kS05_1 kS05_1g 2 5 rfl rfl)
theorem kw_111 : Cond.fieldLink RX1 29 "Spanbooker" "wishRow" "LSpanbooker$Row;" ∈ kBIG := (kb_g1 kS05_1 kS05_1g 2 6 rfl rfl)
theorem kw_112 : Cond.fieldLink RX1 32 "Spanbooker" "freeRow" "LSpanbooker$Row;" ∈ kBIG := (kb_g1 kS05_1 kS05_1g 2 7 rfl rfl)
theorem kw_113 : Cond.fieldLink RX1 35 "Spanbooker" "roomOf" "[I" ∈ kBIG := (kb_g1 kS05_1 kS05_1g 2 8 rfl rfl)
theorem kw_114 : Cond.fieldLink RX1 224 "Spanbooker" "acts" "I" ∈ kBIG := (kb_g1 kS05_1 kS05_1g 2 9 rfl rfl)
theorem kw_115 : Cond.fieldLink RX1 228 "Spanbooker" "refusals" "I" ∈ kBIG := (kb_g1 kS05_1 kS05_1g 2 10 rfl rfl)
theorem kw_116 : Cond.fieldLink RX1 231 "Spanbooker" "knocks" "I" ∈ kBIG := (kb_g1 kS05_1 kS05_1g 2 11 rfl rfl)
theorem kw_138 : Cond.arrayClass .int ∈ kBIG := (kb_g1 kS05_1 kS05_1g 3 0 rfl rfl)
theorem kw_143 : Cond.methodLink RX1 99 yX0_clear ∈ kBIG := (kb_g1 kS05_1 kS05_1g 3 1 rfl rfl)
theorem kw_147 : Cond.methodLink RX1 69 yX1_done ∈ kBIG := (kb_g1 kS05_1 kS05_1g 3 5 rfl rfl)
theorem kw_155 : Cond.methodLink RX1 96 yX0_count ∈ kBIG := (kb_g1 kS05_1 kS05_1g 3 8 rfl rfl)
theorem kw_163 : Cond.methodLink RX1 170 yX0_doMeet ∈ kBIG := (kb_g1 kS05_1 kS05_1g 4 3 rfl rfl)
theorem kw_171 : Cond.methodLink RX1 177 yX0_depth ∈ kBIG := (kb_g1 kS05_1 kS05_1g 4 10 rfl rfl)
theorem kw_175 : Cond.methodLink RX0 38 Lib.Math.max.name ∈ kBIG := (kb_g1 kS05_1 kS05_1g 5 2 rfl rfl)
theorem kw_176 : Cond.static Lib.Math.max.name ∈ kBIG := (kb_g1 kS05_1 kS05_1g 5 3 rfl rfl)
theorem kw_177 : Cond.code Lib.Math.max.name Lib.Math.max.code 2 (some .int) ∈ kBIG := (kb_g1 kS05_1 kS05_1g 5 4 rfl rfl)
theorem kw_182 : Cond.methodLink RX1 188 yX1_findFrees ∈ kBIG := (kb_g1 kS05_1 kS05_1g 5 5 rfl rfl)
theorem kw_186 : Cond.methodLink RX1 136 yX1_firstWithoutSpan ∈ kBIG := (kb_g1 kS05_1 kS05_1g 5 8 rfl rfl)
theorem kw_190 : Cond.methodLink RX1 184 yX0_firstMeeting ∈ kBIG := (kb_g1 kS05_1 kS05_1g 5 11 rfl rfl)
theorem kw_194 : Cond.methodLink RX1 117 yX0_end ∈ kBIG := (kb_g1 kS05_1 kS05_1g 6 3 rfl rfl)
theorem kw_198 : Cond.methodLink RX0 26 yX0_isIn ∈ kBIG := (kb_g1 kS05_1 kS05_1g 6 7 rfl rfl)
theorem kw_202 : Cond.methodLink RX1 302 yX1_firstTaken ∈ kBIG := (kb_g1 kS05_1 kS05_1g 6 10 rfl rfl)
theorem kw_206 : Cond.methodLink RX1 174 yX0_firstWith ∈ kBIG := (kb_g1 kS05_1 kS05_1g 7 1 rfl rfl)
theorem kw_210 : Cond.methodLink RX0 34 yX0_firstMeeting ∈ kBIG := (kb_g1 kS05_1 kS05_1g 7 5 rfl rfl)
theorem kw_211 : Cond.methodLink RX1 299 yX0_nextBegin ∈ kBIG := (kb_g1 kS05_1 kS05_1g 7 6 rfl rfl)
theorem kw_215 : Cond.methodLink RX1 139 yX0_add ∈ kBIG := (kb_g1 kS05_1 kS05_1g 7 10 rfl rfl)
theorem kw_227 : Cond.methodLink RX1 204 yX1_nextChosen ∈ kBIG := (kb_g1 kS05_1 kS05_1g 8 5 rfl rfl)
theorem kw_231 : Cond.methodLink RX1 305 yX1_meetsOneOf ∈ kBIG := (kb_g1 kS05_1 kS05_1g 8 8 rfl rfl)
theorem kw_243 : Cond.methodLink RX1 218 yX1_findRooms ∈ kBIG := (kb_g1 kS05_1 kS05_1g 9 2 rfl rfl)
theorem kw_247 : Cond.methodLink RX1 308 yX1_firstWithoutRoom ∈ kBIG := (kb_g1 kS05_1 kS05_1g 9 5 rfl rfl)
theorem kw_251 : Cond.methodLink RX1 113 yX0_begin ∈ kBIG := (kb_g1 kS05_1 kS05_1g 9 8 rfl rfl)
theorem kw_255 : Cond.methodLink RX1 311 yX1_smallestRoom ∈ kBIG := (kb_g1 kS05_1 kS05_1g 10 0 rfl rfl)
theorem kw_259 : Cond.methodLink RX1 221 yX1_roomCount ∈ kBIG := (kb_g1 kS05_1 kS05_1g 10 3 rfl rfl)
theorem kw_263 : Cond.methodLink RX1 314 Lib.Math.max.name ∈ kBIG := (kb_g1 kS05_1 kS05_1g 10 6 rfl rfl)
theorem kw_272 : Cond.methodLink RX1 234 yX1_isSoundInSpans ∈ kBIG := (kb_g1 kS05_1 kS05_1g 10 10 rfl rfl)
theorem kw_276 : Cond.methodLink RX1 180 yX1_isInCalendar ∈ kBIG := (kb_g1 kS05_1 kS05_1g 11 1 rfl rfl)
theorem kw_280 : Cond.methodLink RX1 162 yX0_isOver ∈ kBIG := (kb_g1 kS05_1 kS05_1g 11 4 rfl rfl)
theorem kw_284 : Cond.methodLink RX1 238 yX1_isSoundInFrees ∈ kBIG := (kb_g1 kS05_1 kS05_1g 11 8 rfl rfl)
theorem kw_288 : Cond.methodLink RX1 191 yX1_takenLength ∈ kBIG := (kb_g1 kS05_1 kS05_1g 11 11 rfl rfl)
theorem kw_292 : Cond.methodLink RX1 195 yX1_freeLength ∈ kBIG := (kb_g1 kS05_1 kS05_1g 12 2 rfl rfl)
theorem kw_296 : Cond.methodLink RX1 241 yX1_isSoundInWishes ∈ kBIG := (kb_g2 kS05_2 kS05_2g 0 0 rfl rfl)
theorem kw_300 : Cond.methodLink RX1 207 yX1_chosen ∈ kBIG := (kb_g2 kS05_2 kS05_2g 0 3 rfl rfl)
theorem kw_301 : Cond.methodLink RX1 201 yX1_isWithoutMeeting ∈ kBIG := (kb_g2 kS05_2 kS05_2g 0 4 rfl rfl)
theorem kw_305 : Cond.methodLink RX1 210 yJ6_bitCount_0f7a4 ∈ kBIG := (kb_g2 kS05_2 kS05_2g 0 7 rfl rfl)
theorem kw_308 : Cond.constant RJ6 265 (1431655765) ∈ kBIG := (kb_g2 kS05_2 kS05_2g 0 10 rfl rfl)
theorem kw_309 : Cond.constant RJ6 266 (858993459) ∈ kBIG := (kb_g2 kS05_2 kS05_2g 0 11 rfl rfl)
theorem kw_310 : Cond.constant RJ6 267 (252645135) ∈ kBIG := (kb_g2 kS05_2 kS05_2g 1 0 rfl rfl)
theorem kw_311 : Cond.methodLink RX1 215 yX1_mostOfAllSets ∈ kBIG := (kb_g2 kS05_2 kS05_2g 1 1 rfl rfl)
theorem kw_315 : Cond.methodLink RX1 198 yX1_setOfAllWishes ∈ kBIG := (kb_g2 kS05_2 kS05_2g 1 4 rfl rfl)
theorem kw_319 : Cond.methodLink RX1 317 yX1_crowd ∈ kBIG := (kb_g2 kS05_2 kS05_2g 1 7 rfl rfl)
theorem kw_324 : Cond.constantLong RX1 244 (8009) ∈ kBIG := (kb_g2 kS05_2 kS05_2g 1 8 rfl rfl)
theorem kw_325 : Cond.methodLink RX1 246 yX1_mixCells ∈ kBIG := (kb_g2 kS05_2 kS05_2g 1 9 rfl rfl)
theorem kw_329 : Cond.methodLink RX1 65 yX1_secondOf ∈ kBIG := (kb_g2 kS05_2 kS05_2g 2 0 rfl rfl)
theorem kw_332 : Cond.constantLong RX1 55 (1000000000) ∈ kBIG := (kb_g2 kS05_2 kS05_2g 2 3 rfl rfl)
theorem kw_333 : Cond.methodLink RX1 284 yJ9_floorDiv_f86c9 ∈ kBIG := (kb_g2 kS05_2 kS05_2g 2 4 rfl rfl)
theorem kw_336 : Cond.methodLink RX1 259 yX1_mix ∈ kBIG := (kb_g2 kS05_2 kS05_2g 2 7 rfl rfl)
theorem kw_339 : Cond.constantLong RX1 320 (31) ∈ kBIG := (kb_g2 kS05_2 kS05_2g 2 10 rfl rfl)
theorem kw_340 : Cond.methodLink RX1 142 yX1_nanoOf ∈ kBIG := (kb_g2 kS05_2 kS05_2g 2 11 rfl rfl)
theorem kw_343 : Cond.methodLink RX1 287 yJ9_floorMod_f86c9 ∈ kBIG := (kb_g2 kS05_2 kS05_2g 3 2 rfl rfl)
theorem kw_346 : Cond.methodLink RX1 250 yX1_mixSpans ∈ kBIG := (kb_g2 kS05_2 kS05_2g 3 5 rfl rfl)
theorem kw_350 : Cond.methodLink RX1 322 yX1_calendar ∈ kBIG := (kb_g2 kS05_2 kS05_2g 3 8 rfl rfl)
theorem kw_354 : Cond.methodLink RX1 45 yX1_isWithin ∈ kBIG := (kb_g2 kS05_2 kS05_2g 4 0 rfl rfl)
theorem kw_357 : Cond.methodLink RX1 51 yX1_needThat ∈ kBIG := (kb_g2 kS05_2 kS05_2g 4 3 rfl rfl)
theorem kw_360 : Cond.classLink RX1 275 "java/lang/IllegalArgumentException" ∈ kBIG := (kb_g2 kS05_2 kS05_2g 4 6 rfl rfl)
theorem kw_426 : Cond.arrayClass .byte ∈ kBIG := (kb_g2 kS05_2 kS05_2g 4 7 rfl rfl)
theorem kw_427 : Cond.methodLink RX1 159 yX1_partOf ∈ kBIG := (kb_g2 kS05_2 kS05_2g 4 8 rfl rfl)
theorem kw_430 : Cond.methodLink RX1 325 yX1_mixParts ∈ kBIG := (kb_g2 kS05_2 kS05_2g 4 11 rfl rfl)
theorem kw_433 : Cond.methodLink RX1 166 yX1_partIn ∈ kBIG := (kb_g2 kS05_2 kS05_2g 5 2 rfl rfl)
theorem kw_436 : Cond.methodLink RX1 329 yX1_clashes ∈ kBIG := (kb_g2 kS05_2 kS05_2g 5 5 rfl rfl)
theorem kw_437 : Cond.methodLink RX1 332 yX1_deepest ∈ kBIG := (kb_g2 kS05_2 kS05_2g 5 6 rfl rfl)
theorem kw_438 : Cond.methodLink RX1 253 yX1_mixFrees ∈ kBIG := (kb_g2 kS05_2 kS05_2g 5 7 rfl rfl)
theorem kw_442 : Cond.methodLink RX1 335 yX1_length ∈ kBIG := (kb_g2 kS05_2 kS05_2g 5 10 rfl rfl)
theorem kw_446 : Cond.methodLink RX1 256 yX1_mixWishes ∈ kBIG := (kb_g2 kS05_2 kS05_2g 6 2 rfl rfl)
theorem kw_450 : Cond.methodLink RX1 263 yX1_isSound ∈ kBIG := (kb_g2 kS05_2 kS05_2g 6 5 rfl rfl)
theorem kw_456 : Cond.methodLink RX2 1 objectInit ∈ kBIG := (kb_g2 kS05_2 kS05_2g 6 6 rfl rfl)
theorem kw_473 : Cond.methodLink RX1 39 yX1_needCell ∈ kBIG := (kb_g2 kS05_2 kS05_2g 6 7 rfl rfl)
theorem kw_476 : Cond.classLink RX1 266 "java/lang/IndexOutOfBoundsException" ∈ kBIG := (kb_g2 kS05_2 kS05_2g 6 10 rfl rfl)
theorem kw_492 : Cond.constant RX1 43 (-1000000000) ∈ kBIG := (kb_g2 kS05_2 kS05_2g 6 11 rfl rfl)
theorem kw_493 : Cond.constant RX1 44 (1000000000) ∈ kBIG := (kb_g2 kS05_2 kS05_2g 7 0 rfl rfl)
theorem kw_494 : Cond.constant RX1 49 (-2000000000) ∈ kBIG := (kb_g2 kS05_2 kS05_2g 7 1 rfl rfl)
theorem kw_495 : Cond.constant RX1 50 (2000000000) ∈ kBIG := (kb_g2 kS05_2 kS05_2g 7 2 rfl rfl)
theorem kw_496 : Cond.methodLink RX1 57 yX1_isLet ∈ kBIG := (kb_g2 kS05_2 kS05_2g 7 3 rfl rfl)
theorem kw_499 : Cond.constantLong RX1 280 (-1000000000000000000) ∈ kBIG := (kb_g2 kS05_2 kS05_2g 7 6 rfl rfl)
theorem kw_500 : Cond.constantLong RX1 282 (1000000000999999999) ∈ kBIG := (kb_g2 kS05_2 kS05_2g 7 7 rfl rfl)
theorem kw_501 : Cond.methodLink RX1 61 yX1_refuse ∈ kBIG := (kb_g2 kS05_2 kS05_2g 7 8 rfl rfl)
theorem kw_512 : Cond.methodLink RX1 73 yX1_needUnits ∈ kBIG := (kb_g2 kS05_2 kS05_2g 7 11 rfl rfl)
theorem kw_515 : Cond.methodLink RX1 77 yX1_lengthOf ∈ kBIG := (kb_g2 kS05_2 kS05_2g 8 2 rfl rfl)
theorem kw_518 : Cond.constantLong RX1 290 (1000000) ∈ kBIG := (kb_g2 kS05_2 kS05_2g 8 5 rfl rfl)
theorem kw_519 : Cond.methodLink RX1 81 yX1_sideOf ∈ kBIG := (kb_g2 kS05_2 kS05_2g 8 6 rfl rfl)
theorem kw_529 : Cond.methodLink RX1 85 yX1_bring ∈ kBIG := (kb_g2 kS05_2 kS05_2g 8 9 rfl rfl)
theorem kw_554 : Cond.methodLink RX1 89 yX1_isAllLetAfter ∈ kBIG := (kb_g3 kS05_3 kS05_3g 0 0 rfl rfl)
theorem kw_558 : Cond.methodLink RX1 292 yX0_isLetAfter ∈ kBIG := (kb_g3 kS05_3 kS05_3g 0 3 rfl rfl)
theorem kw_563 : Cond.methodLink RX1 92 yX0_goOn ∈ kBIG := (kb_g3 kS05_3 kS05_3g 0 7 rfl rfl)
theorem kw_581 : Cond.methodLink RX1 102 yX1_addSpan ∈ kBIG := (kb_g3 kS05_3 kS05_3g 0 11 rfl rfl)
theorem kw_592 : Cond.methodLink RX1 106 yX1_needNumberIn ∈ kBIG := (kb_g3 kS05_3 kS05_3g 1 2 rfl rfl)
theorem kw_596 : Cond.methodLink RX1 110 yX0_remove ∈ kBIG := (kb_g3 kS05_3 kS05_3g 1 5 rfl rfl)
theorem kw_607 : Cond.methodLink RX1 120 yX1_changeSpan ∈ kBIG := (kb_g3 kS05_3 kS05_3g 1 9 rfl rfl)
theorem kw_611 : Cond.methodLink RX1 295 yX0_put ∈ kBIG := (kb_g3 kS05_3 kS05_3g 2 0 rfl rfl)
theorem kw_615 : Cond.methodLink RX1 124 yX0_beginsBefore ∈ kBIG := (kb_g3 kS05_3 kS05_3g 2 4 rfl rfl)
theorem kw_626 : Cond.methodLink RX1 127 yX0_endsBefore ∈ kBIG := (kb_g3 kS05_3 kS05_3g 2 8 rfl rfl)
theorem kw_637 : Cond.methodLink RX1 130 Lib.MathLoose.max_long.x ∈ kBIG := (kb_g3 kS05_3 kS05_3g 3 0 rfl rfl)
theorem kw_638 : Cond.static Lib.MathLoose.max_long.x ∈ kBIG := (kb_g3 kS05_3 kS05_3g 3 1 rfl rfl)
theorem kw_639 : Cond.code Lib.MathLoose.max_long.x Lib.MathLoose.max_long.code 4 (some .long) ∈ kBIG := (kb_g3 kS05_3 kS05_3g 3 2 rfl rfl)
theorem kw_682 : Cond.classLink RX1 145 RJ4 ∈ kBIG := (kb_g3 kS05_3 kS05_3g 3 3 rfl rfl)
theorem kw_683 : Cond.instantiable RJ4 4 ∈ kBIG := (kb_g3 kS05_3 kS05_3g 3 4 rfl rfl)
theorem kw_684 : Cond.methodLink RX1 147 yJ4_init_da8c8 ∈ kBIG := (kb_g3 kS05_3 kS05_3g 3 5 rfl rfl)
theorem kw_687 : Cond.methodLink RJ4 1 yJ5_init_d00df ∈ kBIG := (kb_g3 kS05_3 kS05_3g 3 6 rfl rfl)
theorem kw_690 : Cond.methodLink RJ5 3 objectInit ∈ kBIG := (kb_g3 kS05_3 kS05_3g 3 7 rfl rfl)
theorem kw_691 : Cond.fieldLink RJ5 18 "java/lang/String" "COMPACT_STRINGS" "Z" ∈ kBIG := (kb_g3 kS05_3 kS05_3g 3 8 rfl rfl)
theorem kw_700 : Cond.fieldLink RJ5 15 "java/lang/AbstractStringBuilder" "value" "[B" ∈ kBIG := (kb_g3 kS05_3 kS05_3g 3 9 rfl rfl)
theorem kw_701 : Cond.fieldLink RJ5 22 "java/lang/AbstractStringBuilder" "coder" "B" ∈ kBIG := (kb_g3 kS05_3 kS05_3g 3 10 rfl rfl)
theorem kw_702 : Cond.fieldLink RJ0 1048 "java/lang/AbstractStringBuilder" "maybeLatin1" "Z" ∈ kBIG := (kb_g3 kS05_3 kS05_3g 3 11 rfl rfl)
theorem kw_703 : Cond.fieldLink RJ5 79 "java/lang/AbstractStringBuilder" "count" "I" ∈ kBIG := (kb_g3 kS05_3 kS05_3g 4 0 rfl rfl)
theorem kw_713 : Cond.methodLink RX1 148 yJ4_append_bf812 ∈ kBIG := (kb_g3 kS05_3 kS05_3g 4 1 rfl rfl)
theorem kw_717 : Cond.methodLink RJ4 53 yJ5_append_c97b9 ∈ kBIG := (kb_g3 kS05_3 kS05_3g 4 5 rfl rfl)
theorem kw_720 : Cond.methodLink RJ5 245 yJ6_stringSize_0f7a4 ∈ kBIG := (kb_g3 kS05_3 kS05_3g 4 6 rfl rfl)
theorem kw_723 : Cond.methodLink RJ5 100 yJ5_ensureCapacityInternal_d00df ∈ kBIG := (kb_g3 kS05_3 kS05_3g 4 9 rfl rfl)
theorem kw_727 : Cond.methodLink RJ5 104 yJ5_newCapacity_0f7a4 ∈ kBIG := (kb_g3 kS05_3 kS05_3g 4 10 rfl rfl)
theorem kw_731 : Cond.methodLink RJ5 114 yJ8_newLength_cabcc ∈ kBIG := (kb_g3 kS05_3 kS05_3g 4 11 rfl rfl)
theorem kw_734 : Cond.methodLink RJ8 194 Lib.Math.max.name ∈ kBIG := (kb_g3 kS05_3 kS05_3g 5 2 rfl rfl)
theorem kw_735 : Cond.constant RJ8 200 (2147483639) ∈ kBIG := (kb_g3 kS05_3 kS05_3g 5 3 rfl rfl)
theorem kw_739 : Cond.constant RJ5 39 (2147483647) ∈ kBIG := (kb_g3 kS05_3 kS05_3g 5 4 rfl rfl)
theorem kw_740 : Cond.methodLink RJ5 108 yJ7_copyOf_9075b ∈ kBIG := (kb_g3 kS05_3 kS05_3g 5 5 rfl rfl)
theorem kw_743 : Cond.methodLink RJ7 310 kBclone ∈ kBIG := (kb_g3 kS05_3 kS05_3g 5 8 rfl rfl)
theorem kw_744 : Cond.sameMethod "[B" "java/lang/Object" "clone" "()Ljava/lang/Object;" ∈ kBIG := (kb_g3 kS05_3 kS05_3g 5 9 rfl rfl)
theorem kw_745 : Cond.native kOclone ∈ kBIG := (kb_g3 kS05_3 kS05_3g 5 10 rfl rfl)
theorem kw_746 : Cond.instanceMethod kOclone ∈ kBIG := (kb_g3 kS05_3 kS05_3g 5 11 rfl rfl)
theorem kw_747 : Cond.selects "[B" kBclone kOclone ∈ kBIG := (kb_g3 kS05_3 kS05_3g 6 0 rfl rfl)
theorem kw_749 : Cond.classLink RJ7 311 "[B" ∈ kBIG := (kb_g3 kS05_3 kS05_3g 6 1 rfl rfl)
theorem kw_750 : Cond.methodLink RJ7 304 Lib.Math.min.name ∈ kBIG := (kb_g3 kS05_3 kS05_3g 6 2 rfl rfl)
theorem kw_751 : Cond.static Lib.Math.min.name ∈ kBIG := (kb_g3 kS05_3 kS05_3g 6 3 rfl rfl)
theorem kw_752 : Cond.code Lib.Math.min.name Lib.Math.min.code 2 (some .int) ∈ kBIG := (kb_g3 kS05_3 kS05_3g 6 4 rfl rfl)
theorem kw_753 : Cond.methodLink RJ7 150 arraycopyName ∈ kBIG := (kb_g3 kS05_3 kS05_3g 6 5 rfl rfl)
theorem kw_754 : Cond.static arraycopyName ∈ kBIG := (kb_g3 kS05_3 kS05_3g 6 6 rfl rfl)
theorem kw_755 : Cond.native arraycopyName ∈ kBIG := (kb_g3 kS05_3 kS05_3g 6 7 rfl rfl)
theorem kw_756 : Cond.methodLink RJ5 83 yJ5_isLatin1_aae02 ∈ kBIG := (kb_g3 kS05_3 kS05_3g 6 8 rfl rfl)
theorem kw_761 : Cond.methodLink RJ5 248 yJ6_getChars_ba4f3 ∈ kBIG := (kb_g3 kS05_3 kS05_3g 6 9 rfl rfl)
theorem kw_764 : Cond.fieldLink RJ6 83 "java/lang/Integer" "DigitOnes" "[B" ∈ kBIG := (kb_g3 kS05_3 kS05_3g 7 0 rfl rfl)
theorem kw_766 : Cond.fieldLink RJ6 87 "java/lang/Integer" "DigitTens" "[B" ∈ kBIG := (kb_g3 kS05_3 kS05_3g 7 1 rfl rfl)
theorem kw_799 : Cond.methodLink RX1 152 yJ4_append_cf468 ∈ kBIG := (kb_g4 kS05_4 kS05_4g 0 0 rfl rfl)
theorem kw_803 : Cond.methodLink RJ4 50 yJ5_append_3fe6f ∈ kBIG := (kb_g4 kS05_4 kS05_4g 0 4 rfl rfl)
theorem kw_806 : Cond.methodLink RJ5 191 yJ1_canEncode_fc78d ∈ kBIG := (kb_g4 kS05_4 kS05_4g 0 5 rfl rfl)
theorem kw_840 : Cond.methodLink RX1 155 yJ4_toString_0e30d ∈ kBIG := (kb_g4 kS05_4 kS05_4g 0 8 rfl rfl)
theorem kw_844 : Cond.classLink RJ4 18 RJ0 ∈ kBIG := (kb_g4 kS05_4 kS05_4g 1 0 rfl rfl)
theorem kw_845 : Cond.instantiable RJ0 4 ∈ kBIG := (kb_g4 kS05_4 kS05_4g 1 1 rfl rfl)
theorem kw_846 : Cond.methodLink RJ4 137 yJ0_init_81219 ∈ kBIG := (kb_g4 kS05_4 kS05_4g 1 2 rfl rfl)
theorem kw_849 : Cond.methodLink RJ0 489 yJ0_init_db425 ∈ kBIG := (kb_g4 kS05_4 kS05_4g 1 3 rfl rfl)
theorem kw_852 : Cond.methodLink RJ0 1 objectInit ∈ kBIG := (kb_g4 kS05_4 kS05_4g 1 4 rfl rfl)
theorem kw_853 : Cond.methodLink RJ0 552 yJ5_getValue_6d5f1 ∈ kBIG := (kb_g4 kS05_4 kS05_4g 1 5 rfl rfl)
theorem kw_858 : Cond.methodLink RJ0 549 yJ5_length_8abf5 ∈ kBIG := (kb_g4 kS05_4 kS05_4g 1 6 rfl rfl)
theorem kw_864 : Cond.methodLink RJ4 343 yJ5_length_8abf5 ∈ kBIG := (kb_g4 kS05_4 kS05_4g 1 7 rfl rfl)
theorem kw_866 : Cond.methodLink RJ0 1047 yJ5_isLatin1_aae02 ∈ kBIG := (kb_g4 kS05_4 kS05_4g 1 8 rfl rfl)
theorem kw_867 : Cond.methodLink RJ0 54 yJ7_copyOfRange_39247 ∈ kBIG := (kb_g4 kS05_4 kS05_4g 1 9 rfl rfl)
theorem kw_870 : Cond.methodLink RJ7 339 yJ7_copyOfRangeByte_39247 ∈ kBIG := (kb_g4 kS05_4 kS05_4g 2 0 rfl rfl)
theorem kw_873 : Cond.methodLink RJ7 343 yJ7_checkLength_df160 ∈ kBIG := (kb_g4 kS05_4 kS05_4g 2 3 rfl rfl)
theorem kw_885 : Cond.methodLink RJ4 29 yJ5_append_cf1ce ∈ kBIG := (kb_g4 kS05_4 kS05_4g 2 6 rfl rfl)
theorem kw_895 : Cond.methodLink RJ5 32 yJ0_length_8abf5 ∈ kBIG := (kb_g4 kS05_4 kS05_4g 2 7 rfl rfl)
theorem kw_899 : Cond.methodLink RJ0 335 yJ0_coder_7d493 ∈ kBIG := (kb_g4 kS05_4 kS05_4g 2 11 rfl rfl)
theorem kw_903 : Cond.fieldLink RJ0 38 "java/lang/String" "COMPACT_STRINGS" "Z" ∈ kBIG := (kb_g4 kS05_4 kS05_4g 3 3 rfl rfl)
theorem kw_904 : Cond.methodLink RJ5 208 yJ5_putStringAt_47b60 ∈ kBIG := (kb_g4 kS05_4 kS05_4g 3 4 rfl rfl)
theorem kw_908 : Cond.methodLink RJ5 397 yJ5_inflateIfNeededFor_a7421 ∈ kBIG := (kb_g4 kS05_4 kS05_4g 3 5 rfl rfl)
theorem kw_912 : Cond.methodLink RJ5 40 yJ0_coder_7d493 ∈ kBIG := (kb_g4 kS05_4 kS05_4g 3 6 rfl rfl)
theorem kw_913 : Cond.methodLink RJ5 399 yJ0_getBytes_840e7 ∈ kBIG := (kb_g4 kS05_4 kS05_4g 3 7 rfl rfl)
theorem kw_917 : Cond.methodLink RJ0 212 arraycopyName ∈ kBIG := (kb_g4 kS05_4 kS05_4g 3 11 rfl rfl)
theorem kw_934 : Cond.fieldLink RJ0 9 "java/lang/String" "value" "[B" ∈ kBIG := (kb_g4 kS05_4 kS05_4g 4 0 rfl rfl)
theorem kw_935 : Cond.fieldLink RJ0 15 "java/lang/String" "coder" "B" ∈ kBIG := (kb_g4 kS05_4 kS05_4g 4 1 rfl rfl)
theorem ku_J0 : ∀ w ∈ u_ws RJ0 TJ0 4, w ∈ kBIG := kb_all _ [936, 938, 940, 942] (by decide +kernel) (by decide +kernel)
theorem ku_J4 : ∀ w ∈ u_ws RJ4 TJ4 4, w ∈ kBIG := kb_all _ [704, 706, 708, 710] (by decide +kernel) (by decide +kernel)
theorem ku_X0 : ∀ w ∈ u_ws RX0 TX0 4, w ∈ kBIG := kb_all _ [96, 98, 100, 102] (by decide +kernel) (by decide +kernel)
theorem ku_X1 : ∀ w ∈ u_ws RX1 TX1 10, w ∈ kBIG := kb_all _ [117, 119, 121, 123, 125, 127, 129, 131, 133, 135] (by decide +kernel) (by decide +kernel)
theorem ku_X2 : ∀ w ∈ u_ws RX2 TX2 2, w ∈ kBIG := kb_all _ [459, 461] (by decide +kernel) (by decide +kernel)
theorem ku_X3 : ∀ w ∈ u_ws RX3 TX3 14, w ∈ kBIG := kb_all _ [1086, 1088, 1090, 1092, 1094, 1096, 1098, 1100, 1102, 1104, 1106, 1108, 1110, 1112] (by decide +kernel) (by decide +kernel)
theorem kv_J0_coder_7d493 : kVt yJ0_coder_7d493 cJ0_coder_7d493 1 (some .byte) 0 := ⟨(kb_g4 kS05_4 kS05_4g 3 2 rfl rfl), (kb_g4 kS05_4 kS05_4g 3 0 rfl rfl), (kb_g4 kS05_4 kS05_4g 3 1 rfl rfl), (kb_g1 kS05_1 kS05_1g 0 6 rfl rfl), kmh_RJ0, kvh_RJ0, pd_0⟩
theorem kv_J0_getBytes_840e7 : kVt yJ0_getBytes_840e7 cJ0_getBytes_840e7 4 none 3 := ⟨(kb_g4 kS05_4 kS05_4g 3 10 rfl rfl), (kb_g4 kS05_4 kS05_4g 3 8 rfl rfl), (kb_g4 kS05_4 kS05_4g 3 9 rfl rfl), (kb_g1 kS05_1 kS05_1g 0 6 rfl rfl), kmh_RJ0, kvh_RJ0, pd_1⟩
theorem kv_J0_init_81219 : kIt yJ0_init_81219 cJ0_init_81219 2 1 := ⟨kb_c4 72 rfl (by decide +kernel), kb_c4 71 rfl (by decide +kernel), kb_c1 13 rfl (by decide +kernel), by decide +kernel⟩
theorem kv_J0_init_db425 : kIt yJ0_init_db425 cJ0_init_db425 5 2 := ⟨kb_c4 75 rfl (by decide +kernel), kb_c4 74 rfl (by decide +kernel), kb_c1 13 rfl (by decide +kernel), by decide +kernel⟩
theorem kv_J0_length_8abf5 : kVt yJ0_length_8abf5 cJ0_length_8abf5 1 (some .int) 0 := ⟨(kb_g4 kS05_4 kS05_4g 2 10 rfl rfl), (kb_g4 kS05_4 kS05_4g 2 8 rfl rfl), (kb_g4 kS05_4 kS05_4g 2 9 rfl rfl), (kb_g1 kS05_1 kS05_1g 0 6 rfl rfl), kmh_RJ0, kvh_RJ0, pd_2⟩
theorem kv_J1_canEncode_fc78d : kSt yJ1_canEncode_fc78d cJ1_canEncode_fc78d 1 (some .boolean) 1 := ⟨(kb_g4 kS05_4 kS05_4g 0 7 rfl rfl), (kb_g4 kS05_4 kS05_4g 0 6 rfl rfl), (kb_g1 kS05_1 kS05_1g 0 11 rfl rfl), kmh_RJ1, kvh_RJ1, pd_3⟩
theorem kv_J4_append_bf812 : kVt yJ4_append_bf812 cJ4_append_bf812 2 (some (.object "java/lang/StringBuilder")) 1 := ⟨(kb_g3 kS05_3 kS05_3g 4 4 rfl rfl), (kb_g3 kS05_3 kS05_3g 4 2 rfl rfl), (kb_g3 kS05_3 kS05_3g 4 3 rfl rfl), (kb_g1 kS05_1 kS05_1g 0 5 rfl rfl), kmh_RJ4, kvh_RJ4, pd_4⟩
theorem kv_J4_append_cf468 : kVt yJ4_append_cf468 cJ4_append_cf468 2 (some (.object "java/lang/StringBuilder")) 1 := ⟨(kb_g4 kS05_4 kS05_4g 0 3 rfl rfl), (kb_g4 kS05_4 kS05_4g 0 1 rfl rfl), (kb_g4 kS05_4 kS05_4g 0 2 rfl rfl), (kb_g1 kS05_1 kS05_1g 0 5 rfl rfl), kmh_RJ4, kvh_RJ4, pd_5⟩
theorem kv_J4_init_da8c8 : kIt yJ4_init_da8c8 cJ4_init_da8c8 1 0 := ⟨kb_c3 150 rfl (by decide +kernel), kb_c3 149 rfl (by decide +kernel), kb_c1 12 rfl (by decide +kernel), by decide +kernel⟩
theorem kv_J4_length_8abf5 : kOt yJ5_length_8abf5 cJ5_length_8abf5 1 (some .int) yJ4_length_8abf5 cJ4_length_8abf5 1 (some .int) 0 := ⟨kb_c4 87 rfl (by decide +kernel), kb_c4 86 rfl (by decide +kernel), kb_c1 12 rfl (by decide +kernel), kb_c4 84 rfl (by decide +kernel), kb_c4 85 rfl (by decide +kernel), kb_c4 83 rfl (by decide +kernel), kb_c4 89 rfl (by decide +kernel), by decide +kernel⟩
theorem kv_J4_toString_0e30d : kVt yJ4_toString_0e30d cJ4_toString_0e30d 1 (some (.object "java/lang/String")) 0 := ⟨(kb_g4 kS05_4 kS05_4g 0 11 rfl rfl), (kb_g4 kS05_4 kS05_4g 0 9 rfl rfl), (kb_g4 kS05_4 kS05_4g 0 10 rfl rfl), (kb_g1 kS05_1 kS05_1g 0 5 rfl rfl), kmh_RJ4, kvh_RJ4, pd_6⟩
theorem kv_J5_append_3fe6f : kUs yJ5_append_3fe6f cJ5_append_3fe6f 2 (some (.object "java/lang/AbstractStringBuilder")) 1 := ⟨kb_c4 29 rfl (by decide +kernel), kb_c4 28 rfl (by decide +kernel), kb_c1 11 rfl (by decide +kernel), kb_c6 237 rfl (by decide +kernel), kb_c3 176 rfl (by decide +kernel), by decide +kernel⟩
theorem kv_J5_append_c97b9 : kUs yJ5_append_c97b9 cJ5_append_c97b9 4 (some (.object "java/lang/AbstractStringBuilder")) 1 := ⟨kb_c3 183 rfl (by decide +kernel), kb_c3 182 rfl (by decide +kernel), kb_c1 11 rfl (by decide +kernel), kb_c6 234 rfl (by decide +kernel), kb_c3 176 rfl (by decide +kernel), by decide +kernel⟩
theorem kv_J5_append_cf1ce : kUs yJ5_append_cf1ce cJ5_append_cf1ce 3 (some (.object "java/lang/AbstractStringBuilder")) 1 := ⟨kb_c4 111 rfl (by decide +kernel), kb_c4 110 rfl (by decide +kernel), kb_c1 11 rfl (by decide +kernel), kb_c6 239 rfl (by decide +kernel), kb_c3 176 rfl (by decide +kernel), by decide +kernel⟩
theorem kv_J5_ensureCapacityInternal_d00df : kUt "java/lang/StringBuilder" yJ5_ensureCapacityInternal_d00df cJ5_ensureCapacityInternal_d00df 3 none 1 := ⟨kb_c3 190 rfl (by decide +kernel), kb_c3 189 rfl (by decide +kernel), kb_c1 11 rfl (by decide +kernel), kb_c6 235 rfl (by decide +kernel), kb_pv 0 (by decide +kernel), by decide +kernel, by decide +kernel, pd_7⟩
theorem kv_J5_getValue_6d5f1 : kUt "java/lang/StringBuilder" yJ5_getValue_6d5f1 cJ5_getValue_6d5f1 1 (some (.array .byte)) 0 := ⟨kb_c4 81 rfl (by decide +kernel), kb_c4 78 rfl (by decide +kernel), kb_c1 11 rfl (by decide +kernel), kb_c4 79 rfl (by decide +kernel), kb_c4 80 rfl (by decide +kernel), by decide +kernel, by decide +kernel, pd_8⟩
theorem kv_J5_inflateIfNeededFor_a7421 : kUt "java/lang/StringBuilder" yJ5_inflateIfNeededFor_a7421 cJ5_inflateIfNeededFor_a7421 2 none 1 := ⟨kb_c4 135 rfl (by decide +kernel), kb_c4 134 rfl (by decide +kernel), kb_c1 11 rfl (by decide +kernel), kb_c7 2 rfl (by decide +kernel), kb_pv 3 (by decide +kernel), by decide +kernel, by decide +kernel, pd_9⟩
theorem kv_J5_init_d00df : kIt yJ5_init_d00df cJ5_init_d00df 2 1 := ⟨kb_c3 153 rfl (by decide +kernel), kb_c3 152 rfl (by decide +kernel), kb_c1 11 rfl (by decide +kernel), by decide +kernel⟩
theorem kv_J5_isLatin1_aae02 : kUt "java/lang/StringBuilder" yJ5_isLatin1_aae02 cJ5_isLatin1_aae02 1 (some .boolean) 0 := ⟨kb_c3 224 rfl (by decide +kernel), kb_c3 221 rfl (by decide +kernel), kb_c1 11 rfl (by decide +kernel), kb_c3 222 rfl (by decide +kernel), kb_c3 223 rfl (by decide +kernel), by decide +kernel, by decide +kernel, pd_10⟩
theorem kv_J5_length_8abf5 : kUs yJ5_length_8abf5 cJ5_length_8abf5 1 (some .int) 0 := ⟨kb_c4 89 rfl (by decide +kernel), kb_c4 83 rfl (by decide +kernel), kb_c1 11 rfl (by decide +kernel), kb_c4 84 rfl (by decide +kernel), kb_c3 176 rfl (by decide +kernel), by decide +kernel⟩
theorem kv_J5_newCapacity_0f7a4 : kUt "java/lang/StringBuilder" yJ5_newCapacity_0f7a4 cJ5_newCapacity_0f7a4 6 (some .int) 1 := ⟨kb_c3 194 rfl (by decide +kernel), kb_c3 193 rfl (by decide +kernel), kb_c1 11 rfl (by decide +kernel), kb_c6 236 rfl (by decide +kernel), kb_pv 1 (by decide +kernel), by decide +kernel, by decide +kernel, pd_11⟩
theorem kv_J5_putStringAt_47b60 : kUt "java/lang/StringBuilder" yJ5_putStringAt_47b60 cJ5_putStringAt_47b60 3 none 2 := ⟨kb_c4 131 rfl (by decide +kernel), kb_c4 130 rfl (by decide +kernel), kb_c1 11 rfl (by decide +kernel), kb_c7 1 rfl (by decide +kernel), kb_pv 2 (by decide +kernel), by decide +kernel, by decide +kernel, pd_12⟩
theorem kv_J6_bitCount_0f7a4 : kSt yJ6_bitCount_0f7a4 cJ6_bitCount_0f7a4 1 (some .int) 1 := ⟨(kb_g2 kS05_2 kS05_2g 0 9 rfl rfl), (kb_g2 kS05_2 kS05_2g 0 8 rfl rfl), (kb_g1 kS05_1 kS05_1g 0 7 rfl rfl), kmh_RJ6, kvh_RJ6, pd_11⟩
theorem kv_J6_getChars_ba4f3 : kSt yJ6_getChars_ba4f3 cJ6_getChars_ba4f3 7 (some .int) 3 := ⟨(kb_g3 kS05_3 kS05_3g 6 11 rfl rfl), (kb_g3 kS05_3 kS05_3g 6 10 rfl rfl), (kb_g1 kS05_1 kS05_1g 0 7 rfl rfl), kmh_RJ6, kvh_RJ6, pd_13⟩
theorem kv_J6_stringSize_0f7a4 : kSt yJ6_stringSize_0f7a4 cJ6_stringSize_0f7a4 4 (some .int) 1 := ⟨(kb_g3 kS05_3 kS05_3g 4 8 rfl rfl), (kb_g3 kS05_3 kS05_3g 4 7 rfl rfl), (kb_g1 kS05_1 kS05_1g 0 7 rfl rfl), kmh_RJ6, kvh_RJ6, pd_11⟩
theorem kv_J7_checkLength_df160 : kSt yJ7_checkLength_df160 cJ7_checkLength_df160 2 none 2 := ⟨(kb_g4 kS05_4 kS05_4g 2 5 rfl rfl), (kb_g4 kS05_4 kS05_4g 2 4 rfl rfl), (kb_g1 kS05_1 kS05_1g 0 9 rfl rfl), kmh_RJ7, kvh_RJ7, pd_14⟩
theorem kv_J7_copyOfRangeByte_39247 : kSt yJ7_copyOfRangeByte_39247 cJ7_copyOfRangeByte_39247 5 (some (.array .byte)) 3 := ⟨(kb_g4 kS05_4 kS05_4g 2 2 rfl rfl), (kb_g4 kS05_4 kS05_4g 2 1 rfl rfl), (kb_g1 kS05_1 kS05_1g 0 9 rfl rfl), kmh_RJ7, kvh_RJ7, pd_15⟩
theorem kv_J7_copyOfRange_39247 : kSt yJ7_copyOfRange_39247 cJ7_copyOfRange_39247 3 (some (.array .byte)) 3 := ⟨(kb_g4 kS05_4 kS05_4g 1 11 rfl rfl), (kb_g4 kS05_4 kS05_4g 1 10 rfl rfl), (kb_g1 kS05_1 kS05_1g 0 9 rfl rfl), kmh_RJ7, kvh_RJ7, pd_15⟩
theorem kv_J7_copyOf_9075b : kSt yJ7_copyOf_9075b cJ7_copyOf_9075b 3 (some (.array .byte)) 2 := ⟨(kb_g3 kS05_3 kS05_3g 5 7 rfl rfl), (kb_g3 kS05_3 kS05_3g 5 6 rfl rfl), (kb_g1 kS05_1 kS05_1g 0 9 rfl rfl), kmh_RJ7, kvh_RJ7, pd_16⟩
theorem kv_J8_newLength_cabcc : kSt yJ8_newLength_cabcc cJ8_newLength_cabcc 4 (some .int) 3 := ⟨(kb_g3 kS05_3 kS05_3g 5 1 rfl rfl), (kb_g3 kS05_3 kS05_3g 5 0 rfl rfl), (kb_g1 kS05_1 kS05_1g 0 8 rfl rfl), kmh_RJ8, kvh_RJ8, pd_17⟩
theorem kv_J9_floorDiv_f86c9 : kSt yJ9_floorDiv_f86c9 cJ9_floorDiv_f86c9 6 (some .long) 2 := ⟨(kb_g2 kS05_2 kS05_2g 2 6 rfl rfl), (kb_g2 kS05_2 kS05_2g 2 5 rfl rfl), (kb_g1 kS05_1 kS05_1g 0 4 rfl rfl), kmh_RJ9, kvh_RJ9, pd_18⟩
theorem kv_J9_floorMod_f86c9 : kSt yJ9_floorMod_f86c9 cJ9_floorMod_f86c9 6 (some .long) 2 := ⟨(kb_g2 kS05_2 kS05_2g 3 4 rfl rfl), (kb_g2 kS05_2 kS05_2g 3 3 rfl rfl), (kb_g1 kS05_1 kS05_1g 0 4 rfl rfl), kmh_RJ9, kvh_RJ9, pd_18⟩
theorem kv_X0_add : kVt yX0_add cX0_add 6 (some .int) 3 := ⟨(kb_g1 kS05_1 kS05_1g 8 1 rfl rfl), (kb_g1 kS05_1 kS05_1g 7 11 rfl rfl), (kb_g1 kS05_1 kS05_1g 8 0 rfl rfl), (kb_g1 kS05_1 kS05_1g 0 1 rfl rfl), kmh_RX0, kvh_RX0, pd_19⟩
theorem kv_X0_begin : kVt yX0_begin cX0_begin 2 (some .long) 1 := ⟨(kb_g1 kS05_1 kS05_1g 9 11 rfl rfl), (kb_g1 kS05_1 kS05_1g 9 9 rfl rfl), (kb_g1 kS05_1 kS05_1g 9 10 rfl rfl), (kb_g1 kS05_1 kS05_1g 0 1 rfl rfl), kmh_RX0, kvh_RX0, pd_20⟩
theorem kv_X0_beginsBefore : kVt yX0_beginsBefore cX0_beginsBefore 5 (some .int) 1 := ⟨(kb_g3 kS05_3 kS05_3g 2 7 rfl rfl), (kb_g3 kS05_3 kS05_3g 2 5 rfl rfl), (kb_g3 kS05_3 kS05_3g 2 6 rfl rfl), (kb_g1 kS05_1 kS05_1g 0 1 rfl rfl), kmh_RX0, kvh_RX0, pd_21⟩
theorem kv_X0_clear : kVt yX0_clear cX0_clear 2 (some .int) 0 := ⟨(kb_g1 kS05_1 kS05_1g 3 4 rfl rfl), (kb_g1 kS05_1 kS05_1g 3 2 rfl rfl), (kb_g1 kS05_1 kS05_1g 3 3 rfl rfl), (kb_g1 kS05_1 kS05_1g 0 1 rfl rfl), kmh_RX0, kvh_RX0, pd_2⟩
theorem kv_X0_count : kVt yX0_count cX0_count 1 (some .int) 0 := ⟨(kb_g1 kS05_1 kS05_1g 3 11 rfl rfl), (kb_g1 kS05_1 kS05_1g 3 9 rfl rfl), (kb_g1 kS05_1 kS05_1g 3 10 rfl rfl), (kb_g1 kS05_1 kS05_1g 0 1 rfl rfl), kmh_RX0, kvh_RX0, pd_2⟩
theorem kv_X0_depth : kVt yX0_depth cX0_depth 5 (some .int) 0 := ⟨(kb_g1 kS05_1 kS05_1g 5 1 rfl rfl), (kb_g1 kS05_1 kS05_1g 4 11 rfl rfl), (kb_g1 kS05_1 kS05_1g 5 0 rfl rfl), (kb_g1 kS05_1 kS05_1g 0 1 rfl rfl), kmh_RX0, kvh_RX0, pd_2⟩
theorem kv_X0_doMeet : kVt yX0_doMeet cX0_doMeet 3 (some .boolean) 2 := ⟨(kb_g1 kS05_1 kS05_1g 4 6 rfl rfl), (kb_g1 kS05_1 kS05_1g 4 4 rfl rfl), (kb_g1 kS05_1 kS05_1g 4 5 rfl rfl), (kb_g1 kS05_1 kS05_1g 0 1 rfl rfl), kmh_RX0, kvh_RX0, pd_22⟩
theorem kv_X0_end : kVt yX0_end cX0_end 2 (some .long) 1 := ⟨(kb_g1 kS05_1 kS05_1g 6 6 rfl rfl), (kb_g1 kS05_1 kS05_1g 6 4 rfl rfl), (kb_g1 kS05_1 kS05_1g 6 5 rfl rfl), (kb_g1 kS05_1 kS05_1g 0 1 rfl rfl), kmh_RX0, kvh_RX0, pd_20⟩
theorem kv_X0_endsBefore : kVt yX0_endsBefore cX0_endsBefore 5 (some .int) 1 := ⟨(kb_g3 kS05_3 kS05_3g 2 11 rfl rfl), (kb_g3 kS05_3 kS05_3g 2 9 rfl rfl), (kb_g3 kS05_3 kS05_3g 2 10 rfl rfl), (kb_g1 kS05_1 kS05_1g 0 1 rfl rfl), kmh_RX0, kvh_RX0, pd_21⟩
theorem kv_X0_firstMeeting : kVt yX0_firstMeeting cX0_firstMeeting 7 (some .int) 3 := ⟨(kb_g1 kS05_1 kS05_1g 6 2 rfl rfl), (kb_g1 kS05_1 kS05_1g 6 0 rfl rfl), (kb_g1 kS05_1 kS05_1g 6 1 rfl rfl), (kb_g1 kS05_1 kS05_1g 0 1 rfl rfl), kmh_RX0, kvh_RX0, pd_23⟩
theorem kv_X0_firstWith : kVt yX0_firstWith cX0_firstWith 3 (some .int) 1 := ⟨(kb_g1 kS05_1 kS05_1g 7 4 rfl rfl), (kb_g1 kS05_1 kS05_1g 7 2 rfl rfl), (kb_g1 kS05_1 kS05_1g 7 3 rfl rfl), (kb_g1 kS05_1 kS05_1g 0 1 rfl rfl), kmh_RX0, kvh_RX0, pd_21⟩
theorem kv_X0_goOn : kVt yX0_goOn cX0_goOn 4 none 1 := ⟨(kb_g3 kS05_3 kS05_3g 0 10 rfl rfl), (kb_g3 kS05_3 kS05_3g 0 8 rfl rfl), (kb_g3 kS05_3 kS05_3g 0 9 rfl rfl), (kb_g1 kS05_1 kS05_1g 0 1 rfl rfl), kmh_RX0, kvh_RX0, pd_24⟩
theorem kv_X0_init : kIt yX0_init cX0_init 1 0 := ⟨kb_c1 34 rfl (by decide +kernel), kb_c1 33 rfl (by decide +kernel), kb_c1 2 rfl (by decide +kernel), by decide +kernel⟩
theorem kv_X0_isIn : kVt yX0_isIn cX0_isIn 2 (some .boolean) 1 := ⟨(kb_g1 kS05_1 kS05_1g 6 9 rfl rfl), (kb_g1 kS05_1 kS05_1g 6 8 rfl rfl), kb_in 3 (by decide +kernel), (kb_g1 kS05_1 kS05_1g 0 1 rfl rfl), kmh_RX0, kvh_RX0, pd_25⟩
theorem kv_X0_isLetAfter : kVt yX0_isLetAfter cX0_isLetAfter 4 (some .boolean) 1 := ⟨(kb_g3 kS05_3 kS05_3g 0 6 rfl rfl), (kb_g3 kS05_3 kS05_3g 0 4 rfl rfl), (kb_g3 kS05_3 kS05_3g 0 5 rfl rfl), (kb_g1 kS05_1 kS05_1g 0 1 rfl rfl), kmh_RX0, kvh_RX0, pd_26⟩
theorem kv_X0_isOver : kVt yX0_isOver cX0_isOver 2 (some .boolean) 1 := ⟨(kb_g1 kS05_1 kS05_1g 11 7 rfl rfl), (kb_g1 kS05_1 kS05_1g 11 5 rfl rfl), (kb_g1 kS05_1 kS05_1g 11 6 rfl rfl), (kb_g1 kS05_1 kS05_1g 0 1 rfl rfl), kmh_RX0, kvh_RX0, pd_25⟩
theorem kv_X0_nextBegin : kVt yX0_nextBegin cX0_nextBegin 8 (some .long) 2 := ⟨(kb_g1 kS05_1 kS05_1g 7 9 rfl rfl), (kb_g1 kS05_1 kS05_1g 7 7 rfl rfl), (kb_g1 kS05_1 kS05_1g 7 8 rfl rfl), (kb_g1 kS05_1 kS05_1g 0 1 rfl rfl), kmh_RX0, kvh_RX0, pd_18⟩
theorem kv_X0_put : kVt yX0_put cX0_put 6 none 3 := ⟨(kb_g3 kS05_3 kS05_3g 2 3 rfl rfl), (kb_g3 kS05_3 kS05_3g 2 1 rfl rfl), (kb_g3 kS05_3 kS05_3g 2 2 rfl rfl), (kb_g1 kS05_1 kS05_1g 0 1 rfl rfl), kmh_RX0, kvh_RX0, pd_27⟩
theorem kv_X0_remove : kVt yX0_remove cX0_remove 3 (some .int) 1 := ⟨(kb_g3 kS05_3 kS05_3g 1 8 rfl rfl), (kb_g3 kS05_3 kS05_3g 1 6 rfl rfl), (kb_g3 kS05_3 kS05_3g 1 7 rfl rfl), (kb_g1 kS05_1 kS05_1g 0 1 rfl rfl), kmh_RX0, kvh_RX0, pd_11⟩
theorem kv_X1_addSpan : kVt yX1_addSpan cX1_addSpan 6 (some .int) 3 := ⟨(kb_g3 kS05_3 kS05_3g 1 1 rfl rfl), (kb_g3 kS05_3 kS05_3g 1 0 rfl rfl), kb_in 28 (by decide +kernel), (kb_g1 kS05_1 kS05_1g 0 0 rfl rfl), kmh_RX1, kvh_RX1, pd_19⟩
theorem kv_X1_bring : kVt yX1_bring cX1_bring 5 (some .int) 2 := ⟨(kb_g2 kS05_2 kS05_2g 8 11 rfl rfl), (kb_g2 kS05_2 kS05_2g 8 10 rfl rfl), kb_in 26 (by decide +kernel), (kb_g1 kS05_1 kS05_1g 0 0 rfl rfl), kmh_RX1, kvh_RX1, pd_28⟩
theorem kv_X1_calendar : kVt yX1_calendar cX1_calendar 2 (some .int) 1 := ⟨(kb_g2 kS05_2 kS05_2g 3 11 rfl rfl), (kb_g2 kS05_2 kS05_2g 3 9 rfl rfl), (kb_g2 kS05_2 kS05_2g 3 10 rfl rfl), (kb_g1 kS05_1 kS05_1g 0 0 rfl rfl), kmh_RX1, kvh_RX1, pd_11⟩
theorem kv_X1_changeSpan : kVt yX1_changeSpan cX1_changeSpan 6 (some .boolean) 3 := ⟨(kb_g3 kS05_3 kS05_3g 1 11 rfl rfl), (kb_g3 kS05_3 kS05_3g 1 10 rfl rfl), kb_in 29 (by decide +kernel), (kb_g1 kS05_1 kS05_1g 0 0 rfl rfl), kmh_RX1, kvh_RX1, pd_29⟩
theorem kv_X1_chosen : kVt yX1_chosen cX1_chosen 4 (some .int) 0 := ⟨(kb_g1 kS05_1 kS05_1g 8 4 rfl rfl), (kb_g1 kS05_1 kS05_1g 8 2 rfl rfl), (kb_g1 kS05_1 kS05_1g 8 3 rfl rfl), (kb_g1 kS05_1 kS05_1g 0 0 rfl rfl), kmh_RX1, kvh_RX1, pd_2⟩
theorem kv_X1_clashes : kVt yX1_clashes cX1_clashes 4 (some .int) 0 := ⟨(kb_g1 kS05_1 kS05_1g 4 2 rfl rfl), (kb_g1 kS05_1 kS05_1g 4 0 rfl rfl), (kb_g1 kS05_1 kS05_1g 4 1 rfl rfl), (kb_g1 kS05_1 kS05_1g 0 0 rfl rfl), kmh_RX1, kvh_RX1, pd_2⟩
theorem kv_X1_crowd : kVt yX1_crowd cX1_crowd 1 (some .int) 0 := ⟨(kb_g1 kS05_1 kS05_1g 9 1 rfl rfl), (kb_g1 kS05_1 kS05_1g 8 11 rfl rfl), (kb_g1 kS05_1 kS05_1g 9 0 rfl rfl), (kb_g1 kS05_1 kS05_1g 0 0 rfl rfl), kmh_RX1, kvh_RX1, pd_2⟩
theorem kv_X1_deepest : kVt yX1_deepest cX1_deepest 1 (some .int) 0 := ⟨(kb_g1 kS05_1 kS05_1g 4 9 rfl rfl), (kb_g1 kS05_1 kS05_1g 4 7 rfl rfl), (kb_g1 kS05_1 kS05_1g 4 8 rfl rfl), (kb_g1 kS05_1 kS05_1g 0 0 rfl rfl), kmh_RX1, kvh_RX1, pd_2⟩
theorem kv_X1_done : kVt yX1_done cX1_done 2 (some .int) 1 := ⟨(kb_g1 kS05_1 kS05_1g 3 7 rfl rfl), (kb_g1 kS05_1 kS05_1g 3 6 rfl rfl), kb_in 0 (by decide +kernel), (kb_g1 kS05_1 kS05_1g 0 0 rfl rfl), kmh_RX1, kvh_RX1, pd_11⟩
theorem kv_X1_findFrees : kVt yX1_findFrees cX1_findFrees 6 none 0 := ⟨(kb_g1 kS05_1 kS05_1g 5 7 rfl rfl), (kb_g1 kS05_1 kS05_1g 5 6 rfl rfl), kb_in 1 (by decide +kernel), (kb_g1 kS05_1 kS05_1g 0 0 rfl rfl), kmh_RX1, kvh_RX1, pd_30⟩
theorem kv_X1_findRooms : kVt yX1_findRooms cX1_findRooms 3 none 0 := ⟨(kb_g1 kS05_1 kS05_1g 9 4 rfl rfl), (kb_g1 kS05_1 kS05_1g 9 3 rfl rfl), kb_in 7 (by decide +kernel), (kb_g1 kS05_1 kS05_1g 0 0 rfl rfl), kmh_RX1, kvh_RX1, pd_30⟩
theorem kv_X1_firstTaken : kVt yX1_firstTaken cX1_firstTaken 3 (some .long) 1 := ⟨(kb_g1 kS05_1 kS05_1g 7 0 rfl rfl), (kb_g1 kS05_1 kS05_1g 6 11 rfl rfl), kb_in 4 (by decide +kernel), (kb_g1 kS05_1 kS05_1g 0 0 rfl rfl), kmh_RX1, kvh_RX1, pd_31⟩
theorem kv_X1_firstWithoutRoom : kVt yX1_firstWithoutRoom cX1_firstWithoutRoom 3 (some .int) 0 := ⟨(kb_g1 kS05_1 kS05_1g 9 7 rfl rfl), (kb_g1 kS05_1 kS05_1g 9 6 rfl rfl), kb_in 8 (by decide +kernel), (kb_g1 kS05_1 kS05_1g 0 0 rfl rfl), kmh_RX1, kvh_RX1, pd_2⟩
theorem kv_X1_firstWithoutSpan : kVt yX1_firstWithoutSpan cX1_firstWithoutSpan 9 (some .long) 2 := ⟨(kb_g1 kS05_1 kS05_1g 5 10 rfl rfl), (kb_g1 kS05_1 kS05_1g 5 9 rfl rfl), kb_in 2 (by decide +kernel), (kb_g1 kS05_1 kS05_1g 0 0 rfl rfl), kmh_RX1, kvh_RX1, pd_18⟩
theorem kv_X1_freeLength : kVt yX1_freeLength cX1_freeLength 4 (some .long) 0 := ⟨(kb_g1 kS05_1 kS05_1g 12 4 rfl rfl), (kb_g1 kS05_1 kS05_1g 12 3 rfl rfl), kb_in 15 (by decide +kernel), (kb_g1 kS05_1 kS05_1g 0 0 rfl rfl), kmh_RX1, kvh_RX1, pd_32⟩
theorem kv_X1_isAllLetAfter : kVt yX1_isAllLetAfter cX1_isAllLetAfter 4 (some .boolean) 1 := ⟨(kb_g3 kS05_3 kS05_3g 0 2 rfl rfl), (kb_g3 kS05_3 kS05_3g 0 1 rfl rfl), kb_in 27 (by decide +kernel), (kb_g1 kS05_1 kS05_1g 0 0 rfl rfl), kmh_RX1, kvh_RX1, pd_26⟩
theorem kv_X1_isInCalendar : kVt yX1_isInCalendar cX1_isInCalendar 5 (some .boolean) 2 := ⟨(kb_g1 kS05_1 kS05_1g 11 3 rfl rfl), (kb_g1 kS05_1 kS05_1g 11 2 rfl rfl), kb_in 12 (by decide +kernel), (kb_g1 kS05_1 kS05_1g 0 0 rfl rfl), kmh_RX1, kvh_RX1, pd_33⟩
theorem kv_X1_isLet : kSt yX1_isLet cX1_isLet 2 (some .boolean) 1 := ⟨(kb_g2 kS05_2 kS05_2g 7 5 rfl rfl), (kb_g2 kS05_2 kS05_2g 7 4 rfl rfl), (kb_g1 kS05_1 kS05_1g 0 0 rfl rfl), kmh_RX1, kvh_RX1, pd_26⟩
theorem kv_X1_isSound : kVt yX1_isSound cX1_isSound 1 (some .boolean) 0 := ⟨(kb_g1 kS05_1 kS05_1g 10 9 rfl rfl), (kb_g1 kS05_1 kS05_1g 10 7 rfl rfl), (kb_g1 kS05_1 kS05_1g 10 8 rfl rfl), (kb_g1 kS05_1 kS05_1g 0 0 rfl rfl), kmh_RX1, kvh_RX1, pd_10⟩
theorem kv_X1_isSoundInFrees : kVt yX1_isSoundInFrees cX1_isSoundInFrees 2 (some .boolean) 0 := ⟨(kb_g1 kS05_1 kS05_1g 11 10 rfl rfl), (kb_g1 kS05_1 kS05_1g 11 9 rfl rfl), kb_in 13 (by decide +kernel), (kb_g1 kS05_1 kS05_1g 0 0 rfl rfl), kmh_RX1, kvh_RX1, pd_10⟩
theorem kv_X1_isSoundInSpans : kVt yX1_isSoundInSpans cX1_isSoundInSpans 3 (some .boolean) 0 := ⟨(kb_g1 kS05_1 kS05_1g 11 0 rfl rfl), (kb_g1 kS05_1 kS05_1g 10 11 rfl rfl), kb_in 11 (by decide +kernel), (kb_g1 kS05_1 kS05_1g 0 0 rfl rfl), kmh_RX1, kvh_RX1, pd_10⟩
theorem kv_X1_isSoundInWishes : kVt yX1_isSoundInWishes cX1_isSoundInWishes 2 (some .boolean) 0 := ⟨(kb_g2 kS05_2 kS05_2g 0 2 rfl rfl), (kb_g2 kS05_2 kS05_2g 0 1 rfl rfl), kb_in 16 (by decide +kernel), (kb_g1 kS05_1 kS05_1g 0 0 rfl rfl), kmh_RX1, kvh_RX1, pd_10⟩
theorem kv_X1_isWithin : kSt yX1_isWithin cX1_isWithin 3 (some .boolean) 3 := ⟨(kb_g2 kS05_2 kS05_2g 4 2 rfl rfl), (kb_g2 kS05_2 kS05_2g 4 1 rfl rfl), (kb_g1 kS05_1 kS05_1g 0 0 rfl rfl), kmh_RX1, kvh_RX1, pd_34⟩
theorem kv_X1_isWithoutMeeting : kVt yX1_isWithoutMeeting cX1_isWithoutMeeting 4 (some .boolean) 1 := ⟨(kb_g2 kS05_2 kS05_2g 0 6 rfl rfl), (kb_g2 kS05_2 kS05_2g 0 5 rfl rfl), kb_in 17 (by decide +kernel), (kb_g1 kS05_1 kS05_1g 0 0 rfl rfl), kmh_RX1, kvh_RX1, pd_25⟩
theorem kv_X1_length : kVt yX1_length cX1_length 2 (some .int) 1 := ⟨(kb_g2 kS05_2 kS05_2g 6 1 rfl rfl), (kb_g2 kS05_2 kS05_2g 5 11 rfl rfl), (kb_g2 kS05_2 kS05_2g 6 0 rfl rfl), (kb_g1 kS05_1 kS05_1g 0 0 rfl rfl), kmh_RX1, kvh_RX1, pd_11⟩
theorem kv_X1_lengthOf : kSt yX1_lengthOf cX1_lengthOf 2 (some .long) 2 := ⟨(kb_g2 kS05_2 kS05_2g 8 4 rfl rfl), (kb_g2 kS05_2 kS05_2g 8 3 rfl rfl), (kb_g1 kS05_1 kS05_1g 0 0 rfl rfl), kmh_RX1, kvh_RX1, pd_35⟩
theorem kv_X1_meetsOneOf : kVt yX1_meetsOneOf cX1_meetsOneOf 4 (some .boolean) 2 := ⟨(kb_g1 kS05_1 kS05_1g 8 10 rfl rfl), (kb_g1 kS05_1 kS05_1g 8 9 rfl rfl), kb_in 6 (by decide +kernel), (kb_g1 kS05_1 kS05_1g 0 0 rfl rfl), kmh_RX1, kvh_RX1, pd_22⟩
theorem kv_X1_mix : kSt yX1_mix cX1_mix 3 (some .long) 2 := ⟨(kb_g2 kS05_2 kS05_2g 2 9 rfl rfl), (kb_g2 kS05_2 kS05_2g 2 8 rfl rfl), (kb_g1 kS05_1 kS05_1g 0 0 rfl rfl), kmh_RX1, kvh_RX1, pd_36⟩
theorem kv_X1_mixCells : kVt yX1_mixCells cX1_mixCells 6 (some .long) 1 := ⟨(kb_g2 kS05_2 kS05_2g 1 11 rfl rfl), (kb_g2 kS05_2 kS05_2g 1 10 rfl rfl), kb_in 20 (by decide +kernel), (kb_g1 kS05_1 kS05_1g 0 0 rfl rfl), kmh_RX1, kvh_RX1, pd_31⟩
theorem kv_X1_mixFrees : kVt yX1_mixFrees cX1_mixFrees 6 (some .long) 1 := ⟨(kb_g2 kS05_2 kS05_2g 5 9 rfl rfl), (kb_g2 kS05_2 kS05_2g 5 8 rfl rfl), kb_in 23 (by decide +kernel), (kb_g1 kS05_1 kS05_1g 0 0 rfl rfl), kmh_RX1, kvh_RX1, pd_31⟩
theorem kv_X1_mixParts : kSt yX1_mixParts cX1_mixParts 7 (some .long) 3 := ⟨(kb_g2 kS05_2 kS05_2g 5 1 rfl rfl), (kb_g2 kS05_2 kS05_2g 5 0 rfl rfl), (kb_g1 kS05_1 kS05_1g 0 0 rfl rfl), kmh_RX1, kvh_RX1, pd_37⟩
theorem kv_X1_mixSpans : kVt yX1_mixSpans cX1_mixSpans 6 (some .long) 1 := ⟨(kb_g2 kS05_2 kS05_2g 3 7 rfl rfl), (kb_g2 kS05_2 kS05_2g 3 6 rfl rfl), kb_in 21 (by decide +kernel), (kb_g1 kS05_1 kS05_1g 0 0 rfl rfl), kmh_RX1, kvh_RX1, pd_31⟩
theorem kv_X1_mixWishes : kVt yX1_mixWishes cX1_mixWishes 6 (some .long) 1 := ⟨(kb_g2 kS05_2 kS05_2g 6 4 rfl rfl), (kb_g2 kS05_2 kS05_2g 6 3 rfl rfl), kb_in 24 (by decide +kernel), (kb_g1 kS05_1 kS05_1g 0 0 rfl rfl), kmh_RX1, kvh_RX1, pd_31⟩
theorem kv_X1_mostOfAllSets : kVt yX1_mostOfAllSets cX1_mostOfAllSets 5 (some .int) 0 := ⟨(kb_g2 kS05_2 kS05_2g 1 3 rfl rfl), (kb_g2 kS05_2 kS05_2g 1 2 rfl rfl), kb_in 18 (by decide +kernel), (kb_g1 kS05_1 kS05_1g 0 0 rfl rfl), kmh_RX1, kvh_RX1, pd_2⟩
theorem kv_X1_nanoOf : kSt yX1_nanoOf cX1_nanoOf 2 (some .int) 1 := ⟨(kb_g2 kS05_2 kS05_2g 3 1 rfl rfl), (kb_g2 kS05_2 kS05_2g 3 0 rfl rfl), (kb_g1 kS05_1 kS05_1g 0 0 rfl rfl), kmh_RX1, kvh_RX1, pd_21⟩
theorem kv_X1_needCell : kSt yX1_needCell cX1_needCell 1 none 1 := ⟨(kb_g2 kS05_2 kS05_2g 6 9 rfl rfl), (kb_g2 kS05_2 kS05_2g 6 8 rfl rfl), (kb_g1 kS05_1 kS05_1g 0 0 rfl rfl), kmh_RX1, kvh_RX1, pd_7⟩
theorem kv_X1_needNumberIn : kSt yX1_needNumberIn cX1_needNumberIn 2 none 2 := ⟨(kb_g3 kS05_3 kS05_3g 1 4 rfl rfl), (kb_g3 kS05_3 kS05_3g 1 3 rfl rfl), (kb_g1 kS05_1 kS05_1g 0 0 rfl rfl), kmh_RX1, kvh_RX1, pd_38⟩
theorem kv_X1_needThat : kSt yX1_needThat cX1_needThat 1 none 1 := ⟨(kb_g2 kS05_2 kS05_2g 4 5 rfl rfl), (kb_g2 kS05_2 kS05_2g 4 4 rfl rfl), (kb_g1 kS05_1 kS05_1g 0 0 rfl rfl), kmh_RX1, kvh_RX1, pd_39⟩
theorem kv_X1_needUnits : kSt yX1_needUnits cX1_needUnits 3 none 3 := ⟨(kb_g2 kS05_2 kS05_2g 8 1 rfl rfl), (kb_g2 kS05_2 kS05_2g 8 0 rfl rfl), (kb_g1 kS05_1 kS05_1g 0 0 rfl rfl), kmh_RX1, kvh_RX1, pd_40⟩
theorem kv_X1_nextChosen : kVt yX1_nextChosen cX1_nextChosen 4 (some .int) 1 := ⟨(kb_g1 kS05_1 kS05_1g 8 7 rfl rfl), (kb_g1 kS05_1 kS05_1g 8 6 rfl rfl), kb_in 5 (by decide +kernel), (kb_g1 kS05_1 kS05_1g 0 0 rfl rfl), kmh_RX1, kvh_RX1, pd_11⟩
theorem kv_X1_partIn : kSt yX1_partIn cX1_partIn 3 (some .int) 3 := ⟨(kb_g2 kS05_2 kS05_2g 5 4 rfl rfl), (kb_g2 kS05_2 kS05_2g 5 3 rfl rfl), (kb_g1 kS05_1 kS05_1g 0 0 rfl rfl), kmh_RX1, kvh_RX1, pd_41⟩
theorem kv_X1_partOf : kSt yX1_partOf cX1_partOf 3 (some .int) 2 := ⟨(kb_g2 kS05_2 kS05_2g 4 10 rfl rfl), (kb_g2 kS05_2 kS05_2g 4 9 rfl rfl), (kb_g1 kS05_1 kS05_1g 0 0 rfl rfl), kmh_RX1, kvh_RX1, pd_28⟩
theorem kv_X1_refuse : kVt yX1_refuse cX1_refuse 1 (some .int) 0 := ⟨(kb_g2 kS05_2 kS05_2g 7 10 rfl rfl), (kb_g2 kS05_2 kS05_2g 7 9 rfl rfl), kb_in 25 (by decide +kernel), (kb_g1 kS05_1 kS05_1g 0 0 rfl rfl), kmh_RX1, kvh_RX1, pd_2⟩
theorem kv_X1_roomCount : kVt yX1_roomCount cX1_roomCount 3 (some .int) 0 := ⟨(kb_g1 kS05_1 kS05_1g 10 5 rfl rfl), (kb_g1 kS05_1 kS05_1g 10 4 rfl rfl), kb_in 10 (by decide +kernel), (kb_g1 kS05_1 kS05_1g 0 0 rfl rfl), kmh_RX1, kvh_RX1, pd_2⟩
theorem kv_X1_secondOf : kSt yX1_secondOf cX1_secondOf 2 (some .int) 1 := ⟨(kb_g2 kS05_2 kS05_2g 2 2 rfl rfl), (kb_g2 kS05_2 kS05_2g 2 1 rfl rfl), (kb_g1 kS05_1 kS05_1g 0 0 rfl rfl), kmh_RX1, kvh_RX1, pd_21⟩
theorem kv_X1_setOfAllWishes : kVt yX1_setOfAllWishes cX1_setOfAllWishes 1 (some .int) 0 := ⟨(kb_g2 kS05_2 kS05_2g 1 6 rfl rfl), (kb_g2 kS05_2 kS05_2g 1 5 rfl rfl), kb_in 19 (by decide +kernel), (kb_g1 kS05_1 kS05_1g 0 0 rfl rfl), kmh_RX1, kvh_RX1, pd_2⟩
theorem kv_X1_sideOf : kSt yX1_sideOf cX1_sideOf 4 (some .int) 2 := ⟨(kb_g2 kS05_2 kS05_2g 8 8 rfl rfl), (kb_g2 kS05_2 kS05_2g 8 7 rfl rfl), (kb_g1 kS05_1 kS05_1g 0 0 rfl rfl), kmh_RX1, kvh_RX1, pd_42⟩
theorem kv_X1_smallestRoom : kVt yX1_smallestRoom cX1_smallestRoom 4 (some .int) 1 := ⟨(kb_g1 kS05_1 kS05_1g 10 2 rfl rfl), (kb_g1 kS05_1 kS05_1g 10 1 rfl rfl), kb_in 9 (by decide +kernel), (kb_g1 kS05_1 kS05_1g 0 0 rfl rfl), kmh_RX1, kvh_RX1, pd_11⟩
theorem kv_X1_takenLength : kVt yX1_takenLength cX1_takenLength 8 (some .long) 0 := ⟨(kb_g1 kS05_1 kS05_1g 12 1 rfl rfl), (kb_g1 kS05_1 kS05_1g 12 0 rfl rfl), kb_in 14 (by decide +kernel), (kb_g1 kS05_1 kS05_1g 0 0 rfl rfl), kmh_RX1, kvh_RX1, pd_32⟩
end
