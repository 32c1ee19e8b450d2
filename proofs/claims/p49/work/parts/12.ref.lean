-- 12.dec.lean.txt
section
theorem dgX3_secondOf_0 : kRun kT cX3_secondOf.data.toList 0 (List.flatten (iqC (iqr1 0 iq30 (iqr1 1 iq9 (iqr1 2 iq148 (iqr3 3 (iq155 11) (iqr1 6 iq30 (iqr3 7 (iq20 39) (iqr1 10 iq109 (iqr3 11 (iq167 13) (iqr3 14 (iq20 41) (iqr1 17 iq30 iqE)))))))))) (iqC (iqr1 18 iq101 (iqr3 19 (iq20 39) (iqr1 22 iq109 (iqr1 23 iq117 (iqr1 24 iq136 (iqr1 25 iq172 iqE)))))) iqN))) = true := by decide +kernel
theorem dgX3_nanoOf_0 : kRun kT cX3_nanoOf.data.toList 0 (List.flatten (iqC (iqr1 0 iq30 (iqr1 1 iq30 (iqr3 2 (iq184 43) (iqr1 5 iq133 (iqr3 6 (iq20 39) (iqr1 9 iq105 (iqr1 10 iq101 (iqr1 11 iq136 (iqr1 12 iq172 iqE))))))))) iqN)) = true := by decide +kernel
theorem dgX3_isLet_0 : kRun kT cX3_isLet.data.toList 0 (List.flatten (iqC (iqr1 0 iq30 (iqr3 1 (iq20 47) (iqr1 4 iq148 (iqr3 5 (iq155 15) (iqr1 8 iq30 (iqr3 9 (iq20 49) (iqr1 12 iq148 (iqr3 13 (iq156 7) (iqr1 16 iq4 (iqr3 17 (iq167 4) iqE)))))))))) (iqC (iqr1 20 iq3 (iqr1 21 iq172 iqE)) iqN))) = true := by decide +kernel
theorem dgX3_units_0 : kRun kT cX3_units.data.toList 0 (List.flatten (iqC (iqr1 0 iq27 (iqr1 1 iq133 (iqr1 2 iq26 (iqr3 3 (iq154 9) (iqr3 6 (iq20 39) (iqr3 9 (iq167 15) (iqr1 12 iq26 (iqr1 13 iq4 (iqr3 14 (iq160 9) (iqr3 17 (iq20 51) iqE)))))))))) (iqC (iqr3 20 (iq167 4) (iqr1 23 iq10 (iqr1 24 iq105 (iqr1 25 iq173 iqE)))) iqN))) = true := by decide +kernel
theorem dgX3_sign_0 : kRun kT cX3_sign.data.toList 0 (List.flatten (iqC (iqr1 0 iq30 (iqr1 1 iq9 (iqr1 2 iq148 (iqr3 3 (iq156 7) (iqr1 6 iq2 (iqr3 7 (iq167 14) (iqr1 10 iq30 (iqr1 11 iq9 (iqr1 12 iq148 (iqr3 13 (iq158 7) iqE)))))))))) (iqC (iqr1 16 iq4 (iqr3 17 (iq167 4) (iqr1 20 iq3 (iqr1 21 iq172 iqE)))) iqN))) = true := by decide +kernel
theorem dgX3_meet_0 : kRun kT cX3_meet.data.toList 0 (List.flatten (iqC (iqr1 0 iq30 (iqr2 1 (iq22 6) (iqr1 3 iq148 (iqr3 4 (iq156 14) (iqr2 7 (iq22 4) (iqr1 9 iq32 (iqr1 10 iq148 (iqr3 11 (iq156 7) (iqr1 14 iq4 (iqr3 15 (iq167 4) iqE)))))))))) (iqC (iqr1 18 iq3 (iqr1 19 iq172 iqE)) iqN))) = true := by decide +kernel
theorem dgX3_isIn_0 : kRun kT cX3_isIn.data.toList 0 (List.flatten (iqC (iqr1 0 iq31 (iqr1 1 iq42 (iqr3 2 (iq180 53) (iqr1 5 iq148 (iqr3 6 (iq155 16) (iqr1 9 iq33 (iqr1 10 iq42 (iqr3 11 (iq180 15) (iqr1 14 iq148 (iqr3 15 (iq157 7) iqE)))))))))) (iqC (iqr1 18 iq4 (iqr3 19 (iq167 4) (iqr1 22 iq3 (iqr1 23 iq172 iqE)))) iqN))) = true := by decide +kernel
theorem dgX3_meetsSome_0 : kRun kT cX3_meetsSome.data.toList 0 (List.flatten (iqC (iqr1 0 iq3 (iqr2 1 (iq54 6) (iqr2 3 (iq21 6) (iqr1 5 iq42 (iqr3 6 (iq180 56) (iqr3 9 (iq162 40) (iqr2 12 (iq21 6) (iqr2 14 (iq21 5) (iqr3 16 (iq159 27) (iqr1 19 iq31 iqE)))))))))) (iqC (iqr1 20 iq33 (iqr1 21 iq42 (iqr3 22 (iq180 19) (iqr2 25 (iq21 6) (iqr1 27 iq47 (iqr1 28 iq42 (iqr3 29 (iq180 22) (iqr2 32 (iq21 6) (iqr1 34 iq47 (iqr3 35 (iq184 59) iqE)))))))))) (iqC (iqr3 38 (iq153 5) (iqr1 41 iq4 (iqr1 42 iq172 (iqr3 43 (iq132 6 1) (iqr3 46 (iq167 (-43)) (iqr1 49 iq3 (iqr1 50 iq172 iqE))))))) iqN)))) = true := by decide +kernel
theorem dgX3_spanAt_0 : kRun kT cX3_spanAt.data.toList 0 (List.flatten (iqC (iqr1 0 iq3 (iqr1 1 iq62 (iqr1 2 iq29 (iqr1 3 iq42 (iqr3 4 (iq180 56) (iqr3 7 (iq162 33) (iqr1 10 iq42 (iqr3 11 (iq180 19) (iqr1 14 iq29 (iqr1 15 iq47 iqE)))))))))) (iqC (iqr1 16 iq31 (iqr1 17 iq148 (iqr3 18 (iq157 16) (iqr1 21 iq31 (iqr1 22 iq42 (iqr3 23 (iq180 22) (iqr1 26 iq29 (iqr1 27 iq47 (iqr1 28 iq148 (iqr3 29 (iq156 5) iqE)))))))))) (iqC (iqr1 32 iq29 (iqr1 33 iq172 (iqr3 34 (iq132 3 1) (iqr3 37 (iq167 (-35)) (iqr1 40 iq2 (iqr1 41 iq172 iqE)))))) iqN)))) = true := by decide +kernel
theorem dgX3_free_0 : kRun kT cX3_free.data.toList 0 (List.flatten (iqC (iqr2 0 (iq16 22) iqE) iqN)) = true := by decide +kernel
theorem dX3_free_2 : decode cX3_free 2 = .ok (.newarray .long, 2) := by decide +kernel
theorem dgX3_free_4 : kRun kT cX3_free.data.toList 0 (List.flatten (iqC (iqr1 4 iq76 (iqr1 5 iq3 (iqr1 6 iq61 (iqr1 7 iq42 (iqr3 8 (iq180 53) (iqr1 11 iq66 (iqr1 12 iq33 (iqr1 13 iq42 (iqr3 14 (iq180 15) (iqr1 17 iq148 iqE)))))))))) (iqC (iqr3 18 (iq156 99) (iqr1 21 iq42 (iqr1 22 iq33 (iqr3 23 (iq182 63) (iqr2 26 (iq54 5) (iqr2 28 (iq21 5) (iqr3 30 (iq155 14) (iqr1 33 iq42 (iqr3 34 (iq180 22) (iqr2 37 (iq21 5) iqE)))))))))) (iqC (iqr1 39 iq47 (iqr1 40 iq66 (iqr3 41 (iq167 (-29)) (iqr1 44 iq43 (iqr1 45 iq28 (iqr1 46 iq33 (iqr1 47 iq80 (iqr1 48 iq42 (iqr3 49 (iq180 15) (iqr1 52 iq66 iqE)))))))))) (iqC (iqr1 53 iq3 (iqr2 54 (iq54 6) (iqr2 56 (iq21 6) (iqr1 58 iq42 (iqr3 59 (iq180 56) (iqr3 62 (iq162 43) (iqr1 65 iq42 (iqr3 66 (iq180 19) (iqr2 69 (iq21 6) (iqr1 71 iq47 iqE)))))))))) (iqC (iqr1 72 iq43 (iqr1 73 iq28 (iqr1 74 iq47 (iqr1 75 iq148 (iqr3 76 (iq158 23) (iqr1 79 iq42 (iqr3 80 (iq180 19) (iqr2 83 (iq21 6) (iqr1 85 iq47 (iqr1 86 iq33 iqE)))))))))) (iqC (iqr1 87 iq148 (iqr3 88 (iq156 11) (iqr1 91 iq42 (iqr3 92 (iq180 19) (iqr2 95 (iq21 6) (iqr1 97 iq47 (iqr1 98 iq66 (iqr3 99 (iq132 6 1) (iqr3 102 (iq167 (-46)) (iqr1 105 iq43 iqE)))))))))) (iqC (iqr1 106 iq28 (iqr1 107 iq4 (iqr1 108 iq96 (iqr1 109 iq33 (iqr1 110 iq80 (iqr3 111 (iq132 2 2) (iqr3 114 (iq167 (-102)) (iqr1 117 iq43 (iqr1 118 iq176 iqE))))))))) iqN)))))))) = true := by decide +kernel
theorem dgX3_freesOf_0 : kRun kT cX3_freesOf.data.toList 0 (List.flatten (iqC (iqr1 0 iq3 (iqr1 1 iq60 (iqr1 2 iq5 (iqr1 3 iq27 (iqr1 4 iq104 (iqr1 5 iq42 (iqr1 6 iq190 (iqr3 7 (iq162 25) (iqr1 10 iq42 (iqr1 11 iq5 iqE)))))))))) (iqC (iqr1 12 iq27 (iqr1 13 iq104 (iqr1 14 iq4 (iqr1 15 iq96 (iqr1 16 iq47 (iqr1 17 iq42 (iqr1 18 iq5 (iqr1 19 iq27 (iqr1 20 iq104 (iqr1 21 iq47 iqE)))))))))) (iqC (iqr1 22 iq148 (iqr3 23 (iq153 9) (iqr3 26 (iq132 1 1) (iqr3 29 (iq167 (-27)) (iqr1 32 iq27 (iqr1 33 iq172 iqE)))))) iqN)))) = true := by decide +kernel
theorem dgX3_freeLength_0 : kRun kT cX3_freeLength.data.toList 0 (List.flatten (iqC (iqr1 0 iq42 (iqr3 1 (iq182 66) (iqr1 4 iq76 (iqr1 5 iq9 (iqr1 6 iq65 (iqr1 7 iq3 (iqr2 8 (iq54 4) (iqr2 10 (iq21 4) (iqr1 12 iq43 (iqr3 13 (iq184 70) iqE)))))))))) (iqC (iqr3 16 (iq162 27) (iqr1 19 iq32 (iqr1 20 iq43 (iqr1 21 iq5 (iqr2 22 (iq21 4) (iqr1 24 iq104 (iqr1 25 iq4 (iqr1 26 iq96 (iqr1 27 iq47 (iqr1 28 iq43 iqE)))))))))) (iqC (iqr1 29 iq5 (iqr2 30 (iq21 4) (iqr1 32 iq104 (iqr1 33 iq47 (iqr1 34 iq101 (iqr1 35 iq97 (iqr1 36 iq65 (iqr3 37 (iq132 4 1) (iqr3 40 (iq167 (-30)) (iqr1 43 iq32 iqE)))))))))) (iqC (iqr1 44 iq173 iqE) iqN))))) = true := by decide +kernel
theorem dgX3_takenLength_0 : kRun kT cX3_takenLength.data.toList 0 (List.flatten (iqC (iqr1 0 iq9 (iqr1 1 iq64 (iqr1 2 iq42 (iqr3 3 (iq180 53) (iqr1 6 iq66 (iqr1 7 iq33 (iqr1 8 iq42 (iqr3 9 (iq180 15) (iqr1 12 iq148 (iqr3 13 (iq156 109) iqE)))))))))) (iqC (iqr1 16 iq42 (iqr1 17 iq33 (iqr3 18 (iq182 63) (iqr2 21 (iq54 5) (iqr1 23 iq42 (iqr3 24 (iq180 15) (iqr2 27 (iq55 6) (iqr2 29 (iq21 5) (iqr3 31 (iq155 12) (iqr1 34 iq42 iqE)))))))))) (iqC (iqr3 35 (iq180 22) (iqr2 38 (iq21 5) (iqr1 40 iq47 (iqr2 41 (iq55 6) (iqr1 43 iq3 (iqr2 44 (iq54 8) (iqr2 46 (iq21 8) (iqr1 48 iq42 (iqr3 49 (iq180 56) (iqr3 52 (iq162 48) iqE)))))))))) (iqC (iqr2 55 (iq21 5) (iqr3 57 (iq156 43) (iqr1 60 iq42 (iqr3 61 (iq180 19) (iqr2 64 (iq21 8) (iqr1 66 iq47 (iqr1 67 iq33 (iqr1 68 iq148 (iqr3 69 (iq158 25) (iqr1 72 iq42 iqE)))))))))) (iqC (iqr3 73 (iq180 19) (iqr2 76 (iq21 8) (iqr1 78 iq47 (iqr2 79 (iq22 6) (iqr1 81 iq148 (iqr3 82 (iq156 12) (iqr1 85 iq42 (iqr3 86 (iq180 19) (iqr2 89 (iq21 8) (iqr1 91 iq47 iqE)))))))))) (iqC (iqr2 92 (iq55 6) (iqr3 94 (iq132 8 1) (iqr3 97 (iq167 (-51)) (iqr1 100 iq31 (iqr2 101 (iq21 5) (iqr3 103 (iq155 10) (iqr2 106 (iq22 6) (iqr1 108 iq33 (iqr1 109 iq101 (iqr3 110 (iq167 4) iqE)))))))))) (iqC (iqr1 113 iq9 (iqr1 114 iq97 (iqr1 115 iq64 (iqr2 116 (iq22 6) (iqr1 118 iq66 (iqr3 119 (iq167 (-112)) (iqr1 122 iq31 (iqr1 123 iq173 iqE)))))))) iqN)))))))) = true := by decide +kernel
theorem dgX3_deepest_0 : kRun kT cX3_deepest.data.toList 0 (List.flatten (iqC (iqr1 0 iq3 (iqr1 1 iq62 (iqr1 2 iq3 (iqr2 3 (iq54 4) (iqr2 5 (iq21 4) (iqr1 7 iq28 (iqr3 8 (iq162 68) (iqr1 11 iq3 (iqr2 12 (iq54 5) (iqr1 14 iq3 iqE)))))))))) (iqC (iqr2 15 (iq54 6) (iqr2 17 (iq21 6) (iqr1 19 iq28 (iqr3 20 (iq162 43) (iqr2 23 (iq21 5) (iqr1 25 iq42 (iqr2 26 (iq21 6) (iqr1 28 iq47 (iqr1 29 iq42 (iqr2 30 (iq21 4) iqE)))))))))) (iqC (iqr1 32 iq47 (iqr1 33 iq148 (iqr3 34 (iq157 19) (iqr1 37 iq42 (iqr2 38 (iq21 4) (iqr1 40 iq47 (iqr1 41 iq43 (iqr2 42 (iq21 6) (iqr1 44 iq47 (iqr1 45 iq148 iqE)))))))))) (iqC (iqr3 46 (iq156 7) (iqr1 49 iq4 (iqr3 50 (iq167 4) (iqr1 53 iq3 (iqr1 54 iq96 (iqr2 55 (iq54 5) (iqr3 57 (iq132 6 1) (iqr3 60 (iq167 (-43)) (iqr1 63 iq29 (iqr2 64 (iq21 5) iqE)))))))))) (iqC (iqr3 66 (iq184 74) (iqr1 69 iq62 (iqr3 70 (iq132 4 1) (iqr3 73 (iq167 (-68)) (iqr1 76 iq29 (iqr1 77 iq172 iqE)))))) iqN)))))) = true := by decide +kernel
theorem dgX3_fits_0 : kRun kT cX3_fits.data.toList 0 (List.flatten (iqC (iqr1 0 iq42 (iqr1 1 iq31 (iqr1 2 iq31 (iqr1 3 iq33 (iqr1 4 iq97 (iqr3 5 (iq182 80) (iqr3 8 (iq153 19) (iqr1 11 iq42 (iqr1 12 iq31 (iqr1 13 iq31 iqE)))))))))) (iqC (iqr1 14 iq33 (iqr1 15 iq97 (iqr1 16 iq2 (iqr3 17 (iq182 84) (iqr3 20 (iq154 7) (iqr1 23 iq4 (iqr3 24 (iq167 4) (iqr1 27 iq3 (iqr1 28 iq172 iqE))))))))) iqN))) = true := by decide +kernel
theorem dgX3_wishesMeet_0 : kRun kT cX3_wishesMeet.data.toList 0 (List.flatten (iqC (iqr1 0 iq42 (iqr3 1 (iq180 29) (iqr1 4 iq27 (iqr1 5 iq47 (iqr1 6 iq42 (iqr3 7 (iq180 32) (iqr1 10 iq27 (iqr1 11 iq47 (iqr1 12 iq42 (iqr3 13 (iq180 29) iqE)))))))))) (iqC (iqr1 16 iq28 (iqr1 17 iq47 (iqr1 18 iq42 (iqr3 19 (iq180 32) (iqr1 22 iq28 (iqr1 23 iq47 (iqr3 24 (iq184 59) (iqr1 27 iq172 iqE)))))))) iqN))) = true := by decide +kernel
theorem dgX3_areApart_0 : kRun kT cX3_areApart.data.toList 0 (List.flatten (iqC (iqr1 0 iq3 (iqr1 1 iq61 (iqr1 2 iq28 (iqr1 3 iq42 (iqr3 4 (iq180 88) (iqr3 7 (iq162 46) (iqr1 10 iq3 (iqr1 11 iq62 (iqr1 12 iq29 (iqr1 13 iq28 iqE)))))))))) (iqC (iqr3 14 (iq162 33) (iqr1 17 iq27 (iqr1 18 iq28 (iqr1 19 iq122 (iqr1 20 iq27 (iqr1 21 iq29 (iqr1 22 iq122 (iqr1 23 iq126 (iqr1 24 iq4 (iqr1 25 iq126 iqE)))))))))) (iqC (iqr1 26 iq4 (iqr3 27 (iq160 14) (iqr1 30 iq42 (iqr1 31 iq28 (iqr1 32 iq29 (iqr3 33 (iq182 91) (iqr3 36 (iq153 5) (iqr1 39 iq3 (iqr1 40 iq172 (iqr3 41 (iq132 3 1) iqE)))))))))) (iqC (iqr3 44 (iq167 (-32)) (iqr3 47 (iq132 2 1) (iqr3 50 (iq167 (-48)) (iqr1 53 iq4 (iqr1 54 iq172 iqE))))) iqN))))) = true := by decide +kernel
theorem dgX3_chosenNow_0 : kRun kT cX3_chosenNow.data.toList 0 (List.flatten (iqC (iqr1 0 iq3 (iqr1 1 iq60 (iqr1 2 iq2 (iqr1 3 iq61 (iqr1 4 iq3 (iqr1 5 iq62 (iqr1 6 iq29 (iqr1 7 iq42 (iqr3 8 (iq180 88) (iqr3 11 (iq162 51) iqE)))))))))) (iqC (iqr1 14 iq27 (iqr1 15 iq29 (iqr1 16 iq122 (iqr1 17 iq4 (iqr1 18 iq126 (iqr3 19 (iq154 37) (iqr1 22 iq42 (iqr1 23 iq27 (iqr1 24 iq4 (iqr1 25 iq29 iqE)))))))))) (iqC (iqr1 26 iq120 (iqr1 27 iq128 (iqr3 28 (iq182 95) (iqr3 31 (iq153 25) (iqr1 34 iq28 (iqr3 35 (iq155 19) (iqr1 38 iq42 (iqr3 39 (iq180 32) (iqr1 42 iq29 (iqr1 43 iq47 iqE)))))))))) (iqC (iqr1 44 iq42 (iqr3 45 (iq180 32) (iqr1 48 iq28 (iqr1 49 iq47 (iqr1 50 iq148 (iqr3 51 (iq156 5) (iqr1 54 iq29 (iqr1 55 iq61 (iqr3 56 (iq132 3 1) (iqr3 59 (iq167 (-53)) iqE)))))))))) (iqC (iqr1 62 iq28 (iqr3 63 (iq156 5) (iqr1 66 iq27 (iqr1 67 iq172 (iqr1 68 iq27 (iqr1 69 iq4 (iqr1 70 iq28 (iqr1 71 iq120 (iqr1 72 iq128 (iqr1 73 iq60 iqE)))))))))) (iqC (iqr3 74 (iq167 (-72)) iqE) iqN))))))) = true := by decide +kernel
theorem dgX3_ones_0 : kRun kT cX3_ones.data.toList 0 (List.flatten (iqC (iqr1 0 iq3 (iqr1 1 iq60 (iqr1 2 iq3 (iqr1 3 iq61 (iqr1 4 iq28 (iqr2 5 (iq16 31) (iqr3 7 (iq162 17) (iqr1 10 iq27 (iqr1 11 iq26 (iqr1 12 iq28 iqE)))))))))) (iqC (iqr1 13 iq122 (iqr1 14 iq4 (iqr1 15 iq126 (iqr1 16 iq96 (iqr1 17 iq60 (iqr3 18 (iq132 2 1) (iqr3 21 (iq167 (-17)) (iqr1 24 iq27 (iqr1 25 iq172 iqE))))))))) iqN))) = true := by decide +kernel
theorem dgX3_mostOfAll_0 : kRun kT cX3_mostOfAll.data.toList 0 (List.flatten (iqC (iqr1 0 iq3 (iqr1 1 iq60 (iqr1 2 iq3 (iqr1 3 iq61 (iqr1 4 iq28 (iqr1 5 iq4 (iqr1 6 iq42 (iqr3 7 (iq180 88) (iqr1 10 iq120 (iqr3 11 (iq162 26) iqE)))))))))) (iqC (iqr1 14 iq42 (iqr1 15 iq28 (iqr3 16 (iq182 95) (iqr3 19 (iq153 12) (iqr1 22 iq27 (iqr1 23 iq28 (iqr3 24 (iq184 99) (iqr3 27 (iq184 74) (iqr1 30 iq60 (iqr3 31 (iq132 2 1) iqE)))))))))) (iqC (iqr3 34 (iq167 (-30)) (iqr1 37 iq27 (iqr1 38 iq172 iqE))) iqN)))) = true := by decide +kernel
theorem dgX3_nextWish_0 : kRun kT cX3_nextWish.data.toList 0 (List.flatten (iqC (iqr1 0 iq2 (iqr1 1 iq61 (iqr1 2 iq3 (iqr1 3 iq62 (iqr1 4 iq29 (iqr1 5 iq42 (iqr3 6 (iq180 88) (iqr3 9 (iq162 37) (iqr1 12 iq43 (iqr1 13 iq29 iqE)))))))))) (iqC (iqr1 14 iq46 (iqr3 15 (iq156 25) (iqr1 18 iq28 (iqr3 19 (iq155 19) (iqr1 22 iq42 (iqr3 23 (iq180 29) (iqr1 26 iq29 (iqr1 27 iq47 (iqr1 28 iq42 (iqr3 29 (iq180 29) iqE)))))))))) (iqC (iqr1 32 iq28 (iqr1 33 iq47 (iqr1 34 iq148 (iqr3 35 (iq156 5) (iqr1 38 iq29 (iqr1 39 iq61 (iqr3 40 (iq132 3 1) (iqr3 43 (iq167 (-39)) (iqr1 46 iq28 (iqr1 47 iq172 iqE)))))))))) iqN)))) = true := by decide +kernel
theorem dgX3_roomsNow_0 : kRun kT cX3_roomsNow.data.toList 0 (List.flatten (iqC (iqr1 0 iq42 (iqr3 1 (iq180 88) iqE)) iqN)) = true := by decide +kernel
theorem dX3_roomsNow_4 : decode cX3_roomsNow 4 = .ok (.newarray .int, 2) := by decide +kernel
theorem dgX3_roomsNow_6 : kRun kT cX3_roomsNow.data.toList 0 (List.flatten (iqC (iqr1 6 iq76 (iqr1 7 iq3 (iqr1 8 iq61 (iqr1 9 iq28 (iqr1 10 iq42 (iqr3 11 (iq180 88) (iqr3 14 (iq162 13) (iqr1 17 iq43 (iqr1 18 iq28 (iqr1 19 iq2 iqE)))))))))) (iqC (iqr1 20 iq79 (iqr3 21 (iq132 2 1) (iqr3 24 (iq167 (-15)) (iqr1 27 iq42 (iqr1 28 iq43 (iqr3 29 (iq182 103) (iqr1 32 iq61 (iqr1 33 iq28 (iqr3 34 (iq155 60) (iqr1 37 iq3 iqE)))))))))) (iqC (iqr1 38 iq62 (iqr1 39 iq3 (iqr2 40 (iq54 4) (iqr2 42 (iq21 4) (iqr1 44 iq42 (iqr3 45 (iq180 88) (iqr3 48 (iq162 33) (iqr1 51 iq43 (iqr2 52 (iq21 4) (iqr1 54 iq46 iqE)))))))))) (iqC (iqr1 55 iq29 (iqr3 56 (iq160 19) (iqr1 59 iq42 (iqr1 60 iq28 (iqr2 61 (iq21 4) (iqr3 63 (iq182 91) (iqr3 66 (iq153 9) (iqr3 69 (iq132 3 1) (iqr1 72 iq2 (iqr2 73 (iq54 4) iqE)))))))))) (iqC (iqr3 75 (iq132 4 1) (iqr3 78 (iq167 (-36)) (iqr1 81 iq43 (iqr1 82 iq28 (iqr1 83 iq29 (iqr1 84 iq79 (iqr1 85 iq42 (iqr1 86 iq43 (iqr3 87 (iq182 103) (iqr1 90 iq61 iqE)))))))))) (iqC (iqr3 91 (iq167 (-58)) (iqr1 94 iq43 (iqr1 95 iq176 iqE))) iqN))))))) = true := by decide +kernel
theorem dgX3_roomsOf_0 : kRun kT cX3_roomsOf.data.toList 0 (List.flatten (iqC (iqr1 0 iq3 (iqr1 1 iq60 (iqr1 2 iq42 (iqr3 3 (iq182 107) (iqr1 6 iq77 (iqr1 7 iq44 (iqr1 8 iq190 (iqr1 9 iq62 (iqr1 10 iq3 (iqr2 11 (iq54 4) iqE)))))))))) (iqC (iqr2 13 (iq21 4) (iqr1 15 iq29 (iqr3 16 (iq162 24) (iqr1 19 iq44 (iqr2 20 (iq21 4) (iqr1 22 iq46 (iqr2 23 (iq54 5) (iqr1 25 iq27 (iqr2 26 (iq21 5) (iqr1 28 iq4 iqE)))))))))) (iqC (iqr1 29 iq96 (iqr3 30 (iq184 74) (iqr1 33 iq60 (iqr3 34 (iq132 4 1) (iqr3 37 (iq167 (-24)) (iqr1 40 iq27 (iqr1 41 iq172 iqE))))))) iqN)))) = true := by decide +kernel
theorem dgX3_is_0 : kRun kT cX3_is.data.toList 0 (List.flatten (iqC (iqr1 0 iq26 (iqr3 1 (iq155 12) (iqr1 4 iq26 (iqr1 5 iq7 (iqr3 6 (iq162 7) (iqr1 9 iq4 (iqr3 10 (iq167 4) (iqr1 13 iq3 (iqr1 14 iq172 iqE))))))))) iqN)) = true := by decide +kernel
theorem dgX3_isSpan_0 : kRun kT cX3_isSpan.data.toList 0 (List.flatten (iqC (iqr1 0 iq27 (iqr3 1 (iq155 15) (iqr1 4 iq27 (iqr1 5 iq42 (iqr3 6 (iq180 56) (iqr3 9 (iq162 7) (iqr1 12 iq4 (iqr3 13 (iq167 4) (iqr1 16 iq3 (iqr1 17 iq172 iqE)))))))))) iqN)) = true := by decide +kernel
theorem dgX3_isWish_0 : kRun kT cX3_isWish.data.toList 0 (List.flatten (iqC (iqr1 0 iq27 (iqr3 1 (iq155 15) (iqr1 4 iq27 (iqr1 5 iq42 (iqr3 6 (iq180 88) (iqr3 9 (iq162 7) (iqr1 12 iq4 (iqr3 13 (iq167 4) (iqr1 16 iq3 (iqr1 17 iq172 iqE)))))))))) iqN)) = true := by decide +kernel
theorem dgX3_isNoUnit_0 : kRun kT cX3_isNoUnit.data.toList 0 (List.flatten (iqC (iqr1 0 iq26 (iqr3 1 (iq155 20) (iqr1 4 iq26 (iqr1 5 iq5 (iqr3 6 (iq163 15) (iqr1 9 iq27 (iqr2 10 (iq18 111) (iqr3 12 (iq161 9) (iqr1 15 iq27 (iqr2 16 (iq18 112) iqE)))))))))) (iqC (iqr3 18 (iq164 7) (iqr1 21 iq4 (iqr3 22 (iq167 4) (iqr1 25 iq3 (iqr1 26 iq172 iqE))))) iqN))) = true := by decide +kernel
theorem dgX3_isThrown_0 : kRun kT cX3_isThrown.data.toList 0 (List.flatten (iqC (iqr1 0 iq42 (iqr1 1 iq27 (iqr3 2 (iq153 7) (iqr1 5 iq4 (iqr3 6 (iq167 12) (iqr1 9 iq28 (iqr3 10 (iq153 7) (iqr1 13 iq5 (iqr3 14 (iq167 4) (iqr1 17 iq3 iqE)))))))))) (iqC (iqr3 18 (iq181 35) (iqr1 21 iq42 (iqr3 22 (iq180 35) (iqr3 25 (iq158 7) (iqr1 28 iq4 (iqr3 29 (iq167 4) (iqr1 32 iq3 (iqr1 33 iq172 iqE)))))))) iqN))) = true := by decide +kernel
theorem dgX3_isThrown__0 : kRun kT cX3_isThrown_.data.toList 0 (List.flatten (iqC (iqr1 0 iq42 (iqr1 1 iq27 (iqr1 2 iq3 (iqr3 3 (iq182 113) (iqr1 6 iq172 iqE))))) iqN)) = true := by decide +kernel
theorem dgX3_done_0 : kRun kT cX3_done.data.toList 0 (List.flatten (iqC (iqr1 0 iq42 (iqr1 1 iq89 (iqr3 2 (iq180 117) (iqr1 5 iq4 (iqr1 6 iq96 (iqr3 7 (iq181 117) (iqr1 10 iq27 (iqr1 11 iq172 iqE)))))))) iqN)) = true := by decide +kernel
theorem dgX3_no_0 : kRun kT cX3_no.data.toList 0 (List.flatten (iqC (iqr1 0 iq42 (iqr1 1 iq89 (iqr3 2 (iq180 120) (iqr1 5 iq4 (iqr1 6 iq96 (iqr3 7 (iq181 120) (iqr2 10 (iq16 (-9)) (iqr1 12 iq172 iqE)))))))) iqN)) = true := by decide +kernel
theorem dgX3_set_0 : kRun kT cX3_set.data.toList 0 (List.flatten (iqC (iqr1 0 iq42 (iqr1 1 iq27 (iqr3 2 (iq184 123) (iqr3 5 (iq154 7) (iqr1 8 iq4 (iqr3 9 (iq167 4) (iqr1 12 iq3 (iqr1 13 iq28 (iqr2 14 (iq18 126) (iqr3 16 (iq161 21) iqE)))))))))) (iqC (iqr1 19 iq28 (iqr2 20 (iq18 127) (iqr3 22 (iq163 15) (iqr1 25 iq29 (iqr2 26 (iq18 111) (iqr3 28 (iq161 9) (iqr1 31 iq29 (iqr2 32 (iq18 112) (iqr3 34 (iq164 7) (iqr1 37 iq4 iqE)))))))))) (iqC (iqr3 38 (iq167 4) (iqr1 41 iq3 (iqr3 42 (iq182 113) (iqr3 45 (iq153 5) (iqr1 48 iq3 (iqr1 49 iq172 (iqr1 50 iq28 (iqr1 51 iq133 (iqr3 52 (iq20 39) (iqr1 55 iq105 iqE)))))))))) (iqC (iqr1 56 iq29 (iqr1 57 iq133 (iqr1 58 iq97 (iqr2 59 (iq55 4) (iqr2 61 (iq22 4) (iqr3 63 (iq184 128) (iqr3 66 (iq154 8) (iqr1 69 iq42 (iqr3 70 (iq182 132) (iqr1 73 iq172 iqE)))))))))) (iqC (iqr1 74 iq42 (iqr3 75 (iq180 7) (iqr1 78 iq27 (iqr2 79 (iq22 4) (iqr1 81 iq80 (iqr1 82 iq42 (iqr2 83 (iq22 4) (iqr3 85 (iq184 43) (iqr1 88 iq28 (iqr1 89 iq100 iqE)))))))))) (iqC (iqr3 90 (iq182 136) (iqr1 93 iq172 iqE)) iqN))))))) = true := by decide +kernel
theorem dgX3_go_0 : kRun kT cX3_go.data.toList 0 (List.flatten (iqC (iqr1 0 iq42 (iqr1 1 iq27 (iqr3 2 (iq184 123) (iqr3 5 (iq154 7) (iqr1 8 iq4 (iqr3 9 (iq167 4) (iqr1 12 iq3 (iqr1 13 iq28 (iqr1 14 iq29 (iqr3 15 (iq184 139) iqE)))))))))) (iqC (iqr3 18 (iq182 113) (iqr3 21 (iq153 5) (iqr1 24 iq3 (iqr1 25 iq172 (iqr2 26 (iq21 4) (iqr3 28 (iq153 12) (iqr1 31 iq28 (iqr1 32 iq29 (iqr3 33 (iq184 142) (iqr1 36 iq117 iqE)))))))))) (iqC (iqr3 37 (iq167 8) (iqr1 40 iq28 (iqr1 41 iq29 (iqr3 42 (iq184 142) (iqr2 45 (iq55 5) (iqr1 47 iq42 (iqr3 48 (iq180 7) (iqr1 51 iq27 (iqr1 52 iq47 (iqr2 53 (iq22 5) iqE)))))))))) (iqC (iqr1 55 iq97 (iqr3 56 (iq184 128) (iqr3 59 (iq154 8) (iqr1 62 iq42 (iqr3 63 (iq182 132) (iqr1 66 iq172 (iqr1 67 iq42 (iqr3 68 (iq180 7) (iqr1 71 iq27 (iqr1 72 iq92 iqE)))))))))) (iqC (iqr1 73 iq47 (iqr2 74 (iq22 5) (iqr1 76 iq97 (iqr1 77 iq80 (iqr1 78 iq42 (iqr2 79 (iq22 5) (iqr3 81 (iq184 146) (iqr3 84 (iq182 136) (iqr1 87 iq172 iqE))))))))) iqN)))))) = true := by decide +kernel
theorem dgX3_copy_0 : kRun kT cX3_copy.data.toList 0 (List.flatten (iqC (iqr1 0 iq42 (iqr1 1 iq27 (iqr3 2 (iq184 123) (iqr3 5 (iq153 10) (iqr1 8 iq28 (iqr3 9 (iq184 123) (iqr3 12 (iq154 7) (iqr1 15 iq4 (iqr3 16 (iq167 4) (iqr1 19 iq3 iqE)))))))))) (iqC (iqr3 20 (iq182 149) (iqr3 23 (iq153 5) (iqr1 26 iq3 (iqr1 27 iq172 (iqr1 28 iq42 (iqr3 29 (iq180 7) (iqr1 32 iq27 (iqr1 33 iq47 (iqr1 34 iq42 (iqr3 35 (iq180 7) iqE)))))))))) (iqC (iqr1 38 iq28 (iqr1 39 iq47 (iqr1 40 iq148 (iqr3 41 (iq153 7) (iqr1 44 iq4 (iqr3 45 (iq167 4) (iqr1 48 iq3 (iqr1 49 iq62 (iqr1 50 iq42 (iqr3 51 (iq180 7) iqE)))))))))) (iqC (iqr1 54 iq28 (iqr1 55 iq42 (iqr3 56 (iq180 7) (iqr1 59 iq27 (iqr1 60 iq47 (iqr1 61 iq80 (iqr1 62 iq42 (iqr1 63 iq29 (iqr3 64 (iq153 7) (iqr1 67 iq4 iqE)))))))))) (iqC (iqr3 68 (iq167 4) (iqr1 71 iq3 (iqr3 72 (iq182 136) (iqr1 75 iq172 iqE)))) iqN)))))) = true := by decide +kernel
theorem dgX3_swap_0 : kRun kT cX3_swap.data.toList 0 (List.flatten (iqC (iqr1 0 iq42 (iqr1 1 iq27 (iqr3 2 (iq184 123) (iqr3 5 (iq153 10) (iqr1 8 iq28 (iqr3 9 (iq184 123) (iqr3 12 (iq154 7) (iqr1 15 iq4 (iqr3 16 (iq167 4) (iqr1 19 iq3 iqE)))))))))) (iqC (iqr3 20 (iq182 149) (iqr3 23 (iq153 5) (iqr1 26 iq3 (iqr1 27 iq172 (iqr1 28 iq42 (iqr3 29 (iq180 7) (iqr1 32 iq27 (iqr1 33 iq47 (iqr1 34 iq66 (iqr1 35 iq42 iqE)))))))))) (iqC (iqr3 36 (iq180 7) (iqr1 39 iq27 (iqr1 40 iq42 (iqr3 41 (iq180 7) (iqr1 44 iq28 (iqr1 45 iq47 (iqr1 46 iq80 (iqr1 47 iq42 (iqr3 48 (iq180 7) (iqr1 51 iq28 iqE)))))))))) (iqC (iqr1 52 iq33 (iqr1 53 iq80 (iqr1 54 iq42 (iqr1 55 iq42 (iqr3 56 (iq180 7) (iqr1 59 iq27 (iqr1 60 iq47 (iqr1 61 iq33 (iqr1 62 iq148 (iqr3 63 (iq154 7) iqE)))))))))) (iqC (iqr1 66 iq3 (iqr3 67 (iq167 4) (iqr1 70 iq4 (iqr3 71 (iq182 136) (iqr1 74 iq172 iqE))))) iqN)))))) = true := by decide +kernel
theorem dgX3_pick_0 : kRun kT cX3_pick.data.toList 0 (List.flatten (iqC (iqr1 0 iq42 (iqr1 1 iq28 (iqr3 2 (iq184 123) (iqr3 5 (iq154 7) (iqr1 8 iq4 (iqr3 9 (iq167 4) (iqr1 12 iq3 (iqr3 13 (iq182 149) (iqr3 16 (iq153 5) (iqr1 19 iq3 iqE)))))))))) (iqC (iqr1 20 iq172 (iqr1 21 iq3 (iqr1 22 iq62 (iqr1 23 iq4 (iqr2 24 (iq54 4) (iqr2 26 (iq21 4) (iqr1 28 iq7 (iqr3 29 (iq162 53) (iqr1 32 iq27 (iqr3 33 (iq153 23) iqE)))))))))) (iqC (iqr1 36 iq42 (iqr3 37 (iq180 7) (iqr2 40 (iq21 4) (iqr1 42 iq47 (iqr1 43 iq42 (iqr3 44 (iq180 7) (iqr1 47 iq29 (iqr1 48 iq47 (iqr1 49 iq148 (iqr3 50 (iq158 26) iqE)))))))))) (iqC (iqr3 53 (iq167 20) (iqr1 56 iq42 (iqr3 57 (iq180 7) (iqr2 60 (iq21 4) (iqr1 62 iq47 (iqr1 63 iq42 (iqr3 64 (iq180 7) (iqr1 67 iq29 (iqr1 68 iq47 (iqr1 69 iq148 iqE)))))))))) (iqC (iqr3 70 (iq156 6) (iqr2 73 (iq21 4) (iqr1 75 iq62 (iqr3 76 (iq132 4 1) (iqr3 79 (iq167 (-53)) (iqr1 82 iq42 (iqr3 83 (iq180 7) (iqr1 86 iq28 (iqr1 87 iq42 (iqr3 88 (iq180 7) iqE)))))))))) (iqC (iqr1 91 iq29 (iqr1 92 iq47 (iqr1 93 iq80 (iqr1 94 iq42 (iqr1 95 iq29 (iqr3 96 (iq182 136) (iqr1 99 iq172 iqE))))))) iqN))))))) = true := by decide +kernel
theorem dgX3_areLet_0 : kRun kT cX3_areLet.data.toList 0 (List.flatten (iqC (iqr1 0 iq3 (iqr2 1 (iq54 4) (iqr2 3 (iq21 4) (iqr1 5 iq27 (iqr3 6 (iq162 23) (iqr1 9 iq42 (iqr2 10 (iq21 4) (iqr1 12 iq47 (iqr1 13 iq32 (iqr1 14 iq97 iqE)))))))))) (iqC (iqr3 15 (iq184 128) (iqr3 18 (iq154 5) (iqr1 21 iq3 (iqr1 22 iq172 (iqr3 23 (iq132 4 1) (iqr3 26 (iq167 (-23)) (iqr1 29 iq4 (iqr1 30 iq172 iqE)))))))) iqN))) = true := by decide +kernel
theorem dgX3_shifted_0 : kRun kT cX3_shifted.data.toList 0 (List.flatten (iqC (iqr1 0 iq42 (iqr1 1 iq190 iqE)) iqN)) = true := by decide +kernel
theorem dX3_shifted_2 : decode cX3_shifted 2 = .ok (.newarray .long, 2) := by decide +kernel
theorem dgX3_shifted_4 : kRun kT cX3_shifted.data.toList 0 (List.flatten (iqC (iqr1 4 iq78 (iqr1 5 iq3 (iqr2 6 (iq54 4) (iqr2 8 (iq21 4) (iqr1 10 iq45 (iqr1 11 iq190 (iqr3 12 (iq162 19) (iqr1 15 iq45 (iqr2 16 (iq21 4) (iqr1 18 iq42 iqE)))))))))) (iqC (iqr2 19 (iq21 4) (iqr1 21 iq47 (iqr1 22 iq31 (iqr1 23 iq97 (iqr1 24 iq80 (iqr3 25 (iq132 4 1) (iqr3 28 (iq167 (-20)) (iqr1 31 iq45 (iqr1 32 iq176 iqE))))))))) iqN))) = true := by decide +kernel
theorem dgX3_shift_0 : kRun kT cX3_shift.data.toList 0 (List.flatten (iqC (iqr1 0 iq42 (iqr1 1 iq27 (iqr1 2 iq28 (iqr3 3 (iq184 139) (iqr3 6 (iq182 149) (iqr3 9 (iq153 5) (iqr1 12 iq3 (iqr1 13 iq172 (iqr1 14 iq27 (iqr1 15 iq28 iqE)))))))))) (iqC (iqr3 16 (iq184 142) (iqr1 19 iq66 (iqr1 20 iq42 (iqr3 21 (iq180 7) (iqr1 24 iq7 (iqr1 25 iq33 (iqr3 26 (iq184 152) (iqr3 29 (iq153 61) (iqr1 32 iq42 (iqr3 33 (iq180 53) iqE)))))))))) (iqC (iqr1 36 iq33 (iqr1 37 iq97 (iqr3 38 (iq184 128) (iqr3 41 (iq153 49) (iqr1 44 iq42 (iqr3 45 (iq180 15) (iqr1 48 iq33 (iqr1 49 iq97 (iqr3 50 (iq184 128) (iqr3 53 (iq153 37) iqE)))))))))) (iqC (iqr1 56 iq42 (iqr3 57 (iq180 19) (iqr1 60 iq42 (iqr3 61 (iq180 56) (iqr1 64 iq33 (iqr3 65 (iq184 152) (iqr3 68 (iq153 22) (iqr1 71 iq42 (iqr3 72 (iq180 22) (iqr1 75 iq42 iqE)))))))))) (iqC (iqr3 76 (iq180 56) (iqr1 79 iq33 (iqr3 80 (iq184 152) (iqr3 83 (iq153 7) (iqr1 86 iq4 (iqr3 87 (iq167 4) (iqr1 90 iq3 (iqr2 91 (iq54 5) (iqr2 93 (iq21 5) (iqr3 95 (iq153 33) iqE)))))))))) (iqC (iqr1 98 iq42 (iqr3 99 (iq180 29) (iqr1 102 iq42 (iqr3 103 (iq180 88) (iqr1 106 iq33 (iqr3 107 (iq184 152) (iqr3 110 (iq153 18) (iqr1 113 iq42 (iqr3 114 (iq180 32) (iqr1 117 iq42 iqE)))))))))) (iqC (iqr3 118 (iq180 88) (iqr1 121 iq33 (iqr3 122 (iq184 152) (iqr3 125 (iq154 8) (iqr1 128 iq42 (iqr3 129 (iq182 132) (iqr1 132 iq172 (iqr1 133 iq42 (iqr1 134 iq42 (iqr3 135 (iq180 7) iqE)))))))))) (iqC (iqr1 138 iq33 (iqr3 139 (iq184 156) (iqr3 142 (iq181 7) (iqr1 145 iq42 (iqr1 146 iq89 (iqr3 147 (iq180 53) (iqr1 150 iq33 (iqr1 151 iq97 (iqr3 152 (iq181 53) (iqr1 155 iq42 iqE)))))))))) (iqC (iqr1 156 iq89 (iqr3 157 (iq180 15) (iqr1 160 iq33 (iqr1 161 iq97 (iqr3 162 (iq181 15) (iqr1 165 iq42 (iqr1 166 iq42 (iqr3 167 (iq180 19) (iqr1 170 iq33 (iqr3 171 (iq184 156) iqE)))))))))) (iqC (iqr3 174 (iq181 19) (iqr1 177 iq42 (iqr1 178 iq42 (iqr3 179 (iq180 22) (iqr1 182 iq33 (iqr3 183 (iq184 156) (iqr3 186 (iq181 22) (iqr1 189 iq42 (iqr1 190 iq42 (iqr3 191 (iq180 29) iqE)))))))))) iqN))))))))))) = true := by decide +kernel
theorem dgX3_shift_194 : kRun kT cX3_shift.data.toList 0 (List.flatten (iqC (iqr1 194 iq33 (iqr3 195 (iq184 156) (iqr3 198 (iq181 29) (iqr1 201 iq42 (iqr1 202 iq42 (iqr3 203 (iq180 32) (iqr1 206 iq33 (iqr3 207 (iq184 156) (iqr3 210 (iq181 32) (iqr1 213 iq42 iqE)))))))))) (iqC (iqr2 214 (iq16 6) (iqr1 216 iq5 (iqr1 217 iq42 (iqr3 218 (iq180 56) (iqr1 221 iq104 (iqr1 222 iq96 (iqr1 223 iq5 (iqr1 224 iq42 (iqr3 225 (iq180 88) (iqr1 228 iq104 iqE)))))))))) (iqC (iqr1 229 iq96 (iqr3 230 (iq182 136) (iqr1 233 iq172 iqE))) iqN)))) = true := by decide +kernel
theorem dgX3_open_0 : kRun kT cX3_open.data.toList 0 (List.flatten (iqC (iqr1 0 iq42 (iqr1 1 iq27 (iqr3 2 (iq184 123) (iqr3 5 (iq153 10) (iqr1 8 iq28 (iqr3 9 (iq184 123) (iqr3 12 (iq154 7) (iqr1 15 iq4 (iqr3 16 (iq167 4) (iqr1 19 iq3 iqE)))))))))) (iqC (iqr3 20 (iq182 149) (iqr3 23 (iq153 5) (iqr1 26 iq3 (iqr1 27 iq172 (iqr1 28 iq42 (iqr3 29 (iq180 7) (iqr1 32 iq27 (iqr1 33 iq47 (iqr1 34 iq42 (iqr3 35 (iq180 7) iqE)))))))))) (iqC (iqr1 38 iq28 (iqr1 39 iq47 (iqr1 40 iq148 (iqr3 41 (iq155 8) (iqr1 44 iq42 (iqr3 45 (iq182 132) (iqr1 48 iq172 (iqr1 49 iq42 (iqr1 50 iq42 (iqr3 51 (iq180 7) iqE)))))))))) (iqC (iqr1 54 iq27 (iqr1 55 iq47 (iqr3 56 (iq181 53) (iqr1 59 iq42 (iqr1 60 iq42 (iqr3 61 (iq180 7) (iqr1 64 iq28 (iqr1 65 iq47 (iqr3 66 (iq181 15) (iqr1 69 iq42 iqE)))))))))) (iqC (iqr3 70 (iq180 56) (iqr1 73 iq62 (iqr1 74 iq42 (iqr1 75 iq3 (iqr3 76 (iq181 56) (iqr1 79 iq42 (iqr1 80 iq29 (iqr3 81 (iq182 136) (iqr1 84 iq172 iqE))))))))) iqN)))))) = true := by decide +kernel
theorem dgX3_mayCome_0 : kRun kT cX3_mayCome.data.toList 0 (List.flatten (iqC (iqr1 0 iq31 (iqr1 1 iq33 (iqr1 2 iq148 (iqr3 3 (iq156 40) (iqr1 6 iq42 (iqr1 7 iq31 (iqr1 8 iq33 (iqr3 9 (iq182 80) (iqr3 12 (iq153 31) (iqr1 15 iq42 iqE)))))))))) (iqC (iqr3 16 (iq180 56) (iqr2 19 (iq16 10) (iqr3 21 (iq162 22) (iqr2 24 (iq21 5) (iqr3 26 (iq154 13) (iqr1 29 iq42 (iqr1 30 iq31 (iqr1 31 iq33 (iqr1 32 iq2 (iqr3 33 (iq182 84) iqE)))))))))) (iqC (iqr3 36 (iq154 7) (iqr1 39 iq4 (iqr3 40 (iq167 4) (iqr1 43 iq3 (iqr1 44 iq172 iqE))))) iqN)))) = true := by decide +kernel
theorem dgX3_come_0 : kRun kT cX3_come.data.toList 0 (List.flatten (iqC (iqr1 0 iq42 (iqr3 1 (iq180 19) (iqr1 4 iq42 (iqr3 5 (iq180 56) (iqr1 8 iq31 (iqr1 9 iq80 (iqr1 10 iq42 (iqr3 11 (iq180 22) (iqr1 14 iq42 (iqr3 15 (iq180 56) iqE)))))))))) (iqC (iqr1 18 iq33 (iqr1 19 iq80 (iqr1 20 iq42 (iqr3 21 (iq180 25) (iqr1 24 iq42 (iqr3 25 (iq180 56) (iqr2 28 (iq21 5) (iqr1 30 iq84 (iqr1 31 iq42 (iqr1 32 iq89 iqE)))))))))) (iqC (iqr3 33 (iq180 56) (iqr1 36 iq4 (iqr1 37 iq96 (iqr3 38 (iq181 56) (iqr1 41 iq42 (iqr1 42 iq42 (iqr3 43 (iq180 56) (iqr1 46 iq4 (iqr1 47 iq100 (iqr3 48 (iq182 136) iqE)))))))))) (iqC (iqr1 51 iq172 iqE) iqN))))) = true := by decide +kernel
theorem dgX3_book_0 : kRun kT cX3_book.data.toList 0 (List.flatten (iqC (iqr1 0 iq42 (iqr1 1 iq27 (iqr3 2 (iq184 123) (iqr3 5 (iq153 10) (iqr1 8 iq28 (iqr3 9 (iq184 123) (iqr3 12 (iq154 7) (iqr1 15 iq4 (iqr3 16 (iq167 4) (iqr1 19 iq3 iqE)))))))))) (iqC (iqr3 20 (iq182 149) (iqr3 23 (iq153 5) (iqr1 26 iq3 (iqr1 27 iq172 (iqr1 28 iq42 (iqr1 29 iq42 (iqr3 30 (iq180 7) (iqr1 33 iq27 (iqr1 34 iq47 (iqr1 35 iq42 iqE)))))))))) (iqC (iqr3 36 (iq180 7) (iqr1 39 iq28 (iqr1 40 iq47 (iqr1 41 iq29 (iqr3 42 (iq182 160) (iqr3 45 (iq153 23) (iqr1 48 iq42 (iqr1 49 iq42 (iqr3 50 (iq180 7) (iqr1 53 iq27 iqE)))))))))) (iqC (iqr1 54 iq47 (iqr1 55 iq42 (iqr3 56 (iq180 7) (iqr1 59 iq28 (iqr1 60 iq47 (iqr1 61 iq29 (iqr3 62 (iq182 164) (iqr3 65 (iq167 7) (iqr1 68 iq42 (iqr3 69 (iq182 132) iqE)))))))))) (iqC (iqr1 72 iq172 iqE) iqN)))))) = true := by decide +kernel
theorem dgX3_unbook_0 : kRun kT cX3_unbook.data.toList 0 (List.flatten (iqC (iqr1 0 iq42 (iqr1 1 iq42 (iqr1 2 iq27 (iqr3 3 (iq182 168) (iqr3 6 (iq154 7) (iqr1 9 iq4 (iqr3 10 (iq167 4) (iqr1 13 iq3 (iqr3 14 (iq182 149) (iqr3 17 (iq153 5) iqE)))))))))) (iqC (iqr1 20 iq3 (iqr1 21 iq172 (iqr1 22 iq42 (iqr1 23 iq89 (iqr3 24 (iq180 56) (iqr1 27 iq4 (iqr1 28 iq100 (iqr3 29 (iq181 56) (iqr1 32 iq27 (iqr1 33 iq61 iqE)))))))))) (iqC (iqr1 34 iq28 (iqr1 35 iq42 (iqr3 36 (iq180 56) (iqr3 39 (iq162 51) (iqr1 42 iq42 (iqr3 43 (iq180 19) (iqr1 46 iq28 (iqr1 47 iq42 (iqr3 48 (iq180 19) (iqr1 51 iq28 iqE)))))))))) (iqC (iqr1 52 iq4 (iqr1 53 iq96 (iqr1 54 iq47 (iqr1 55 iq80 (iqr1 56 iq42 (iqr3 57 (iq180 22) (iqr1 60 iq28 (iqr1 61 iq42 (iqr3 62 (iq180 22) (iqr1 65 iq28 iqE)))))))))) (iqC (iqr1 66 iq4 (iqr1 67 iq96 (iqr1 68 iq47 (iqr1 69 iq80 (iqr1 70 iq42 (iqr3 71 (iq180 25) (iqr1 74 iq28 (iqr1 75 iq42 (iqr3 76 (iq180 25) (iqr1 79 iq28 iqE)))))))))) (iqC (iqr1 80 iq4 (iqr1 81 iq96 (iqr1 82 iq51 (iqr1 83 iq84 (iqr3 84 (iq132 2 1) (iqr3 87 (iq167 (-53)) (iqr1 90 iq42 (iqr1 91 iq42 (iqr3 92 (iq180 56) (iqr3 95 (iq182 136) iqE)))))))))) (iqC (iqr1 98 iq172 iqE) iqN)))))))) = true := by decide +kernel
theorem dgX3_empty_0 : kRun kT cX3_empty.data.toList 0 (List.flatten (iqC (iqr1 0 iq42 (iqr1 1 iq3 (iqr3 2 (iq181 35) (iqr1 5 iq42 (iqr3 6 (iq180 56) (iqr1 9 iq60 (iqr1 10 iq42 (iqr1 11 iq3 (iqr3 12 (iq181 56) (iqr1 15 iq42 iqE)))))))))) (iqC (iqr1 16 iq27 (iqr3 17 (iq182 136) (iqr1 20 iq172 iqE))) iqN))) = true := by decide +kernel
theorem dgX3_less_0 : kRun kT cX3_less.data.toList 0 (List.flatten (iqC (iqr1 0 iq3 (iqr2 1 (iq54 4) (iqr1 3 iq3 (iqr2 4 (iq54 5) (iqr2 6 (iq21 5) (iqr1 8 iq27 (iqr3 9 (iq162 28) (iqr2 12 (iq21 4) (iqr1 14 iq42 (iqr2 15 (iq21 5) iqE)))))))))) (iqC (iqr1 17 iq47 (iqr1 18 iq32 (iqr1 19 iq148 (iqr3 20 (iq156 7) (iqr1 23 iq4 (iqr3 24 (iq167 4) (iqr1 27 iq3 (iqr1 28 iq96 (iqr2 29 (iq54 4) (iqr3 31 (iq132 5 1) iqE)))))))))) (iqC (iqr3 34 (iq167 (-28)) (iqr2 37 (iq21 4) (iqr1 39 iq172 iqE))) iqN)))) = true := by decide +kernel
theorem dgX3_move_0 : kRun kT cX3_move.data.toList 0 (List.flatten (iqC (iqr1 0 iq42 (iqr1 1 iq42 (iqr1 2 iq27 (iqr3 3 (iq182 168) (iqr3 6 (iq154 7) (iqr1 9 iq4 (iqr3 10 (iq167 4) (iqr1 13 iq3 (iqr1 14 iq28 (iqr1 15 iq29 iqE)))))))))) (iqC (iqr3 16 (iq184 139) (iqr3 19 (iq182 113) (iqr3 22 (iq153 5) (iqr1 25 iq3 (iqr1 26 iq172 (iqr1 27 iq42 (iqr3 28 (iq180 19) (iqr1 31 iq27 (iqr1 32 iq47 (iqr1 33 iq28 iqE)))))))))) (iqC (iqr1 34 iq29 (iqr3 35 (iq184 142) (iqr1 38 iq97 (iqr2 39 (iq55 4) (iqr1 41 iq42 (iqr3 42 (iq180 22) (iqr1 45 iq27 (iqr1 46 iq47 (iqr1 47 iq28 (iqr1 48 iq29 iqE)))))))))) (iqC (iqr3 49 (iq184 142) (iqr1 52 iq97 (iqr2 53 (iq55 6) (iqr1 55 iq42 (iqr2 56 (iq22 4) (iqr2 58 (iq22 6) (iqr3 60 (iq182 80) (iqr3 63 (iq153 15) (iqr1 66 iq42 (iqr2 67 (iq22 4) iqE)))))))))) (iqC (iqr2 69 (iq22 6) (iqr1 71 iq27 (iqr3 72 (iq182 84) (iqr3 75 (iq153 8) (iqr1 78 iq42 (iqr3 79 (iq182 132) (iqr1 82 iq172 (iqr1 83 iq42 (iqr3 84 (iq180 19) (iqr1 87 iq27 iqE)))))))))) (iqC (iqr2 88 (iq22 4) (iqr1 90 iq80 (iqr1 91 iq42 (iqr3 92 (iq180 22) (iqr1 95 iq27 (iqr2 96 (iq22 6) (iqr1 98 iq80 (iqr1 99 iq42 (iqr1 100 iq42 (iqr3 101 (iq180 19) iqE)))))))))) (iqC (iqr1 104 iq42 (iqr3 105 (iq180 56) (iqr2 108 (iq22 4) (iqr3 110 (iq184 171) (iqr3 113 (iq182 136) (iqr1 116 iq172 iqE)))))) iqN)))))))) = true := by decide +kernel
theorem dgX3_stretch_0 : kRun kT cX3_stretch.data.toList 0 (List.flatten (iqC (iqr1 0 iq42 (iqr1 1 iq42 (iqr1 2 iq27 (iqr3 3 (iq182 168) (iqr3 6 (iq154 7) (iqr1 9 iq4 (iqr3 10 (iq167 4) (iqr1 13 iq3 (iqr1 14 iq28 (iqr1 15 iq29 iqE)))))))))) (iqC (iqr3 16 (iq184 139) (iqr3 19 (iq182 113) (iqr3 22 (iq153 5) (iqr1 25 iq3 (iqr1 26 iq172 (iqr1 27 iq42 (iqr3 28 (iq180 22) (iqr1 31 iq27 (iqr1 32 iq47 (iqr1 33 iq28 iqE)))))))))) (iqC (iqr1 34 iq29 (iqr3 35 (iq184 142) (iqr1 38 iq97 (iqr2 39 (iq55 4) (iqr2 41 (iq22 4) (iqr1 43 iq42 (iqr3 44 (iq180 19) (iqr1 47 iq27 (iqr1 48 iq47 (iqr1 49 iq148 iqE)))))))))) (iqC (iqr3 50 (iq158 34) (iqr1 53 iq42 (iqr1 54 iq42 (iqr3 55 (iq180 19) (iqr1 58 iq27 (iqr1 59 iq47 (iqr2 60 (iq22 4) (iqr3 62 (iq182 80) (iqr3 65 (iq153 19) (iqr1 68 iq42 iqE)))))))))) (iqC (iqr1 69 iq42 (iqr3 70 (iq180 19) (iqr1 73 iq27 (iqr1 74 iq47 (iqr2 75 (iq22 4) (iqr1 77 iq27 (iqr3 78 (iq182 84) (iqr3 81 (iq153 8) (iqr1 84 iq42 (iqr3 85 (iq182 132) iqE)))))))))) (iqC (iqr1 88 iq172 (iqr1 89 iq42 (iqr3 90 (iq180 22) (iqr1 93 iq27 (iqr2 94 (iq22 4) (iqr1 96 iq80 (iqr1 97 iq42 (iqr1 98 iq42 (iqr3 99 (iq180 22) (iqr1 102 iq42 iqE)))))))))) (iqC (iqr3 103 (iq180 56) (iqr2 106 (iq22 4) (iqr3 108 (iq184 171) (iqr3 111 (iq182 136) (iqr1 114 iq172 iqE))))) iqN)))))))) = true := by decide +kernel
theorem dgX3_fit_0 : kRun kT cX3_fit.data.toList 0 (List.flatten (iqC (iqr1 0 iq42 (iqr1 1 iq27 (iqr3 2 (iq184 123) (iqr3 5 (iq153 11) (iqr2 8 (iq21 4) (iqr3 10 (iq184 123) (iqr3 13 (iq154 7) (iqr1 16 iq4 (iqr3 17 (iq167 4) (iqr1 20 iq3 iqE)))))))))) (iqC (iqr1 21 iq28 (iqr1 22 iq29 (iqr3 23 (iq184 139) (iqr3 26 (iq154 8) (iqr1 29 iq29 (iqr1 30 iq4 (iqr3 31 (iq162 7) (iqr1 34 iq4 (iqr3 35 (iq167 4) (iqr1 38 iq3 iqE)))))))))) (iqC (iqr3 39 (iq182 113) (iqr3 42 (iq153 5) (iqr1 45 iq3 (iqr1 46 iq172 (iqr1 47 iq28 (iqr1 48 iq29 (iqr3 49 (iq184 142) (iqr2 52 (iq55 5) (iqr1 54 iq42 (iqr3 55 (iq180 7) iqE)))))))))) (iqC (iqr1 58 iq27 (iqr1 59 iq47 (iqr1 60 iq42 (iqr3 61 (iq180 53) (iqr3 64 (iq184 175) (iqr2 67 (iq55 7) (iqr1 69 iq42 (iqr2 70 (iq22 7) (iqr2 72 (iq22 5) (iqr3 74 (iq182 178) iqE)))))))))) (iqC (iqr2 77 (iq54 9) (iqr2 79 (iq22 7) (iqr2 81 (iq55 10) (iqr1 83 iq3 (iqr2 84 (iq54 12) (iqr2 86 (iq21 12) (iqr1 88 iq42 (iqr3 89 (iq180 56) (iqr3 92 (iq162 68) (iqr1 95 iq42 iqE)))))))))) (iqC (iqr3 96 (iq180 22) (iqr2 99 (iq21 12) (iqr1 101 iq47 (iqr2 102 (iq22 7) (iqr1 104 iq148 (iqr3 105 (iq155 49) (iqr1 108 iq42 (iqr1 109 iq42 (iqr3 110 (iq180 22) (iqr2 113 (iq21 12) iqE)))))))))) (iqC (iqr1 115 iq47 (iqr2 116 (iq22 5) (iqr3 118 (iq182 178) (iqr3 121 (iq153 33) (iqr2 124 (iq21 9) (iqr3 126 (iq153 16) (iqr1 129 iq42 (iqr3 130 (iq180 22) (iqr2 133 (iq21 12) (iqr1 135 iq47 iqE)))))))))) (iqC (iqr2 136 (iq22 10) (iqr1 138 iq148 (iqr3 139 (iq156 15) (iqr1 142 iq42 (iqr3 143 (iq180 22) (iqr2 146 (iq21 12) (iqr1 148 iq47 (iqr2 149 (iq55 10) (iqr1 151 iq4 (iqr2 152 (iq54 9) iqE)))))))))) (iqC (iqr3 154 (iq132 12 1) (iqr3 157 (iq167 (-71)) (iqr2 160 (iq21 9) (iqr3 162 (iq154 8) (iqr1 165 iq42 (iqr3 166 (iq182 132) (iqr1 169 iq172 (iqr1 170 iq42 (iqr3 171 (iq180 7) (iqr2 174 (iq21 4) iqE)))))))))) (iqC (iqr1 176 iq47 (iqr2 177 (iq22 10) (iqr1 179 iq148 (iqr3 180 (iq153 7) (iqr1 183 iq4 (iqr3 184 (iq167 4) (iqr1 187 iq3 (iqr2 188 (iq54 12) (iqr1 190 iq42 (iqr3 191 (iq180 7) iqE)))))))))) iqN))))))))))) = true := by decide +kernel
theorem dgX3_fit_194 : kRun kT cX3_fit.data.toList 0 (List.flatten (iqC (iqr2 194 (iq21 4) (iqr2 196 (iq22 10) (iqr1 198 iq80 (iqr1 199 iq42 (iqr2 200 (iq21 12) (iqr3 202 (iq153 7) (iqr1 205 iq4 (iqr3 206 (iq167 4) (iqr1 209 iq3 (iqr3 210 (iq182 136) iqE)))))))))) (iqC (iqr1 213 iq172 iqE) iqN))) = true := by decide +kernel
theorem dgX3_wish_0 : kRun kT cX3_wish.data.toList 0 (List.flatten (iqC (iqr1 0 iq42 (iqr1 1 iq27 (iqr3 2 (iq184 123) (iqr3 5 (iq153 10) (iqr1 8 iq28 (iqr3 9 (iq184 123) (iqr3 12 (iq154 7) (iqr1 15 iq4 (iqr3 16 (iq167 4) (iqr1 19 iq3 iqE)))))))))) (iqC (iqr3 20 (iq182 149) (iqr3 23 (iq153 5) (iqr1 26 iq3 (iqr1 27 iq172 (iqr1 28 iq42 (iqr3 29 (iq180 7) (iqr1 32 iq27 (iqr1 33 iq47 (iqr1 34 iq42 (iqr3 35 (iq180 7) iqE)))))))))) (iqC (iqr1 38 iq28 (iqr1 39 iq47 (iqr1 40 iq148 (iqr3 41 (iq156 12) (iqr1 44 iq42 (iqr3 45 (iq180 88) (iqr2 48 (iq16 8) (iqr3 50 (iq160 8) (iqr1 53 iq42 (iqr3 54 (iq182 132) iqE)))))))))) (iqC (iqr1 57 iq172 (iqr1 58 iq42 (iqr3 59 (iq180 29) (iqr1 62 iq42 (iqr3 63 (iq180 88) (iqr1 66 iq42 (iqr3 67 (iq180 7) (iqr1 70 iq27 (iqr1 71 iq47 (iqr1 72 iq80 iqE)))))))))) (iqC (iqr1 73 iq42 (iqr3 74 (iq180 32) (iqr1 77 iq42 (iqr3 78 (iq180 88) (iqr1 81 iq42 (iqr3 82 (iq180 7) (iqr1 85 iq28 (iqr1 86 iq47 (iqr1 87 iq80 (iqr1 88 iq42 iqE)))))))))) (iqC (iqr1 89 iq89 (iqr3 90 (iq180 88) (iqr1 93 iq4 (iqr1 94 iq96 (iqr3 95 (iq181 88) (iqr1 98 iq42 (iqr1 99 iq42 (iqr3 100 (iq180 88) (iqr1 103 iq4 (iqr1 104 iq100 iqE)))))))))) (iqC (iqr3 105 (iq182 136) (iqr1 108 iq172 iqE)) iqN)))))))) = true := by decide +kernel
theorem dgX3_gone_0 : kRun kT cX3_gone.data.toList 0 (List.flatten (iqC (iqr1 0 iq42 (iqr1 1 iq89 (iqr3 2 (iq180 88) (iqr1 5 iq4 (iqr1 6 iq100 (iqr3 7 (iq181 88) (iqr1 10 iq27 (iqr1 11 iq61 (iqr1 12 iq28 (iqr1 13 iq42 iqE)))))))))) (iqC (iqr3 14 (iq180 88) (iqr3 17 (iq162 37) (iqr1 20 iq42 (iqr3 21 (iq180 29) (iqr1 24 iq28 (iqr1 25 iq42 (iqr3 26 (iq180 29) (iqr1 29 iq28 (iqr1 30 iq4 (iqr1 31 iq96 iqE)))))))))) (iqC (iqr1 32 iq47 (iqr1 33 iq80 (iqr1 34 iq42 (iqr3 35 (iq180 32) (iqr1 38 iq28 (iqr1 39 iq42 (iqr3 40 (iq180 32) (iqr1 43 iq28 (iqr1 44 iq4 (iqr1 45 iq96 iqE)))))))))) (iqC (iqr1 46 iq47 (iqr1 47 iq80 (iqr3 48 (iq132 2 1) (iqr3 51 (iq167 (-39)) (iqr1 54 iq177 iqE))))) iqN))))) = true := by decide +kernel
theorem dgX3_unwish_0 : kRun kT cX3_unwish.data.toList 0 (List.flatten (iqC (iqr1 0 iq42 (iqr1 1 iq42 (iqr1 2 iq27 (iqr3 3 (iq182 181) (iqr3 6 (iq154 7) (iqr1 9 iq4 (iqr3 10 (iq167 4) (iqr1 13 iq3 (iqr3 14 (iq182 149) (iqr3 17 (iq153 5) iqE)))))))))) (iqC (iqr1 20 iq3 (iqr1 21 iq172 (iqr1 22 iq42 (iqr1 23 iq27 (iqr3 24 (iq182 184) (iqr1 27 iq42 (iqr1 28 iq42 (iqr3 29 (iq180 88) (iqr3 32 (iq182 136) (iqr1 35 iq172 iqE)))))))))) iqN))) = true := by decide +kernel
theorem dgX3_grant_0 : kRun kT cX3_grant.data.toList 0 (List.flatten (iqC (iqr1 0 iq42 (iqr1 1 iq42 (iqr1 2 iq27 (iqr3 3 (iq182 181) (iqr3 6 (iq154 7) (iqr1 9 iq4 (iqr3 10 (iq167 4) (iqr1 13 iq3 (iqr3 14 (iq182 149) (iqr3 17 (iq153 5) iqE)))))))))) (iqC (iqr1 20 iq3 (iqr1 21 iq172 (iqr1 22 iq42 (iqr1 23 iq42 (iqr3 24 (iq180 29) (iqr1 27 iq27 (iqr1 28 iq47 (iqr1 29 iq42 (iqr3 30 (iq180 32) (iqr1 33 iq27 iqE)))))))))) (iqC (iqr1 34 iq47 (iqr1 35 iq3 (iqr3 36 (iq182 160) (iqr3 39 (iq154 8) (iqr1 42 iq42 (iqr3 43 (iq182 132) (iqr1 46 iq172 (iqr1 47 iq42 (iqr1 48 iq42 (iqr3 49 (iq180 29) iqE)))))))))) (iqC (iqr1 52 iq27 (iqr1 53 iq47 (iqr1 54 iq42 (iqr3 55 (iq180 32) (iqr1 58 iq27 (iqr1 59 iq47 (iqr1 60 iq3 (iqr3 61 (iq182 164) (iqr1 64 iq61 (iqr1 65 iq42 iqE)))))))))) (iqC (iqr1 66 iq27 (iqr3 67 (iq182 184) (iqr1 70 iq28 (iqr1 71 iq172 iqE)))) iqN)))))) = true := by decide +kernel
theorem dgX3_second_0 : kRun kT cX3_second.data.toList 0 (List.flatten (iqC (iqr1 0 iq42 (iqr1 1 iq27 (iqr3 2 (iq184 123) (iqr3 5 (iq154 7) (iqr1 8 iq4 (iqr3 9 (iq167 4) (iqr1 12 iq3 (iqr3 13 (iq182 149) (iqr3 16 (iq153 7) (iqr1 19 iq3 iqE)))))))))) (iqC (iqr3 20 (iq167 12) (iqr1 23 iq42 (iqr3 24 (iq180 7) (iqr1 27 iq27 (iqr1 28 iq47 (iqr3 29 (iq184 43) (iqr1 32 iq172 iqE))))))) iqN))) = true := by decide +kernel
theorem dgX3_nano_0 : kRun kT cX3_nano.data.toList 0 (List.flatten (iqC (iqr1 0 iq42 (iqr1 1 iq27 (iqr3 2 (iq184 123) (iqr3 5 (iq154 7) (iqr1 8 iq4 (iqr3 9 (iq167 4) (iqr1 12 iq3 (iqr3 13 (iq182 149) (iqr3 16 (iq153 7) (iqr1 19 iq3 iqE)))))))))) (iqC (iqr3 20 (iq167 12) (iqr1 23 iq42 (iqr3 24 (iq180 7) (iqr1 27 iq27 (iqr1 28 iq47 (iqr3 29 (iq184 188) (iqr1 32 iq172 iqE))))))) iqN))) = true := by decide +kernel
theorem dgX3_areNone_0 : kRun kT cX3_areNone.data.toList 0 (List.flatten (iqC (iqr1 0 iq42 (iqr1 1 iq27 (iqr3 2 (iq184 123) (iqr3 5 (iq153 10) (iqr1 8 iq28 (iqr3 9 (iq184 123) (iqr3 12 (iq154 7) (iqr1 15 iq4 (iqr3 16 (iq167 4) (iqr1 19 iq3 iqE)))))))))) (iqC (iqr3 20 (iq182 149) (iqr1 23 iq172 iqE)) iqN))) = true := by decide +kernel
theorem dgX3_order_0 : kRun kT cX3_order.data.toList 0 (List.flatten (iqC (iqr1 0 iq42 (iqr1 1 iq27 (iqr1 2 iq28 (iqr3 3 (iq182 209) (iqr3 6 (iq153 7) (iqr1 9 iq3 (iqr3 10 (iq167 19) (iqr1 13 iq42 (iqr3 14 (iq180 7) (iqr1 17 iq27 iqE)))))))))) (iqC (iqr1 18 iq47 (iqr1 19 iq42 (iqr3 20 (iq180 7) (iqr1 23 iq28 (iqr1 24 iq47 (iqr1 25 iq101 (iqr3 26 (iq184 146) (iqr1 29 iq172 iqE)))))))) iqN))) = true := by decide +kernel
theorem dgX3_isBefore_0 : kRun kT cX3_isBefore.data.toList 0 (List.flatten (iqC (iqr1 0 iq42 (iqr1 1 iq27 (iqr1 2 iq28 (iqr3 3 (iq182 209) (iqr3 6 (iq154 23) (iqr1 9 iq42 (iqr3 10 (iq180 7) (iqr1 13 iq27 (iqr1 14 iq47 (iqr1 15 iq42 iqE)))))))))) (iqC (iqr3 16 (iq180 7) (iqr1 19 iq28 (iqr1 20 iq47 (iqr1 21 iq148 (iqr3 22 (iq156 7) (iqr1 25 iq4 (iqr3 26 (iq167 4) (iqr1 29 iq3 (iqr1 30 iq172 iqE))))))))) iqN))) = true := by decide +kernel
theorem dgX3_isAfter_0 : kRun kT cX3_isAfter.data.toList 0 (List.flatten (iqC (iqr1 0 iq42 (iqr1 1 iq27 (iqr1 2 iq28 (iqr3 3 (iq182 209) (iqr3 6 (iq154 23) (iqr1 9 iq42 (iqr3 10 (iq180 7) (iqr1 13 iq27 (iqr1 14 iq47 (iqr1 15 iq42 iqE)))))))))) (iqC (iqr3 16 (iq180 7) (iqr1 19 iq28 (iqr1 20 iq47 (iqr1 21 iq148 (iqr3 22 (iq158 7) (iqr1 25 iq4 (iqr3 26 (iq167 4) (iqr1 29 iq3 (iqr1 30 iq172 iqE))))))))) iqN))) = true := by decide +kernel
theorem dgX3_same_0 : kRun kT cX3_same.data.toList 0 (List.flatten (iqC (iqr1 0 iq42 (iqr1 1 iq27 (iqr3 2 (iq184 123) (iqr3 5 (iq153 10) (iqr1 8 iq28 (iqr3 9 (iq184 123) (iqr3 12 (iq154 7) (iqr1 15 iq4 (iqr3 16 (iq167 4) (iqr1 19 iq3 iqE)))))))))) (iqC (iqr1 20 iq29 (iqr3 21 (iq155 8) (iqr1 24 iq29 (iqr1 25 iq5 (iqr3 26 (iq164 7) (iqr1 29 iq4 (iqr3 30 (iq167 4) (iqr1 33 iq3 (iqr3 34 (iq182 113) (iqr3 37 (iq154 28) iqE)))))))))) (iqC (iqr1 40 iq29 (iqr1 41 iq5 (iqr3 42 (iq159 19) (iqr1 45 iq42 (iqr3 46 (iq180 7) (iqr1 49 iq27 (iqr1 50 iq47 (iqr1 51 iq42 (iqr3 52 (iq180 7) (iqr1 55 iq28 iqE)))))))))) (iqC (iqr1 56 iq47 (iqr1 57 iq148 (iqr3 58 (iq154 7) (iqr1 61 iq4 (iqr3 62 (iq167 4) (iqr1 65 iq3 (iqr1 66 iq172 iqE))))))) iqN))))) = true := by decide +kernel
theorem dgX3_half_0 : kRun kT cX3_half.data.toList 0 (List.flatten (iqC (iqr1 0 iq28 (iqr1 1 iq5 (iqr1 2 iq112 (iqr3 3 (iq154 10) (iqr1 6 iq30 (iqr3 7 (iq184 43) (iqr3 10 (iq167 7) (iqr1 13 iq30 (iqr3 14 (iq184 188) (iqr1 17 iq172 iqE)))))))))) iqN)) = true := by decide +kernel
theorem dgX3_apart_0 : kRun kT cX3_apart.data.toList 0 (List.flatten (iqC (iqr1 0 iq42 (iqr1 1 iq27 (iqr3 2 (iq184 123) (iqr3 5 (iq153 10) (iqr1 8 iq28 (iqr3 9 (iq184 123) (iqr3 12 (iq154 7) (iqr1 15 iq4 (iqr3 16 (iq167 4) (iqr1 19 iq3 iqE)))))))))) (iqC (iqr1 20 iq29 (iqr3 21 (iq155 8) (iqr1 24 iq29 (iqr1 25 iq4 (iqr3 26 (iq164 7) (iqr1 29 iq4 (iqr3 30 (iq167 4) (iqr1 33 iq3 (iqr3 34 (iq182 113) (iqr3 37 (iq153 7) iqE)))))))))) (iqC (iqr1 40 iq3 (iqr3 41 (iq167 20) (iqr1 44 iq42 (iqr3 45 (iq180 7) (iqr1 48 iq28 (iqr1 49 iq47 (iqr1 50 iq42 (iqr3 51 (iq180 7) (iqr1 54 iq27 (iqr1 55 iq47 iqE)))))))))) (iqC (iqr1 56 iq101 (iqr1 57 iq29 (iqr3 58 (iq184 212) (iqr1 61 iq172 iqE)))) iqN))))) = true := by decide +kernel
theorem dgX3_calendar_0 : kRun kT cX3_calendar.data.toList 0 (List.flatten (iqC (iqr1 0 iq42 (iqr1 1 iq27 (iqr3 2 (iq155 8) (iqr1 5 iq27 (iqr1 6 iq6 (iqr3 7 (iq164 7) (iqr1 10 iq4 (iqr3 11 (iq167 4) (iqr1 14 iq3 (iqr3 15 (iq182 149) iqE)))))))))) (iqC (iqr3 18 (iq153 7) (iqr1 21 iq3 (iqr3 22 (iq167 23) (iqr1 25 iq27 (iqr1 26 iq5 (iqr3 27 (iq162 10) (iqr1 30 iq42 (iqr3 31 (iq180 53) (iqr3 34 (iq167 7) (iqr1 37 iq42 iqE)))))))))) (iqC (iqr3 38 (iq180 15) (iqr1 41 iq27 (iqr3 42 (iq184 212) (iqr1 45 iq172 iqE)))) iqN)))) = true := by decide +kernel
theorem dgX3_spans_0 : kRun kT cX3_spans.data.toList 0 (List.flatten (iqC (iqr1 0 iq42 (iqr1 1 iq3 (iqr3 2 (iq181 35) (iqr1 5 iq42 (iqr3 6 (iq180 56) (iqr1 9 iq172 iqE)))))) iqN)) = true := by decide +kernel
theorem dgX3_ofSpan_0 : kRun kT cX3_ofSpan.data.toList 0 (List.flatten (iqC (iqr1 0 iq42 (iqr1 1 iq42 (iqr1 2 iq27 (iqr3 3 (iq182 168) (iqr3 6 (iq154 7) (iqr1 9 iq4 (iqr3 10 (iq167 4) (iqr1 13 iq3 (iqr1 14 iq28 (iqr3 15 (iq155 8) iqE)))))))))) (iqC (iqr1 18 iq28 (iqr1 19 iq7 (iqr3 20 (iq164 7) (iqr1 23 iq4 (iqr3 24 (iq167 4) (iqr1 27 iq3 (iqr3 28 (iq182 113) (iqr3 31 (iq153 5) (iqr1 34 iq3 (iqr1 35 iq172 iqE)))))))))) (iqC (iqr1 36 iq28 (iqr1 37 iq7 (iqr3 38 (iq160 20) (iqr1 41 iq42 (iqr3 42 (iq180 25) (iqr1 45 iq27 (iqr1 46 iq51 (iqr3 47 (iq153 7) (iqr1 50 iq4 (iqr3 51 (iq167 31) iqE)))))))))) (iqC (iqr1 54 iq3 (iqr3 55 (iq167 27) (iqr1 58 iq28 (iqr1 59 iq5 (iqr3 60 (iq162 12) (iqr1 63 iq42 (iqr3 64 (iq180 19) (iqr1 67 iq27 (iqr1 68 iq47 (iqr3 69 (iq167 9) iqE)))))))))) (iqC (iqr1 72 iq42 (iqr3 73 (iq180 22) (iqr1 76 iq27 (iqr1 77 iq47 (iqr1 78 iq28 (iqr3 79 (iq184 212) (iqr1 82 iq172 iqE))))))) iqN)))))) = true := by decide +kernel
theorem dgX3_meets_0 : kRun kT cX3_meets.data.toList 0 (List.flatten (iqC (iqr1 0 iq42 (iqr1 1 iq42 (iqr1 2 iq27 (iqr3 3 (iq182 168) (iqr3 6 (iq153 11) (iqr1 9 iq42 (iqr1 10 iq28 (iqr3 11 (iq182 168) (iqr3 14 (iq154 7) (iqr1 17 iq4 iqE)))))))))) (iqC (iqr3 18 (iq167 4) (iqr1 21 iq3 (iqr3 22 (iq182 149) (iqr3 25 (iq154 37) (iqr1 28 iq42 (iqr3 29 (iq180 19) (iqr1 32 iq27 (iqr1 33 iq47 (iqr1 34 iq42 (iqr3 35 (iq180 22) iqE)))))))))) (iqC (iqr1 38 iq27 (iqr1 39 iq47 (iqr1 40 iq42 (iqr3 41 (iq180 19) (iqr1 44 iq28 (iqr1 45 iq47 (iqr1 46 iq42 (iqr3 47 (iq180 22) (iqr1 50 iq28 (iqr1 51 iq47 iqE)))))))))) (iqC (iqr3 52 (iq184 59) (iqr3 55 (iq153 7) (iqr1 58 iq4 (iqr3 59 (iq167 4) (iqr1 62 iq3 (iqr1 63 iq172 iqE)))))) iqN))))) = true := by decide +kernel
theorem dgX3_clashes_0 : kRun kT cX3_clashes.data.toList 0 (List.flatten (iqC (iqr1 0 iq42 (iqr1 1 iq3 (iqr3 2 (iq181 35) (iqr1 5 iq3 (iqr1 6 iq60 (iqr1 7 iq3 (iqr1 8 iq61 (iqr1 9 iq28 (iqr1 10 iq42 (iqr3 11 (iq180 56) iqE)))))))))) (iqC (iqr3 14 (iq162 60) (iqr1 17 iq3 (iqr1 18 iq62 (iqr1 19 iq29 (iqr1 20 iq28 (iqr3 21 (iq162 47) (iqr1 24 iq27 (iqr1 25 iq42 (iqr3 26 (iq180 19) (iqr1 29 iq28 iqE)))))))))) (iqC (iqr1 30 iq47 (iqr1 31 iq42 (iqr3 32 (iq180 22) (iqr1 35 iq28 (iqr1 36 iq47 (iqr1 37 iq42 (iqr3 38 (iq180 19) (iqr1 41 iq29 (iqr1 42 iq47 (iqr1 43 iq42 iqE)))))))))) (iqC (iqr3 44 (iq180 22) (iqr1 47 iq29 (iqr1 48 iq47 (iqr3 49 (iq184 59) (iqr3 52 (iq153 7) (iqr1 55 iq4 (iqr3 56 (iq167 4) (iqr1 59 iq3 (iqr1 60 iq96 (iqr1 61 iq60 iqE)))))))))) (iqC (iqr3 62 (iq132 3 1) (iqr3 65 (iq167 (-46)) (iqr3 68 (iq132 2 1) (iqr3 71 (iq167 (-62)) (iqr1 74 iq27 (iqr1 75 iq172 iqE)))))) iqN)))))) = true := by decide +kernel
theorem dgX3_at_0 : kRun kT cX3_at.data.toList 0 (List.flatten (iqC (iqr1 0 iq42 (iqr1 1 iq27 (iqr3 2 (iq184 123) (iqr3 5 (iq154 7) (iqr1 8 iq4 (iqr3 9 (iq167 4) (iqr1 12 iq3 (iqr3 13 (iq182 149) (iqr3 16 (iq153 7) (iqr1 19 iq3 iqE)))))))))) (iqC (iqr3 20 (iq167 13) (iqr1 23 iq42 (iqr1 24 iq42 (iqr3 25 (iq180 7) (iqr1 28 iq27 (iqr1 29 iq47 (iqr3 30 (iq182 63) (iqr1 33 iq172 iqE)))))))) iqN))) = true := by decide +kernel
theorem dgX3_deepest__0 : kRun kT cX3_deepest_.data.toList 0 (List.flatten (iqC (iqr1 0 iq42 (iqr1 1 iq3 (iqr3 2 (iq181 35) (iqr1 5 iq42 (iqr3 6 (iq180 19) (iqr1 9 iq42 (iqr3 10 (iq180 22) (iqr1 13 iq42 (iqr3 14 (iq180 56) (iqr3 17 (iq184 216) iqE)))))))))) (iqC (iqr1 20 iq172 iqE) iqN))) = true := by decide +kernel
theorem dgX3_isFree_0 : kRun kT cX3_isFree.data.toList 0 (List.flatten (iqC (iqr1 0 iq42 (iqr1 1 iq27 (iqr1 2 iq28 (iqr3 3 (iq182 209) (iqr3 6 (iq154 49) (iqr1 9 iq42 (iqr3 10 (iq180 7) (iqr1 13 iq27 (iqr1 14 iq47 (iqr1 15 iq42 iqE)))))))))) (iqC (iqr3 16 (iq180 7) (iqr1 19 iq28 (iqr1 20 iq47 (iqr1 21 iq148 (iqr3 22 (iq156 33) (iqr1 25 iq42 (iqr1 26 iq42 (iqr3 27 (iq180 7) (iqr1 30 iq27 (iqr1 31 iq47 iqE)))))))))) (iqC (iqr1 32 iq42 (iqr3 33 (iq180 7) (iqr1 36 iq28 (iqr1 37 iq47 (iqr1 38 iq42 (iqr3 39 (iq180 7) (iqr1 42 iq27 (iqr1 43 iq47 (iqr1 44 iq101 (iqr3 45 (iq182 178) iqE)))))))))) (iqC (iqr3 48 (iq153 7) (iqr1 51 iq4 (iqr3 52 (iq167 4) (iqr1 55 iq3 (iqr1 56 iq172 iqE))))) iqN))))) = true := by decide +kernel
theorem dgX3_frees_0 : kRun kT cX3_frees.data.toList 0 (List.flatten (iqC (iqr1 0 iq42 (iqr1 1 iq3 (iqr3 2 (iq181 35) (iqr1 5 iq42 (iqr3 6 (iq182 66) (iqr3 9 (iq184 70) (iqr1 12 iq172 iqE))))))) iqN)) = true := by decide +kernel
theorem dgX3_ofFree_0 : kRun kT cX3_ofFree.data.toList 0 (List.flatten (iqC (iqr1 0 iq42 (iqr3 1 (iq182 66) (iqr1 4 iq78 (iqr1 5 iq42 (iqr1 6 iq27 (iqr3 7 (iq155 11) (iqr1 10 iq27 (iqr1 11 iq45 (iqr3 12 (iq184 70) (iqr3 15 (iq161 7) iqE)))))))))) (iqC (iqr1 18 iq4 (iqr3 19 (iq167 4) (iqr1 22 iq3 (iqr1 23 iq28 (iqr3 24 (iq155 8) (iqr1 27 iq28 (iqr1 28 iq6 (iqr3 29 (iq164 7) (iqr1 32 iq4 (iqr3 33 (iq167 4) iqE)))))))))) (iqC (iqr1 36 iq3 (iqr3 37 (iq182 113) (iqr3 40 (iq153 5) (iqr1 43 iq3 (iqr1 44 iq172 (iqr1 45 iq45 (iqr1 46 iq5 (iqr1 47 iq27 (iqr1 48 iq104 (iqr1 49 iq28 iqE)))))))))) (iqC (iqr1 50 iq5 (iqr1 51 iq108 (iqr1 52 iq96 (iqr1 53 iq47 (iqr1 54 iq28 (iqr3 55 (iq184 212) (iqr1 58 iq172 iqE))))))) iqN))))) = true := by decide +kernel
theorem dgX3_freeAt_0 : kRun kT cX3_freeAt.data.toList 0 (List.flatten (iqC (iqr1 0 iq42 (iqr1 1 iq27 (iqr3 2 (iq184 123) (iqr3 5 (iq154 7) (iqr1 8 iq4 (iqr3 9 (iq167 4) (iqr1 12 iq3 (iqr3 13 (iq182 149) (iqr3 16 (iq153 5) (iqr1 19 iq3 iqE)))))))))) (iqC (iqr1 20 iq172 (iqr1 21 iq42 (iqr3 22 (iq182 66) (iqr1 25 iq77 (iqr1 26 iq3 (iqr1 27 iq62 (iqr1 28 iq29 (iqr1 29 iq44 (iqr3 30 (iq184 70) (iqr3 33 (iq162 43) iqE)))))))))) (iqC (iqr1 36 iq44 (iqr1 37 iq5 (iqr1 38 iq29 (iqr1 39 iq104 (iqr1 40 iq47 (iqr1 41 iq42 (iqr3 42 (iq180 7) (iqr1 45 iq27 (iqr1 46 iq47 (iqr1 47 iq148 iqE)))))))))) (iqC (iqr3 48 (iq157 22) (iqr1 51 iq42 (iqr3 52 (iq180 7) (iqr1 55 iq27 (iqr1 56 iq47 (iqr1 57 iq44 (iqr1 58 iq5 (iqr1 59 iq29 (iqr1 60 iq104 (iqr1 61 iq4 iqE)))))))))) (iqC (iqr1 62 iq96 (iqr1 63 iq47 (iqr1 64 iq148 (iqr3 65 (iq156 5) (iqr1 68 iq29 (iqr1 69 iq172 (iqr3 70 (iq132 3 1) (iqr3 73 (iq167 (-45)) (iqr1 76 iq2 (iqr1 77 iq172 iqE)))))))))) iqN)))))) = true := by decide +kernel
theorem dgX3_length_0 : kRun kT cX3_length.data.toList 0 (List.flatten (iqC (iqr1 0 iq42 (iqr1 1 iq27 (iqr3 2 (iq155 8) (iqr1 5 iq27 (iqr1 6 iq8 (iqr3 7 (iq164 7) (iqr1 10 iq4 (iqr3 11 (iq167 4) (iqr1 14 iq3 (iqr3 15 (iq182 149) iqE)))))))))) (iqC (iqr3 18 (iq153 5) (iqr1 21 iq3 (iqr1 22 iq172 (iqr1 23 iq27 (iqr1 24 iq5 (iqr3 25 (iq162 10) (iqr1 28 iq42 (iqr3 29 (iq182 220) (iqr3 32 (iq167 24) (iqr1 35 iq27 iqE)))))))))) (iqC (iqr1 36 iq7 (iqr3 37 (iq162 10) (iqr1 40 iq42 (iqr3 41 (iq182 224) (iqr3 44 (iq167 12) (iqr1 47 iq42 (iqr3 48 (iq180 15) (iqr1 51 iq42 (iqr3 52 (iq180 53) (iqr1 55 iq101 iqE)))))))))) (iqC (iqr1 56 iq27 (iqr3 57 (iq184 212) (iqr1 60 iq172 iqE))) iqN))))) = true := by decide +kernel
theorem dgX3_wishes_0 : kRun kT cX3_wishes.data.toList 0 (List.flatten (iqC (iqr1 0 iq42 (iqr1 1 iq3 (iqr3 2 (iq181 35) (iqr1 5 iq42 (iqr3 6 (iq180 88) (iqr1 9 iq172 iqE)))))) iqN)) = true := by decide +kernel
theorem dgX3_ofWish_0 : kRun kT cX3_ofWish.data.toList 0 (List.flatten (iqC (iqr1 0 iq42 (iqr1 1 iq42 (iqr1 2 iq27 (iqr3 3 (iq182 181) (iqr3 6 (iq154 7) (iqr1 9 iq4 (iqr3 10 (iq167 4) (iqr1 13 iq3 (iqr1 14 iq28 (iqr3 15 (iq155 8) iqE)))))))))) (iqC (iqr1 18 iq28 (iqr1 19 iq6 (iqr3 20 (iq164 7) (iqr1 23 iq4 (iqr3 24 (iq167 4) (iqr1 27 iq3 (iqr3 28 (iq182 113) (iqr3 31 (iq153 7) (iqr1 34 iq3 (iqr3 35 (iq167 27) iqE)))))))))) (iqC (iqr1 38 iq28 (iqr1 39 iq5 (iqr3 40 (iq162 12) (iqr1 43 iq42 (iqr3 44 (iq180 29) (iqr1 47 iq27 (iqr1 48 iq47 (iqr3 49 (iq167 9) (iqr1 52 iq42 (iqr3 53 (iq180 32) iqE)))))))))) (iqC (iqr1 56 iq27 (iqr1 57 iq47 (iqr1 58 iq28 (iqr3 59 (iq184 212) (iqr1 62 iq172 iqE))))) iqN))))) = true := by decide +kernel
theorem dgX3_isApart_0 : kRun kT cX3_isApart.data.toList 0 (List.flatten (iqC (iqr1 0 iq42 (iqr1 1 iq27 (iqr3 2 (iq155 12) (iqr1 5 iq27 (iqr1 6 iq42 (iqr3 7 (iq180 88) (iqr1 10 iq122 (iqr3 11 (iq158 7) (iqr1 14 iq4 (iqr3 15 (iq167 4) iqE)))))))))) (iqC (iqr1 18 iq3 (iqr3 19 (iq182 149) (iqr3 22 (iq154 15) (iqr1 25 iq42 (iqr1 26 iq27 (iqr3 27 (iq182 95) (iqr3 30 (iq153 7) (iqr1 33 iq4 (iqr3 34 (iq167 4) (iqr1 37 iq3 iqE)))))))))) (iqC (iqr1 38 iq172 iqE) iqN)))) = true := by decide +kernel
theorem dgX3_chosen_0 : kRun kT cX3_chosen.data.toList 0 (List.flatten (iqC (iqr1 0 iq42 (iqr1 1 iq3 (iqr3 2 (iq181 35) (iqr1 5 iq42 (iqr3 6 (iq182 227) (iqr1 9 iq172 iqE)))))) iqN)) = true := by decide +kernel
theorem dgX3_most_0 : kRun kT cX3_most.data.toList 0 (List.flatten (iqC (iqr1 0 iq42 (iqr1 1 iq27 (iqr3 2 (iq155 8) (iqr1 5 iq27 (iqr1 6 iq4 (iqr3 7 (iq164 7) (iqr1 10 iq4 (iqr3 11 (iq167 4) (iqr1 14 iq3 (iqr3 15 (iq182 149) iqE)))))))))) (iqC (iqr3 18 (iq153 7) (iqr1 21 iq3 (iqr3 22 (iq167 21) (iqr1 25 iq27 (iqr3 26 (iq154 13) (iqr1 29 iq42 (iqr3 30 (iq182 227) (iqr3 33 (iq184 99) (iqr3 36 (iq167 7) (iqr1 39 iq42 iqE)))))))))) (iqC (iqr3 40 (iq182 230) (iqr1 43 iq172 iqE)) iqN)))) = true := by decide +kernel
theorem dgX3_crowd_0 : kRun kT cX3_crowd.data.toList 0 (List.flatten (iqC (iqr1 0 iq42 (iqr1 1 iq3 (iqr3 2 (iq181 35) (iqr1 5 iq42 (iqr3 6 (iq180 29) (iqr1 9 iq42 (iqr3 10 (iq180 32) (iqr1 13 iq42 (iqr3 14 (iq180 88) (iqr3 17 (iq184 216) iqE)))))))))) (iqC (iqr1 20 iq172 iqE) iqN))) = true := by decide +kernel
theorem dgX3_room_0 : kRun kT cX3_room.data.toList 0 (List.flatten (iqC (iqr1 0 iq42 (iqr1 1 iq42 (iqr1 2 iq27 (iqr3 3 (iq182 181) (iqr3 6 (iq154 7) (iqr1 9 iq4 (iqr3 10 (iq167 4) (iqr1 13 iq3 (iqr3 14 (iq182 149) (iqr3 17 (iq153 7) iqE)))))))))) (iqC (iqr1 20 iq3 (iqr3 21 (iq167 9) (iqr1 24 iq42 (iqr3 25 (iq182 107) (iqr1 28 iq27 (iqr1 29 iq46 (iqr1 30 iq172 iqE))))))) iqN))) = true := by decide +kernel
theorem dgX3_rooms_0 : kRun kT cX3_rooms.data.toList 0 (List.flatten (iqC (iqr1 0 iq42 (iqr1 1 iq3 (iqr3 2 (iq181 35) (iqr1 5 iq42 (iqr3 6 (iq182 233) (iqr1 9 iq172 iqE)))))) iqN)) = true := by decide +kernel
theorem dgX3_house_0 : kRun kT cX3_house.data.toList 0 (List.flatten (iqC (iqr1 0 iq42 (iqr1 1 iq27 (iqr3 2 (iq155 8) (iqr1 5 iq27 (iqr1 6 iq5 (iqr3 7 (iq164 7) (iqr1 10 iq4 (iqr3 11 (iq167 4) (iqr1 14 iq3 (iqr3 15 (iq182 149) iqE)))))))))) (iqC (iqr3 18 (iq153 7) (iqr1 21 iq3 (iqr3 22 (iq167 30) (iqr1 25 iq27 (iqr3 26 (iq154 10) (iqr1 29 iq42 (iqr3 30 (iq180 117) (iqr3 33 (iq167 19) (iqr1 36 iq27 (iqr1 37 iq4 iqE)))))))))) (iqC (iqr3 38 (iq160 10) (iqr1 41 iq42 (iqr3 42 (iq180 120) (iqr3 45 (iq167 7) (iqr1 48 iq42 (iqr3 49 (iq180 236) (iqr1 52 iq172 iqE))))))) iqN)))) = true := by decide +kernel
theorem dgX3_knock_0 : kRun kT cX3_knock.data.toList 0 (List.flatten (iqC (iqr1 0 iq42 (iqr1 1 iq3 (iqr3 2 (iq181 35) (iqr1 5 iq42 (iqr1 6 iq89 (iqr3 7 (iq180 236) (iqr1 10 iq4 (iqr1 11 iq96 (iqr3 12 (iq181 236) (iqr1 15 iq42 iqE)))))))))) (iqC (iqr3 16 (iq180 236) (iqr1 19 iq172 iqE)) iqN))) = true := by decide +kernel
theorem dgX3_areSpans_0 : kRun kT cX3_areSpans.data.toList 0 (List.flatten (iqC (iqr1 0 iq3 (iqr1 1 iq60 (iqr1 2 iq27 (iqr1 3 iq42 (iqr3 4 (iq180 56) (iqr3 7 (iq162 93) (iqr1 10 iq42 (iqr1 11 iq42 (iqr3 12 (iq180 19) (iqr1 15 iq27 iqE)))))))))) (iqC (iqr1 16 iq47 (iqr1 17 iq42 (iqr3 18 (iq180 22) (iqr1 21 iq27 (iqr1 22 iq47 (iqr3 23 (iq182 80) (iqr3 26 (iq154 5) (iqr1 29 iq3 (iqr1 30 iq172 (iqr1 31 iq3 iqE)))))))))) (iqC (iqr1 32 iq61 (iqr1 33 iq28 (iqr1 34 iq27 (iqr3 35 (iq162 59) (iqr1 38 iq42 (iqr3 39 (iq180 19) (iqr1 42 iq27 (iqr1 43 iq47 (iqr1 44 iq42 (iqr3 45 (iq180 22) iqE)))))))))) (iqC (iqr1 48 iq27 (iqr1 49 iq47 (iqr1 50 iq42 (iqr3 51 (iq180 19) (iqr1 54 iq28 (iqr1 55 iq47 (iqr1 56 iq42 (iqr3 57 (iq180 22) (iqr1 60 iq28 (iqr1 61 iq47 iqE)))))))))) (iqC (iqr3 62 (iq184 59) (iqr3 65 (iq153 23) (iqr1 68 iq42 (iqr3 69 (iq180 25) (iqr1 72 iq27 (iqr1 73 iq51 (iqr3 74 (iq154 14) (iqr1 77 iq42 (iqr3 78 (iq180 25) (iqr1 81 iq28 iqE)))))))))) (iqC (iqr1 82 iq51 (iqr3 83 (iq154 5) (iqr1 86 iq3 (iqr1 87 iq172 (iqr3 88 (iq132 2 1) (iqr3 91 (iq167 (-58)) (iqr3 94 (iq132 1 1) (iqr3 97 (iq167 (-95)) (iqr1 100 iq42 (iqr3 101 (iq182 66) iqE)))))))))) (iqC (iqr1 104 iq76 (iqr1 105 iq3 (iqr1 106 iq61 (iqr1 107 iq28 (iqr1 108 iq43 (iqr3 109 (iq184 70) (iqr3 112 (iq162 31) (iqr1 115 iq42 (iqr1 116 iq43 (iqr1 117 iq5 iqE)))))))))) (iqC (iqr1 118 iq28 (iqr1 119 iq104 (iqr1 120 iq47 (iqr1 121 iq43 (iqr1 122 iq5 (iqr1 123 iq28 (iqr1 124 iq104 (iqr1 125 iq4 (iqr1 126 iq96 (iqr1 127 iq47 iqE)))))))))) (iqC (iqr1 128 iq2 (iqr3 129 (iq182 84) (iqr3 132 (iq153 5) (iqr1 135 iq3 (iqr1 136 iq172 (iqr3 137 (iq132 2 1) (iqr3 140 (iq167 (-33)) (iqr1 143 iq4 (iqr1 144 iq172 iqE))))))))) iqN)))))))))) = true := by decide +kernel
theorem dgX3_isSound_0 : kRun kT cX3_isSound.data.toList 0 (List.flatten (iqC (iqr1 0 iq42 (iqr1 1 iq3 (iqr3 2 (iq181 35) (iqr1 5 iq42 (iqr3 6 (iq182 227) (iqr1 9 iq60 (iqr1 10 iq42 (iqr3 11 (iq180 53) (iqr1 14 iq42 (iqr3 15 (iq180 15) iqE)))))))))) (iqC (iqr1 18 iq148 (iqr3 19 (iq156 77) (iqr1 22 iq42 (iqr3 23 (iq182 239) (iqr3 26 (iq153 70) (iqr1 29 iq42 (iqr3 30 (iq182 220) (iqr1 33 iq42 (iqr3 34 (iq182 224) (iqr1 37 iq97 iqE)))))))))) (iqC (iqr1 38 iq42 (iqr3 39 (iq180 15) (iqr1 42 iq42 (iqr3 43 (iq180 53) (iqr1 46 iq101 (iqr1 47 iq148 (iqr3 48 (iq154 48) (iqr1 51 iq42 (iqr1 52 iq27 (iqr3 53 (iq182 95) iqE)))))))))) (iqC (iqr3 56 (iq153 40) (iqr1 59 iq27 (iqr3 60 (iq184 99) (iqr1 63 iq42 (iqr3 64 (iq182 230) (iqr3 67 (iq160 29) (iqr1 70 iq42 (iqr3 71 (iq182 233) (iqr1 74 iq42 (iqr3 75 (iq180 29) iqE)))))))))) (iqC (iqr1 78 iq42 (iqr3 79 (iq180 32) (iqr1 82 iq42 (iqr3 83 (iq180 88) (iqr3 86 (iq184 216) (iqr3 89 (iq160 7) (iqr1 92 iq4 (iqr3 93 (iq167 4) (iqr1 96 iq3 (iqr1 97 iq172 iqE)))))))))) iqN)))))) = true := by decide +kernel
theorem dgX3_added_0 : kRun kT cX3_added.data.toList 0 (List.flatten (iqC (iqr1 0 iq31 (iqr3 1 (iq20 243) (iqr1 4 iq105 (iqr1 5 iq45 (iqr2 6 (iq21 5) (iqr1 8 iq47 (iqr3 9 (iq184 43) (iqr1 12 iq133 (iqr1 13 iq97 (iqr3 14 (iq20 243) iqE)))))))))) (iqC (iqr1 17 iq105 (iqr1 18 iq45 (iqr2 19 (iq21 5) (iqr1 21 iq47 (iqr3 22 (iq184 188) (iqr1 25 iq133 (iqr1 26 iq97 (iqr2 27 (iq55 6) (iqr2 29 (iq22 6) (iqr3 31 (iq20 243) iqE)))))))))) (iqC (iqr1 34 iq105 (iqr2 35 (iq25 4) (iqr2 37 (iq21 5) (iqr1 39 iq47 (iqr3 40 (iq184 43) (iqr1 43 iq133 (iqr1 44 iq97 (iqr3 45 (iq20 243) (iqr1 48 iq105 (iqr2 49 (iq25 4) iqE)))))))))) (iqC (iqr2 51 (iq21 5) (iqr1 53 iq47 (iqr3 54 (iq184 188) (iqr1 57 iq133 (iqr1 58 iq97 (iqr1 59 iq173 iqE)))))) iqN))))) = true := by decide +kernel
theorem dgX3_digest_0 : kRun kT cX3_digest.data.toList 0 (List.flatten (iqC (iqr3 0 (iq20 245) (iqr1 3 iq64 (iqr1 4 iq3 (iqr1 5 iq62 (iqr1 6 iq29 (iqr1 7 iq7 (iqr3 8 (iq162 57) (iqr1 11 iq31 (iqr3 12 (iq20 243) (iqr1 15 iq105 iqE)))))))))) (iqC (iqr1 16 iq42 (iqr1 17 iq29 (iqr3 18 (iq182 247) (iqr1 21 iq133 (iqr1 22 iq97 (iqr3 23 (iq20 243) (iqr1 26 iq105 (iqr1 27 iq42 (iqr1 28 iq29 (iqr3 29 (iq182 250) iqE)))))))))) (iqC (iqr1 32 iq133 (iqr1 33 iq97 (iqr1 34 iq64 (iqr1 35 iq31 (iqr3 36 (iq20 243) (iqr1 39 iq105 (iqr1 40 iq42 (iqr1 41 iq29 (iqr3 42 (iq182 253) (iqr1 45 iq133 iqE)))))))))) (iqC (iqr1 46 iq97 (iqr3 47 (iq20 243) (iqr1 50 iq105 (iqr1 51 iq42 (iqr1 52 iq29 (iqr3 53 (iq182 256) (iqr1 56 iq133 (iqr1 57 iq97 (iqr1 58 iq64 (iqr3 59 (iq132 3 1) iqE)))))))))) (iqC (iqr3 62 (iq167 (-56)) (iqr1 65 iq3 (iqr1 66 iq62 (iqr1 67 iq29 (iqr1 68 iq7 (iqr3 69 (iq162 22) (iqr1 72 iq31 (iqr3 73 (iq20 243) (iqr1 76 iq105 (iqr1 77 iq42 iqE)))))))))) (iqC (iqr1 78 iq29 (iqr3 79 (iq182 259) (iqr1 82 iq133 (iqr1 83 iq97 (iqr1 84 iq64 (iqr3 85 (iq132 3 1) (iqr3 88 (iq167 (-21)) (iqr1 91 iq31 (iqr3 92 (iq20 243) (iqr1 95 iq105 iqE)))))))))) (iqC (iqr1 96 iq42 (iqr3 97 (iq180 56) (iqr1 100 iq133 (iqr1 101 iq97 (iqr1 102 iq64 (iqr1 103 iq3 (iqr1 104 iq62 (iqr1 105 iq29 (iqr1 106 iq42 (iqr3 107 (iq180 56) iqE)))))))))) (iqC (iqr3 110 (iq162 44) (iqr1 113 iq42 (iqr1 114 iq31 (iqr1 115 iq42 (iqr3 116 (iq180 19) (iqr1 119 iq42 (iqr3 120 (iq180 22) (iqr1 123 iq29 (iqr3 124 (iq182 262) (iqr3 127 (iq20 243) iqE)))))))))) (iqC (iqr1 130 iq105 (iqr1 131 iq42 (iqr3 132 (iq180 25) (iqr1 135 iq29 (iqr1 136 iq51 (iqr3 137 (iq153 7) (iqr1 140 iq4 (iqr3 141 (iq167 4) (iqr1 144 iq3 (iqr1 145 iq133 iqE)))))))))) (iqC (iqr1 146 iq97 (iqr1 147 iq64 (iqr3 148 (iq132 3 1) (iqr3 151 (iq167 (-46)) (iqr1 154 iq31 (iqr3 155 (iq20 243) (iqr1 158 iq105 (iqr1 159 iq42 (iqr3 160 (iq182 266) (iqr1 163 iq133 iqE)))))))))) iqN))))))))))) = true := by decide +kernel
theorem dgX3_digest_164 : kRun kT cX3_digest.data.toList 0 (List.flatten (iqC (iqr1 164 iq97 (iqr3 165 (iq20 243) (iqr1 168 iq105 (iqr1 169 iq42 (iqr3 170 (iq182 269) (iqr1 173 iq133 (iqr1 174 iq97 (iqr3 175 (iq20 243) (iqr1 178 iq105 (iqr1 179 iq42 iqE)))))))))) (iqC (iqr3 180 (iq182 271) (iqr1 183 iq133 (iqr1 184 iq97 (iqr1 185 iq64 (iqr1 186 iq3 (iqr1 187 iq62 (iqr1 188 iq29 (iqr1 189 iq42 (iqr3 190 (iq182 271) (iqr3 193 (iq162 39) iqE)))))))))) (iqC (iqr1 196 iq3 (iqr2 197 (iq54 4) (iqr2 199 (iq21 4) (iqr1 201 iq7 (iqr3 202 (iq162 24) (iqr1 205 iq31 (iqr3 206 (iq20 243) (iqr1 209 iq105 (iqr1 210 iq42 (iqr1 211 iq29 iqE)))))))))) (iqC (iqr2 212 (iq21 4) (iqr3 214 (iq182 274) (iqr1 217 iq133 (iqr1 218 iq97 (iqr1 219 iq64 (iqr3 220 (iq132 4 1) (iqr3 223 (iq167 (-24)) (iqr3 226 (iq132 3 1) (iqr3 229 (iq167 (-41)) (iqr1 232 iq3 iqE)))))))))) (iqC (iqr1 233 iq62 (iqr1 234 iq29 (iqr2 235 (iq16 6) (iqr3 237 (iq162 22) (iqr1 240 iq31 (iqr3 241 (iq20 243) (iqr1 244 iq105 (iqr1 245 iq42 (iqr1 246 iq29 (iqr3 247 (iq182 277) iqE)))))))))) (iqC (iqr1 250 iq133 (iqr1 251 iq97 (iqr1 252 iq64 (iqr3 253 (iq132 3 1) (iqr3 256 (iq167 (-22)) (iqr1 259 iq31 (iqr3 260 (iq20 243) (iqr1 263 iq105 (iqr1 264 iq42 (iqr3 265 (iq180 88) iqE)))))))))) (iqC (iqr1 268 iq133 (iqr1 269 iq97 (iqr1 270 iq64 (iqr1 271 iq42 (iqr3 272 (iq182 107) (iqr1 275 iq78 (iqr1 276 iq3 (iqr2 277 (iq54 4) (iqr2 279 (iq21 4) (iqr1 281 iq42 iqE)))))))))) (iqC (iqr3 282 (iq180 88) (iqr3 285 (iq162 35) (iqr1 288 iq42 (iqr1 289 iq31 (iqr1 290 iq42 (iqr3 291 (iq180 29) (iqr1 294 iq42 (iqr3 295 (iq180 32) (iqr2 298 (iq21 4) (iqr3 300 (iq182 262) iqE)))))))))) (iqC (iqr3 303 (iq20 243) (iqr1 306 iq105 (iqr1 307 iq45 (iqr2 308 (iq21 4) (iqr1 310 iq46 (iqr1 311 iq133 (iqr1 312 iq97 (iqr1 313 iq64 (iqr3 314 (iq132 4 1) (iqr3 317 (iq167 (-38)) iqE)))))))))) (iqC (iqr1 320 iq31 (iqr3 321 (iq20 243) (iqr1 324 iq105 (iqr1 325 iq42 (iqr3 326 (iq182 227) (iqr1 329 iq133 (iqr1 330 iq97 (iqr3 331 (iq20 243) (iqr1 334 iq105 (iqr1 335 iq42 iqE)))))))))) iqN))))))))))) = true := by decide +kernel
theorem dgX3_digest_336 : kRun kT cX3_digest.data.toList 0 (List.flatten (iqC (iqr3 336 (iq182 230) (iqr1 339 iq133 (iqr1 340 iq97 (iqr3 341 (iq20 243) (iqr1 344 iq105 (iqr1 345 iq42 (iqr3 346 (iq182 280) (iqr1 349 iq133 (iqr1 350 iq97 (iqr1 351 iq64 iqE)))))))))) (iqC (iqr1 352 iq3 (iqr2 353 (iq54 4) (iqr2 355 (iq21 4) (iqr1 357 iq6 (iqr3 358 (iq162 23) (iqr1 361 iq31 (iqr3 362 (iq20 243) (iqr1 365 iq105 (iqr1 366 iq42 (iqr2 367 (iq21 4) iqE)))))))))) (iqC (iqr3 369 (iq182 283) (iqr1 372 iq133 (iqr1 373 iq97 (iqr1 374 iq64 (iqr3 375 (iq132 4 1) (iqr3 378 (iq167 (-23)) (iqr1 381 iq31 (iqr3 382 (iq20 243) (iqr1 385 iq105 (iqr1 386 iq42 iqE)))))))))) (iqC (iqr3 387 (iq182 286) (iqr3 390 (iq153 7) (iqr1 393 iq4 (iqr3 394 (iq167 4) (iqr1 397 iq3 (iqr1 398 iq133 (iqr1 399 iq97 (iqr1 400 iq64 (iqr1 401 iq42 (iqr1 402 iq3 iqE)))))))))) (iqC (iqr3 403 (iq181 35) (iqr1 406 iq31 (iqr1 407 iq173 iqE))) iqN)))))) = true := by decide +kernel
theorem dgX3_text_0 : kRun kT cX3_text.data.toList 0 (List.flatten (iqC (iqr1 0 iq42 (iqr1 1 iq27 (iqr3 2 (iq184 123) (iqr3 5 (iq154 7) (iqr1 8 iq4 (iqr3 9 (iq167 4) (iqr1 12 iq3 (iqr3 13 (iq182 149) (iqr3 16 (iq153 8) (iqr2 19 (iq18 191) iqE)))))))))) (iqC (iqr3 21 (iq167 42) (iqr3 24 (iq187 193) (iqr1 27 iq89 (iqr3 28 (iq183 195) (iqr1 31 iq42 (iqr3 32 (iq180 7) (iqr1 35 iq27 (iqr1 36 iq47 (iqr3 37 (iq184 43) (iqr3 40 (iq182 196) iqE)))))))))) (iqC (iqr2 43 (iq18 200) (iqr3 45 (iq182 202) (iqr1 48 iq42 (iqr3 49 (iq180 7) (iqr1 52 iq27 (iqr1 53 iq47 (iqr3 54 (iq184 188) (iqr3 57 (iq182 196) (iqr3 60 (iq182 205) (iqr1 63 iq176 iqE)))))))))) iqN)))) = true := by decide +kernel
theorem dgX3_init_0 : kRun kT cX3_init.data.toList 0 (List.flatten (iqC (iqr1 0 iq42 (iqr3 1 (iq183 1) (iqr1 4 iq42 (iqr1 5 iq7 iqE)))) iqN)) = true := by decide +kernel
theorem dX3_init_6 : decode cX3_init 6 = .ok (.newarray .long, 2) := by decide +kernel
theorem dgX3_init_8 : kRun kT cX3_init.data.toList 0 (List.flatten (iqC (iqr3 8 (iq181 7) (iqr1 11 iq42 (iqr3 12 (iq20 13) (iqr3 15 (iq181 15) (iqr1 18 iq42 (iqr2 19 (iq16 10) iqE)))))) iqN)) = true := by decide +kernel
theorem dX3_init_21 : decode cX3_init 21 = .ok (.newarray .long, 2) := by decide +kernel
theorem dgX3_init_23 : kRun kT cX3_init.data.toList 0 (List.flatten (iqC (iqr3 23 (iq181 19) (iqr1 26 iq42 (iqr2 27 (iq16 10) iqE))) iqN)) = true := by decide +kernel
theorem dX3_init_29 : decode cX3_init 29 = .ok (.newarray .long, 2) := by decide +kernel
theorem dgX3_init_31 : kRun kT cX3_init.data.toList 0 (List.flatten (iqC (iqr3 31 (iq181 22) (iqr1 34 iq42 (iqr2 35 (iq16 10) iqE))) iqN)) = true := by decide +kernel
theorem dX3_init_37 : decode cX3_init 37 = .ok (.newarray .boolean, 2) := by decide +kernel
theorem dgX3_init_39 : kRun kT cX3_init.data.toList 0 (List.flatten (iqC (iqr3 39 (iq181 25) (iqr1 42 iq42 (iqr2 43 (iq16 8) iqE))) iqN)) = true := by decide +kernel
theorem dX3_init_45 : decode cX3_init 45 = .ok (.newarray .long, 2) := by decide +kernel
theorem dgX3_init_47 : kRun kT cX3_init.data.toList 0 (List.flatten (iqC (iqr3 47 (iq181 29) (iqr1 50 iq42 (iqr2 51 (iq16 8) iqE))) iqN)) = true := by decide +kernel
theorem dX3_init_53 : decode cX3_init 53 = .ok (.newarray .long, 2) := by decide +kernel
theorem dgX3_init_55 : kRun kT cX3_init.data.toList 0 (List.flatten (iqC (iqr3 55 (iq181 32) (iqr1 58 iq177 iqE)) iqN)) = true := by decide +kernel
end
-- 13.words.lean.txt
section
theorem pd_43 : (parseMethodDescriptor "(Ljava/lang/String;)Ljava/lang/StringBuilder;").map (fun d => d.parameters.length) = some 1 := by decide +kernel
theorem pd_44 : (parseMethodDescriptor "(J[J[JI)J").map (fun d => d.parameters.length) = some 4 := by decide +kernel
theorem pd_45 : (parseMethodDescriptor "([JIJ)Z").map (fun d => d.parameters.length) = some 3 := by decide +kernel
theorem pd_46 : (parseMethodDescriptor "([J[JI)I").map (fun d => d.parameters.length) = some 3 := by decide +kernel
theorem pd_47 : (parseMethodDescriptor "()[J").map (fun d => d.parameters.length) = some 0 := by decide +kernel
theorem pd_48 : (parseMethodDescriptor "([J)I").map (fun d => d.parameters.length) = some 1 := by decide +kernel
theorem pd_49 : (parseMethodDescriptor "(ZZ)Z").map (fun d => d.parameters.length) = some 2 := by decide +kernel
theorem pd_50 : (parseMethodDescriptor "(Z)Z").map (fun d => d.parameters.length) = some 1 := by decide +kernel
theorem pd_51 : (parseMethodDescriptor "([JIJ)I").map (fun d => d.parameters.length) = some 3 := by decide +kernel
theorem pd_52 : (parseMethodDescriptor "(JJZ)Z").map (fun d => d.parameters.length) = some 3 := by decide +kernel
theorem pd_53 : (parseMethodDescriptor "(JJJJ)Z").map (fun d => d.parameters.length) = some 4 := by decide +kernel
theorem pd_54 : (parseMethodDescriptor "(JJI)Z").map (fun d => d.parameters.length) = some 3 := by decide +kernel
theorem pd_55 : (parseMethodDescriptor "([I)I").map (fun d => d.parameters.length) = some 1 := by decide +kernel
theorem pd_56 : (parseMethodDescriptor "(II)I").map (fun d => d.parameters.length) = some 2 := by decide +kernel
theorem pd_57 : (parseMethodDescriptor "()[I").map (fun d => d.parameters.length) = some 0 := by decide +kernel
theorem pd_58 : (parseMethodDescriptor "([JJ)[J").map (fun d => d.parameters.length) = some 2 := by decide +kernel
set_option maxRecDepth 100000 in
theorem kS13_1 : kPg (gpC 3 (gpC 8 gpE)) tables_1_1 = List.flatten (wpL (wpC (Cond.initialized yX3_added.cls) (wpC (Cond.initialized yJ4_append_15ec4.cls) wpE)) wpN) := rfl
theorem kS13_1g : (kPg (gpC 3 (gpC 8 gpE)) tables_1_1).all goodWord = true := by decide +kernel
set_option maxRecDepth 100000 in
theorem kS13_4 : kPg (gpC 106 (gpC 0 (gpC 0 gpE))) tables_1_4 = List.flatten (wpL (wpC (Cond.instanceMethod yJ4_append_15ec4) (wpC (Cond.selects yJ4_append_15ec4.cls yJ4_append_15ec4 yJ4_append_15ec4) (wpC (Cond.code yJ4_append_15ec4 cJ4_append_15ec4 2 (some (.object "java/lang/StringBuilder"))) wpE))) wpN) := rfl
theorem kS13_4g : (kPg (gpC 106 (gpC 0 (gpC 0 gpE))) tables_1_4).all goodWord = true := by decide +kernel
set_option maxRecDepth 100000 in
theorem kS13_5 : kPg (gpC 54 (gpC 0 (gpC 0 (gpC 0 (gpC 0 (gpC 0 (gpC 0 (gpC 0 (gpC 0 (gpC 0 (gpC 0 (gpC 0 (gpC 0 (gpC 0 (gpC 0 (gpC 0 (gpC 33 (gpC 0 (gpC 0 (gpC 0 (gpC 0 (gpC 0 (gpC 0 (gpC 0 (gpC 1 (gpC 0 (gpC 0 (gpC 0 (gpC 0 (gpC 0 (gpC 0 (gpC 0 (gpC 0 (gpC 1 (gpC 0 (gpC 0 (gpC 0 (gpC 0 (gpC 0 (gpC 0 (gpC 1 (gpC 0 (gpC 4 (gpC 0 (gpC 0 (gpC 0 (gpC 0 (gpC 0 (gpC 0 (gpC 0 (gpC 0 (gpC 0 (gpC 4 (gpC 1 (gpC 0 (gpC 12 (gpC 0 (gpC 0 (gpC 0 (gpC 0 (gpC 0 (gpC 8 (gpC 1 (gpC 0 (gpC 0 (gpC 1 (gpC 0 (gpC 0 (gpC 1 (gpC 0 (gpC 0 (gpC 0 (gpC 0 (gpC 0 (gpC 1 (gpC 0 (gpC 4 (gpC 1 (gpC 0 (gpC 8 (gpC 0 (gpC 0 (gpC 8 (gpC 0 (gpC 1 (gpC 0 (gpC 8 gpE))))))))))))))))))))))))))))))))))))))))))))))))))))))))))))))))))))))))))))))))))))))) tables_1_5 = List.flatten (wpL (wpC (Cond.methodLink RX3 1 objectInit) (wpC (Cond.constantLong RX3 13 (86400000000000)) (wpC (Cond.fieldLink RX3 7 "SpanbookerModel" "cells" "[J") (wpC (Cond.fieldLink RX3 53 "SpanbookerModel" "from" "J") (wpC (Cond.fieldLink RX3 15 "SpanbookerModel" "until" "J") (wpC (Cond.fieldLink RX3 19 "SpanbookerModel" "begins" "[J") (wpC (Cond.fieldLink RX3 22 "SpanbookerModel" "ends" "[J") (wpC (Cond.fieldLink RX3 25 "SpanbookerModel" "over" "[Z") (wpC (Cond.fieldLink RX3 56 "SpanbookerModel" "spans" "I") (wpC (Cond.fieldLink RX3 29 "SpanbookerModel" "wishBegins" "[J") (wpC (Cond.fieldLink RX3 32 "SpanbookerModel" "wishEnds" "[J") (wpC (Cond.fieldLink RX3 88 "SpanbookerModel" "wishes" "I") wpE)))))))))))) (wpL (wpC (Cond.fieldLink RX3 117 "SpanbookerModel" "acts" "I") (wpC (Cond.fieldLink RX3 120 "SpanbookerModel" "refused" "I") (wpC (Cond.fieldLink RX3 236 "SpanbookerModel" "knocks" "I") (wpC (Cond.fieldLink RX3 35 "SpanbookerModel" "thrown" "I") (wpC (Cond.methodLink RX3 123 yX3_is) (wpC (Cond.static yX3_is) (wpC (Cond.code yX3_is cX3_is 1 (some .boolean)) (wpC (Cond.constant RX3 126 (-1000000000)) (wpC (Cond.constant RX3 127 (1000000000)) (wpC (Cond.constant RX3 111 (-2000000000)) (wpC (Cond.constant RX3 112 (2000000000)) (wpC (Cond.methodLink RX3 113 yX3_isThrown) wpE)))))))))))) (wpL (wpC (Cond.instanceMethod yX3_isThrown) (wpC (Cond.code yX3_isThrown cX3_isThrown 3 (some .boolean)) (wpC (Cond.constantLong RX3 39 (1000000000)) (wpC (Cond.methodLink RX3 128 yX3_isLet) (wpC (Cond.static yX3_isLet) (wpC (Cond.code yX3_isLet cX3_isLet 2 (some .boolean)) (wpC (Cond.constantLong RX3 47 (-1000000000000000000)) (wpC (Cond.constantLong RX3 49 (1000000001000000000)) (wpC (Cond.methodLink RX3 132 yX3_no) (wpC (Cond.instanceMethod yX3_no) (wpC (Cond.code yX3_no cX3_no 1 (some .int)) (wpC (Cond.methodLink RX3 43 yX3_secondOf) wpE)))))))))))) (wpL (wpC (Cond.static yX3_secondOf) (wpC (Cond.code yX3_secondOf cX3_secondOf 2 (some .int)) (wpC (Cond.constantLong RX3 41 (999999999)) (wpC (Cond.methodLink RX3 136 yX3_done) (wpC (Cond.instanceMethod yX3_done) (wpC (Cond.code yX3_done cX3_done 2 (some .int)) (wpC (Cond.methodLink RX3 139 yX3_isNoUnit) (wpC (Cond.static yX3_isNoUnit) (wpC (Cond.code yX3_isNoUnit cX3_isNoUnit 2 (some .boolean)) (wpC (Cond.methodLink RX3 142 yX3_units) (wpC (Cond.static yX3_units) (wpC (Cond.code yX3_units cX3_units 2 (some .long)) wpE)))))))))))) (wpL (wpC (Cond.constantLong RX3 51 (1000000)) (wpC (Cond.methodLink RX3 146 yX3_sign) (wpC (Cond.static yX3_sign) (wpC (Cond.code yX3_sign cX3_sign 2 (some .int)) (wpC (Cond.methodLink RX3 149 yX3_isThrown_) (wpC (Cond.instanceMethod yX3_isThrown_) (wpC (Cond.code yX3_isThrown_ cX3_isThrown_ 2 (some .boolean)) (wpC (Cond.methodLink RX3 152 yX3_areLet) (wpC (Cond.static yX3_areLet) (wpC (Cond.code yX3_areLet cX3_areLet 5 (some .boolean)) (wpC (Cond.methodLink RX3 156 yX3_shifted) (wpC (Cond.static yX3_shifted) wpE)))))))))))) (wpL (wpC (Cond.code yX3_shifted cX3_shifted 5 (some (.array .long))) (wpC (Cond.methodLink RX3 160 yX3_mayCome) (wpC (Cond.instanceMethod yX3_mayCome) (wpC (Cond.code yX3_mayCome cX3_mayCome 6 (some .boolean)) (wpC (Cond.methodLink RX3 80 yX3_isIn) (wpC (Cond.instanceMethod yX3_isIn) (wpC (Cond.code yX3_isIn cX3_isIn 5 (some .boolean)) (wpC (Cond.methodLink RX3 84 yX3_meetsSome) (wpC (Cond.instanceMethod yX3_meetsSome) (wpC (Cond.code yX3_meetsSome cX3_meetsSome 7 (some .boolean)) (wpC (Cond.methodLink RX3 59 yX3_meet) (wpC (Cond.static yX3_meet) wpE)))))))))))) (wpL (wpC (Cond.code yX3_meet cX3_meet 8 (some .boolean)) (wpC (Cond.methodLink RX3 164 yX3_come) (wpC (Cond.instanceMethod yX3_come) (wpC (Cond.code yX3_come cX3_come 6 (some .int)) (wpC (Cond.methodLink RX3 168 yX3_isSpan) (wpC (Cond.instanceMethod yX3_isSpan) (wpC (Cond.code yX3_isSpan cX3_isSpan 2 (some .boolean)) (wpC (Cond.methodLink RX3 171 yX3_less) (wpC (Cond.static yX3_less) (wpC (Cond.code yX3_less cX3_less 6 (some .int)) (wpC (Cond.methodLink RX3 175 Lib.MathLoose.max_long.x) (wpC (Cond.methodLink RX3 178 yX3_fits) wpE)))))))))))) (wpL (wpC (Cond.instanceMethod yX3_fits) (wpC (Cond.code yX3_fits cX3_fits 5 (some .boolean)) (wpC (Cond.methodLink RX3 181 yX3_isWish) wpE))) wpN)))))))) := rfl
theorem kS13_5g : (kPg (gpC 54 (gpC 0 (gpC 0 (gpC 0 (gpC 0 (gpC 0 (gpC 0 (gpC 0 (gpC 0 (gpC 0 (gpC 0 (gpC 0 (gpC 0 (gpC 0 (gpC 0 (gpC 0 (gpC 33 (gpC 0 (gpC 0 (gpC 0 (gpC 0 (gpC 0 (gpC 0 (gpC 0 (gpC 1 (gpC 0 (gpC 0 (gpC 0 (gpC 0 (gpC 0 (gpC 0 (gpC 0 (gpC 0 (gpC 1 (gpC 0 (gpC 0 (gpC 0 (gpC 0 (gpC 0 (gpC 0 (gpC 1 (gpC 0 (gpC 4 (gpC 0 (gpC 0 (gpC 0 (gpC 0 (gpC 0 (gpC 0 (gpC 0 (gpC 0 (gpC 0 (gpC 4 (gpC 1 (gpC 0 (gpC 12 (gpC 0 (gpC 0 (gpC 0 (gpC 0 (gpC 0 (gpC 8 (gpC 1 (gpC 0 (gpC 0 (gpC 1 (gpC 0 (gpC 0 (gpC 1 (gpC 0 (gpC 0 (gpC 0 (gpC 0 (gpC 0 (gpC 1 (gpC 0 (gpC 4 (gpC 1 (gpC 0 (gpC 8 (gpC 0 (gpC 0 (gpC 8 (gpC 0 (gpC 1 (gpC 0 (gpC 8 gpE))))))))))))))))))))))))))))))))))))))))))))))))))))))))))))))))))))))))))))))))))))))) tables_1_5).all goodWord = true := by decide +kernel
set_option maxRecDepth 100000 in
theorem kS13_6 : kPg (gpC 1 (gpC 0 (gpC 0 (gpC 1 (gpC 0 (gpC 5 (gpC 0 (gpC 0 (gpC 1 (gpC 0 (gpC 0 (gpC 0 (gpC 0 (gpC 0 (gpC 5 (gpC 0 (gpC 0 (gpC 1 (gpC 0 (gpC 4 (gpC 1 (gpC 0 (gpC 16 (gpC 0 (gpC 0 (gpC 1 (gpC 0 (gpC 0 (gpC 13 (gpC 0 (gpC 0 (gpC 1 (gpC 0 (gpC 0 (gpC 0 (gpC 1 (gpC 0 (gpC 1 (gpC 0 (gpC 0 (gpC 0 (gpC 0 (gpC 0 (gpC 0 (gpC 5 (gpC 0 (gpC 0 (gpC 0 (gpC 1 (gpC 0 (gpC 0 (gpC 0 (gpC 0 (gpC 1 (gpC 0 (gpC 0 (gpC 1 (gpC 0 (gpC 0 (gpC 1 (gpC 0 (gpC 0 (gpC 0 (gpC 1 (gpC 0 (gpC 0 (gpC 1 (gpC 0 (gpC 12 (gpC 1 (gpC 0 (gpC 0 (gpC 1 (gpC 0 (gpC 4 (gpC 1 (gpC 0 (gpC 4 (gpC 0 (gpC 0 (gpC 0 (gpC 1 (gpC 0 (gpC 1 (gpC 0 (gpC 0 (gpC 4 (gpC 1 (gpC 0 (gpC 0 (gpC 1 (gpC 0 (gpC 4 (gpC 1 (gpC 0 (gpC 1 (gpC 0 (gpC 0 (gpC 5 (gpC 0 (gpC 0 (gpC 0 (gpC 1 (gpC 0 (gpC 4 (gpC 0 (gpC 0 (gpC 0 (gpC 0 (gpC 0 (gpC 0 (gpC 0 (gpC 1 (gpC 0 (gpC 0 (gpC 0 (gpC 0 (gpC 0 (gpC 0 (gpC 0 (gpC 0 (gpC 0 gpE)))))))))))))))))))))))))))))))))))))))))))))))))))))))))))))))))))))))))))))))))))))))))))))))))))))))))))))))))))))))))) tables_1_6 = List.flatten (wpL (wpC (Cond.instanceMethod yX3_isWish) (wpC (Cond.code yX3_isWish cX3_isWish 2 (some .boolean)) (wpC (Cond.methodLink RX3 184 yX3_gone) (wpC (Cond.instanceMethod yX3_gone) (wpC (Cond.code yX3_gone cX3_gone 3 none) (wpC (Cond.instanceMethod yX3_second) (wpC (Cond.selects yX3_second.cls yX3_second yX3_second) (wpC (Cond.code yX3_second cX3_second 2 (some .int)) (wpC (Cond.instanceMethod yX3_nano) (wpC (Cond.selects yX3_nano.cls yX3_nano yX3_nano) (wpC (Cond.code yX3_nano cX3_nano 2 (some .int)) (wpC (Cond.methodLink RX3 188 yX3_nanoOf) wpE)))))))))))) (wpL (wpC (Cond.static yX3_nanoOf) (wpC (Cond.code yX3_nanoOf cX3_nanoOf 2 (some .int)) (wpC (Cond.classLink RX3 193 RJ4) (wpC (Cond.methodLink RX3 195 yJ4_init_da8c8) (wpC (Cond.methodLink RX3 196 yJ4_append_bf812) (wpC (Cond.methodLink RX3 202 yJ4_append_15ec4) (wpC (Cond.methodLink RX3 205 yJ4_toString_0e30d) (wpC (Cond.methodLink RX3 209 yX3_areNone) (wpC (Cond.instanceMethod yX3_areNone) (wpC (Cond.code yX3_areNone cX3_areNone 3 (some .boolean)) (wpC (Cond.methodLink RX3 212 yX3_half) (wpC (Cond.static yX3_half) wpE)))))))))))) (wpL (wpC (Cond.code yX3_half cX3_half 3 (some .int)) (wpC (Cond.instanceMethod yX3_calendar) (wpC (Cond.selects yX3_calendar.cls yX3_calendar yX3_calendar) (wpC (Cond.code yX3_calendar cX3_calendar 2 (some .int)) (wpC (Cond.instanceMethod yX3_clashes) (wpC (Cond.selects yX3_clashes.cls yX3_clashes yX3_clashes) (wpC (Cond.code yX3_clashes cX3_clashes 4 (some .int)) (wpC (Cond.instanceMethod yX3_at) (wpC (Cond.selects yX3_at.cls yX3_at yX3_at) (wpC (Cond.code yX3_at cX3_at 2 (some .int)) (wpC (Cond.methodLink RX3 63 yX3_spanAt) (wpC (Cond.instanceMethod yX3_spanAt) wpE)))))))))))) (wpL (wpC (Cond.code yX3_spanAt cX3_spanAt 4 (some .int)) (wpC (Cond.instanceMethod yX3_deepest_) (wpC (Cond.selects yX3_deepest_.cls yX3_deepest_ yX3_deepest_) (wpC (Cond.code yX3_deepest_ cX3_deepest_ 1 (some .int)) (wpC (Cond.methodLink RX3 216 yX3_deepest) (wpC (Cond.static yX3_deepest) (wpC (Cond.code yX3_deepest cX3_deepest 7 (some .int)) (wpC (Cond.methodLink RX3 74 Lib.Math.max.name) (wpC (Cond.instanceMethod yX3_frees) (wpC (Cond.selects yX3_frees.cls yX3_frees yX3_frees) (wpC (Cond.code yX3_frees cX3_frees 1 (some .int)) (wpC (Cond.methodLink RX3 66 yX3_free) wpE)))))))))))) (wpL (wpC (Cond.instanceMethod yX3_free) (wpC (Cond.code yX3_free cX3_free 7 (some (.array .long))) (wpC (Cond.methodLink RX3 70 yX3_freesOf) (wpC (Cond.static yX3_freesOf) (wpC (Cond.code yX3_freesOf cX3_freesOf 2 (some .int)) (wpC (Cond.instanceMethod yX3_ofFree) (wpC (Cond.selects yX3_ofFree.cls yX3_ofFree yX3_ofFree) (wpC (Cond.code yX3_ofFree cX3_ofFree 4 (some .int)) (wpC (Cond.instanceMethod yX3_freeAt) (wpC (Cond.selects yX3_freeAt.cls yX3_freeAt yX3_freeAt) (wpC (Cond.code yX3_freeAt cX3_freeAt 4 (some .int)) (wpC (Cond.instanceMethod yX3_length) wpE)))))))))))) (wpL (wpC (Cond.selects yX3_length.cls yX3_length yX3_length) (wpC (Cond.code yX3_length cX3_length 2 (some .int)) (wpC (Cond.methodLink RX3 220 yX3_takenLength) (wpC (Cond.instanceMethod yX3_takenLength) (wpC (Cond.code yX3_takenLength cX3_takenLength 9 (some .long)) (wpC (Cond.methodLink RX3 224 yX3_freeLength) (wpC (Cond.instanceMethod yX3_freeLength) (wpC (Cond.code yX3_freeLength cX3_freeLength 5 (some .long)) (wpC (Cond.methodLink RX3 95 yX3_areApart) (wpC (Cond.instanceMethod yX3_areApart) (wpC (Cond.code yX3_areApart cX3_areApart 4 (some .boolean)) (wpC (Cond.methodLink RX3 91 yX3_wishesMeet) wpE)))))))))))) (wpL (wpC (Cond.instanceMethod yX3_wishesMeet) (wpC (Cond.code yX3_wishesMeet cX3_wishesMeet 3 (some .boolean)) (wpC (Cond.methodLink RX3 227 yX3_chosenNow) (wpC (Cond.instanceMethod yX3_chosenNow) (wpC (Cond.code yX3_chosenNow cX3_chosenNow 4 (some .int)) (wpC (Cond.methodLink RX3 99 yX3_ones) (wpC (Cond.static yX3_ones) (wpC (Cond.code yX3_ones cX3_ones 3 (some .int)) (wpC (Cond.methodLink RX3 230 yX3_mostOfAll) (wpC (Cond.instanceMethod yX3_mostOfAll) (wpC (Cond.code yX3_mostOfAll cX3_mostOfAll 3 (some .int)) (wpC (Cond.instanceMethod yX3_crowd) wpE)))))))))))) (wpL (wpC (Cond.selects yX3_crowd.cls yX3_crowd yX3_crowd) (wpC (Cond.code yX3_crowd cX3_crowd 1 (some .int)) (wpC (Cond.methodLink RX3 107 yX3_roomsNow) (wpC (Cond.instanceMethod yX3_roomsNow) (wpC (Cond.code yX3_roomsNow cX3_roomsNow 5 (some (.array .int))) (wpC (Cond.methodLink RX3 103 yX3_nextWish) (wpC (Cond.instanceMethod yX3_nextWish) (wpC (Cond.code yX3_nextWish cX3_nextWish 4 (some .int)) (wpC (Cond.methodLink RX3 233 yX3_roomsOf) (wpC (Cond.instanceMethod yX3_roomsOf) (wpC (Cond.code yX3_roomsOf cX3_roomsOf 6 (some .int)) (wpC (Cond.instanceMethod yX3_house) wpE)))))))))))) (wpL (wpC (Cond.selects yX3_house.cls yX3_house yX3_house) (wpC (Cond.code yX3_house cX3_house 2 (some .int)) (wpC (Cond.instanceMethod yX3_isSound) (wpC (Cond.selects yX3_isSound.cls yX3_isSound yX3_isSound) (wpC (Cond.code yX3_isSound cX3_isSound 2 (some .boolean)) (wpC (Cond.methodLink RX3 239 yX3_areSpans) (wpC (Cond.instanceMethod yX3_areSpans) (wpC (Cond.code yX3_areSpans cX3_areSpans 3 (some .boolean)) (wpC (Cond.constantLong RX3 245 (8009)) (wpC (Cond.constantLong RX3 243 (31)) (wpC (Cond.methodLink RX3 247 yX3_second) (wpC (Cond.methodLink RX3 250 yX3_nano) wpE)))))))))))) (wpL (wpC (Cond.methodLink RX3 253 yX3_at) (wpC (Cond.methodLink RX3 256 yX3_freeAt) (wpC (Cond.methodLink RX3 259 yX3_calendar) (wpC (Cond.methodLink RX3 262 yX3_added) (wpC (Cond.instanceMethod yX3_added) (wpC (Cond.code yX3_added cX3_added 8 (some .long)) (wpC (Cond.methodLink RX3 266 yX3_clashes) (wpC (Cond.methodLink RX3 269 yX3_deepest_) (wpC (Cond.methodLink RX3 271 yX3_frees) (wpC (Cond.methodLink RX3 274 yX3_ofFree) (wpC (Cond.methodLink RX3 277 yX3_length) (wpC (Cond.methodLink RX3 280 yX3_crowd) wpE)))))))))))) (wpL (wpC (Cond.methodLink RX3 283 yX3_house) (wpC (Cond.methodLink RX3 286 yX3_isSound) wpE)) wpN))))))))))) := rfl
theorem kS13_6g : (kPg (gpC 1 (gpC 0 (gpC 0 (gpC 1 (gpC 0 (gpC 5 (gpC 0 (gpC 0 (gpC 1 (gpC 0 (gpC 0 (gpC 0 (gpC 0 (gpC 0 (gpC 5 (gpC 0 (gpC 0 (gpC 1 (gpC 0 (gpC 4 (gpC 1 (gpC 0 (gpC 16 (gpC 0 (gpC 0 (gpC 1 (gpC 0 (gpC 0 (gpC 13 (gpC 0 (gpC 0 (gpC 1 (gpC 0 (gpC 0 (gpC 0 (gpC 1 (gpC 0 (gpC 1 (gpC 0 (gpC 0 (gpC 0 (gpC 0 (gpC 0 (gpC 0 (gpC 5 (gpC 0 (gpC 0 (gpC 0 (gpC 1 (gpC 0 (gpC 0 (gpC 0 (gpC 0 (gpC 1 (gpC 0 (gpC 0 (gpC 1 (gpC 0 (gpC 0 (gpC 1 (gpC 0 (gpC 0 (gpC 0 (gpC 1 (gpC 0 (gpC 0 (gpC 1 (gpC 0 (gpC 12 (gpC 1 (gpC 0 (gpC 0 (gpC 1 (gpC 0 (gpC 4 (gpC 1 (gpC 0 (gpC 4 (gpC 0 (gpC 0 (gpC 0 (gpC 1 (gpC 0 (gpC 1 (gpC 0 (gpC 0 (gpC 4 (gpC 1 (gpC 0 (gpC 0 (gpC 1 (gpC 0 (gpC 4 (gpC 1 (gpC 0 (gpC 1 (gpC 0 (gpC 0 (gpC 5 (gpC 0 (gpC 0 (gpC 0 (gpC 1 (gpC 0 (gpC 4 (gpC 0 (gpC 0 (gpC 0 (gpC 0 (gpC 0 (gpC 0 (gpC 0 (gpC 1 (gpC 0 (gpC 0 (gpC 0 (gpC 0 (gpC 0 (gpC 0 (gpC 0 (gpC 0 (gpC 0 gpE)))))))))))))))))))))))))))))))))))))))))))))))))))))))))))))))))))))))))))))))))))))))))))))))))))))))))))))))))))))))))) tables_1_6).all goodWord = true := by decide +kernel
theorem kw_1070 : Cond.methodLink RX3 1 objectInit ∈ kBIG := (kb_g5 kS13_5 kS13_5g 0 0 rfl rfl)
theorem kw_1071 : Cond.constantLong RX3 13 (86400000000000) ∈ kBIG := (kb_g5 kS13_5 kS13_5g 0 1 rfl rfl)
theorem kw_1072 : Cond.fieldLink RX3 7 "SpanbookerModel" "cells" "[J" ∈ kBIG := (kb_g5 kS13_5 kS13_5g 0 2 rfl rfl)
theorem kw_1073 : Cond.fieldLink RX3 53 "SpanbookerModel" "from" "J" ∈ kBIG := (kb_g5 kS13_5 kS13_5g 0 3 rfl rfl)
theorem kw_1074 : Cond.fieldLink RX3 15 "SpanbookerModel" "until" "J" ∈ kBIG := (kb_g5 kS13_5 kS13_5g 0 4 rfl rfl)
theorem kw_1075 : Cond.fieldLink RX3 19 "SpanbookerModel" "begins" "[J" ∈ kBIG := (kb_g5 kS13_5 kS13_5g 0 5 rfl rfl)
theorem kw_1076 : Cond.fieldLink RX3 22 "SpanbookerModel" "ends" "[J" ∈ kBIG := (kb_g5 kS13_5 kS13_5g 0 6 rfl rfl)
theorem kw_1077 : Cond.fieldLink RX3 25 "SpanbookerModel" "over" "[Z" ∈ kBIG := (kb_g5 kS13_5 kS13_5g 0 7 rfl rfl)
theorem kw_1078 : Cond.fieldLink RX3 56 "SpanbookerModel" "spans" "I" ∈ kBIG := (kb_g5 kS13_5 kS13_5g 0 8 rfl rfl)
theorem kw_1079 : Cond.fieldLink RX3 29 "SpanbookerModel" "wishBegins" "[J" ∈ kBIG := (kb_g5 kS13_5 kS13_5g 0 9 rfl rfl)
theorem kw_1080 : Cond.fieldLink RX3 32 "SpanbookerModel" "wishEnds" "[J" ∈ kBIG := (kb_g5 kS13_5 kS13_5g 0 10 rfl rfl)
theorem kw_1081 : Cond.fieldLink RX3 88 "SpanbookerModel" "wishes" "I" ∈ kBIG := (kb_g5 kS13_5 kS13_5g 0 11 rfl rfl)
theorem kw_1082 : Cond.fieldLink RX3 117 "SpanbookerModel" "acts" "I" ∈ kBIG := (kb_g5 kS13_5 kS13_5g 1 0 rfl rfl)
theorem kw_1083 : Cond.fieldLink RX3 120 "SpanbookerModel" "refused" "I" ∈ kBIG := (kb_g5 kS13_5 kS13_5g 1 1 rfl rfl)
theorem kw_1084 : Cond.fieldLink RX3 236 "SpanbookerModel" "knocks" "I" ∈ kBIG := (kb_g5 kS13_5 kS13_5g 1 2 rfl rfl)
theorem kw_1085 : Cond.fieldLink RX3 35 "SpanbookerModel" "thrown" "I" ∈ kBIG := (kb_g5 kS13_5 kS13_5g 1 3 rfl rfl)
theorem kw_1119 : Cond.methodLink RX3 123 yX3_is ∈ kBIG := (kb_g5 kS13_5 kS13_5g 1 4 rfl rfl)
theorem kw_1122 : Cond.constant RX3 126 (-1000000000) ∈ kBIG := (kb_g5 kS13_5 kS13_5g 1 7 rfl rfl)
theorem kw_1123 : Cond.constant RX3 127 (1000000000) ∈ kBIG := (kb_g5 kS13_5 kS13_5g 1 8 rfl rfl)
theorem kw_1124 : Cond.constant RX3 111 (-2000000000) ∈ kBIG := (kb_g5 kS13_5 kS13_5g 1 9 rfl rfl)
theorem kw_1125 : Cond.constant RX3 112 (2000000000) ∈ kBIG := (kb_g5 kS13_5 kS13_5g 1 10 rfl rfl)
theorem kw_1126 : Cond.methodLink RX3 113 yX3_isThrown ∈ kBIG := (kb_g5 kS13_5 kS13_5g 1 11 rfl rfl)
theorem kw_1130 : Cond.constantLong RX3 39 (1000000000) ∈ kBIG := (kb_g5 kS13_5 kS13_5g 2 2 rfl rfl)
theorem kw_1131 : Cond.methodLink RX3 128 yX3_isLet ∈ kBIG := (kb_g5 kS13_5 kS13_5g 2 3 rfl rfl)
theorem kw_1134 : Cond.constantLong RX3 47 (-1000000000000000000) ∈ kBIG := (kb_g5 kS13_5 kS13_5g 2 6 rfl rfl)
theorem kw_1135 : Cond.constantLong RX3 49 (1000000001000000000) ∈ kBIG := (kb_g5 kS13_5 kS13_5g 2 7 rfl rfl)
theorem kw_1136 : Cond.methodLink RX3 132 yX3_no ∈ kBIG := (kb_g5 kS13_5 kS13_5g 2 8 rfl rfl)
theorem kw_1140 : Cond.methodLink RX3 43 yX3_secondOf ∈ kBIG := (kb_g5 kS13_5 kS13_5g 2 11 rfl rfl)
theorem kw_1143 : Cond.constantLong RX3 41 (999999999) ∈ kBIG := (kb_g5 kS13_5 kS13_5g 3 2 rfl rfl)
theorem kw_1144 : Cond.methodLink RX3 136 yX3_done ∈ kBIG := (kb_g5 kS13_5 kS13_5g 3 3 rfl rfl)
theorem kw_1152 : Cond.methodLink RX3 139 yX3_isNoUnit ∈ kBIG := (kb_g5 kS13_5 kS13_5g 3 6 rfl rfl)
theorem kw_1155 : Cond.methodLink RX3 142 yX3_units ∈ kBIG := (kb_g5 kS13_5 kS13_5g 3 9 rfl rfl)
theorem kw_1158 : Cond.constantLong RX3 51 (1000000) ∈ kBIG := (kb_g5 kS13_5 kS13_5g 4 0 rfl rfl)
theorem kw_1159 : Cond.methodLink RX3 146 yX3_sign ∈ kBIG := (kb_g5 kS13_5 kS13_5g 4 1 rfl rfl)
theorem kw_1166 : Cond.methodLink RX3 149 yX3_isThrown_ ∈ kBIG := (kb_g5 kS13_5 kS13_5g 4 4 rfl rfl)
theorem kw_1182 : Cond.methodLink RX3 152 yX3_areLet ∈ kBIG := (kb_g5 kS13_5 kS13_5g 4 7 rfl rfl)
theorem kw_1185 : Cond.methodLink RX3 156 yX3_shifted ∈ kBIG := (kb_g5 kS13_5 kS13_5g 4 10 rfl rfl)
theorem kw_1196 : Cond.methodLink RX3 160 yX3_mayCome ∈ kBIG := (kb_g5 kS13_5 kS13_5g 5 1 rfl rfl)
theorem kw_1200 : Cond.methodLink RX3 80 yX3_isIn ∈ kBIG := (kb_g5 kS13_5 kS13_5g 5 4 rfl rfl)
theorem kw_1204 : Cond.methodLink RX3 84 yX3_meetsSome ∈ kBIG := (kb_g5 kS13_5 kS13_5g 5 7 rfl rfl)
theorem kw_1208 : Cond.methodLink RX3 59 yX3_meet ∈ kBIG := (kb_g5 kS13_5 kS13_5g 5 10 rfl rfl)
theorem kw_1211 : Cond.methodLink RX3 164 yX3_come ∈ kBIG := (kb_g5 kS13_5 kS13_5g 6 1 rfl rfl)
theorem kw_1219 : Cond.methodLink RX3 168 yX3_isSpan ∈ kBIG := (kb_g5 kS13_5 kS13_5g 6 4 rfl rfl)
theorem kw_1231 : Cond.methodLink RX3 171 yX3_less ∈ kBIG := (kb_g5 kS13_5 kS13_5g 6 7 rfl rfl)
theorem kw_1242 : Cond.methodLink RX3 175 Lib.MathLoose.max_long.x ∈ kBIG := (kb_g5 kS13_5 kS13_5g 6 10 rfl rfl)
theorem kw_1243 : Cond.methodLink RX3 178 yX3_fits ∈ kBIG := (kb_g5 kS13_5 kS13_5g 6 11 rfl rfl)
theorem kw_1255 : Cond.methodLink RX3 181 yX3_isWish ∈ kBIG := (kb_g5 kS13_5 kS13_5g 7 2 rfl rfl)
theorem kw_1259 : Cond.methodLink RX3 184 yX3_gone ∈ kBIG := (kb_g6 kS13_6 kS13_6g 0 2 rfl rfl)
theorem kw_1275 : Cond.methodLink RX3 188 yX3_nanoOf ∈ kBIG := (kb_g6 kS13_6 kS13_6g 0 11 rfl rfl)
theorem kw_1283 : Cond.classLink RX3 193 RJ4 ∈ kBIG := (kb_g6 kS13_6 kS13_6g 1 2 rfl rfl)
theorem kw_1284 : Cond.methodLink RX3 195 yJ4_init_da8c8 ∈ kBIG := (kb_g6 kS13_6 kS13_6g 1 3 rfl rfl)
theorem kw_1285 : Cond.methodLink RX3 196 yJ4_append_bf812 ∈ kBIG := (kb_g6 kS13_6 kS13_6g 1 4 rfl rfl)
theorem kw_1287 : Cond.methodLink RX3 202 yJ4_append_15ec4 ∈ kBIG := (kb_g6 kS13_6 kS13_6g 1 5 rfl rfl)
theorem kw_1288 : Cond.methodLink RX3 205 yJ4_toString_0e30d ∈ kBIG := (kb_g6 kS13_6 kS13_6g 1 6 rfl rfl)
theorem kw_1293 : Cond.methodLink RX3 209 yX3_areNone ∈ kBIG := (kb_g6 kS13_6 kS13_6g 1 7 rfl rfl)
theorem kw_1313 : Cond.methodLink RX3 212 yX3_half ∈ kBIG := (kb_g6 kS13_6 kS13_6g 1 10 rfl rfl)
theorem kw_1340 : Cond.methodLink RX3 63 yX3_spanAt ∈ kBIG := (kb_g6 kS13_6 kS13_6g 2 10 rfl rfl)
theorem kw_1348 : Cond.methodLink RX3 216 yX3_deepest ∈ kBIG := (kb_g6 kS13_6 kS13_6g 3 4 rfl rfl)
theorem kw_1351 : Cond.methodLink RX3 74 Lib.Math.max.name ∈ kBIG := (kb_g6 kS13_6 kS13_6g 3 7 rfl rfl)
theorem kw_1360 : Cond.methodLink RX3 66 yX3_free ∈ kBIG := (kb_g6 kS13_6 kS13_6g 3 11 rfl rfl)
theorem kw_1364 : Cond.methodLink RX3 70 yX3_freesOf ∈ kBIG := (kb_g6 kS13_6 kS13_6g 4 2 rfl rfl)
theorem kw_1379 : Cond.methodLink RX3 220 yX3_takenLength ∈ kBIG := (kb_g6 kS13_6 kS13_6g 5 2 rfl rfl)
theorem kw_1383 : Cond.methodLink RX3 224 yX3_freeLength ∈ kBIG := (kb_g6 kS13_6 kS13_6g 5 5 rfl rfl)
theorem kw_1399 : Cond.methodLink RX3 95 yX3_areApart ∈ kBIG := (kb_g6 kS13_6 kS13_6g 5 8 rfl rfl)
theorem kw_1403 : Cond.methodLink RX3 91 yX3_wishesMeet ∈ kBIG := (kb_g6 kS13_6 kS13_6g 5 11 rfl rfl)
theorem kw_1411 : Cond.methodLink RX3 227 yX3_chosenNow ∈ kBIG := (kb_g6 kS13_6 kS13_6g 6 2 rfl rfl)
theorem kw_1419 : Cond.methodLink RX3 99 yX3_ones ∈ kBIG := (kb_g6 kS13_6 kS13_6g 6 5 rfl rfl)
theorem kw_1422 : Cond.methodLink RX3 230 yX3_mostOfAll ∈ kBIG := (kb_g6 kS13_6 kS13_6g 6 8 rfl rfl)
theorem kw_1434 : Cond.methodLink RX3 107 yX3_roomsNow ∈ kBIG := (kb_g6 kS13_6 kS13_6g 7 2 rfl rfl)
theorem kw_1438 : Cond.methodLink RX3 103 yX3_nextWish ∈ kBIG := (kb_g6 kS13_6 kS13_6g 7 5 rfl rfl)
theorem kw_1446 : Cond.methodLink RX3 233 yX3_roomsOf ∈ kBIG := (kb_g6 kS13_6 kS13_6g 7 8 rfl rfl)
theorem kw_1462 : Cond.methodLink RX3 239 yX3_areSpans ∈ kBIG := (kb_g6 kS13_6 kS13_6g 8 5 rfl rfl)
theorem kw_1470 : Cond.constantLong RX3 245 (8009) ∈ kBIG := (kb_g6 kS13_6 kS13_6g 8 8 rfl rfl)
theorem kw_1471 : Cond.constantLong RX3 243 (31) ∈ kBIG := (kb_g6 kS13_6 kS13_6g 8 9 rfl rfl)
theorem kw_1472 : Cond.methodLink RX3 247 yX3_second ∈ kBIG := (kb_g6 kS13_6 kS13_6g 8 10 rfl rfl)
theorem kw_1473 : Cond.methodLink RX3 250 yX3_nano ∈ kBIG := (kb_g6 kS13_6 kS13_6g 8 11 rfl rfl)
theorem kw_1474 : Cond.methodLink RX3 253 yX3_at ∈ kBIG := (kb_g6 kS13_6 kS13_6g 9 0 rfl rfl)
theorem kw_1475 : Cond.methodLink RX3 256 yX3_freeAt ∈ kBIG := (kb_g6 kS13_6 kS13_6g 9 1 rfl rfl)
theorem kw_1476 : Cond.methodLink RX3 259 yX3_calendar ∈ kBIG := (kb_g6 kS13_6 kS13_6g 9 2 rfl rfl)
theorem kw_1477 : Cond.methodLink RX3 262 yX3_added ∈ kBIG := (kb_g6 kS13_6 kS13_6g 9 3 rfl rfl)
theorem kw_1481 : Cond.methodLink RX3 266 yX3_clashes ∈ kBIG := (kb_g6 kS13_6 kS13_6g 9 6 rfl rfl)
theorem kw_1482 : Cond.methodLink RX3 269 yX3_deepest_ ∈ kBIG := (kb_g6 kS13_6 kS13_6g 9 7 rfl rfl)
theorem kw_1483 : Cond.methodLink RX3 271 yX3_frees ∈ kBIG := (kb_g6 kS13_6 kS13_6g 9 8 rfl rfl)
theorem kw_1484 : Cond.methodLink RX3 274 yX3_ofFree ∈ kBIG := (kb_g6 kS13_6 kS13_6g 9 9 rfl rfl)
theorem kw_1485 : Cond.methodLink RX3 277 yX3_length ∈ kBIG := (kb_g6 kS13_6 kS13_6g 9 10 rfl rfl)
theorem kw_1486 : Cond.methodLink RX3 280 yX3_crowd ∈ kBIG := (kb_g6 kS13_6 kS13_6g 9 11 rfl rfl)
theorem kw_1487 : Cond.methodLink RX3 283 yX3_house ∈ kBIG := (kb_g6 kS13_6 kS13_6g 10 0 rfl rfl)
theorem kw_1488 : Cond.methodLink RX3 286 yX3_isSound ∈ kBIG := (kb_g6 kS13_6 kS13_6g 10 1 rfl rfl)
theorem kv_J4_append_15ec4 : kVt yJ4_append_15ec4 cJ4_append_15ec4 2 (some (.object "java/lang/StringBuilder")) 1 := ⟨(kb_g4 kS13_4 kS13_4g 0 2 rfl rfl), (kb_g4 kS13_4 kS13_4g 0 0 rfl rfl), (kb_g4 kS13_4 kS13_4g 0 1 rfl rfl), (kb_g1 kS13_1 kS13_1g 0 1 rfl rfl), kmh_RJ4, kvh_RJ4, pd_43⟩
theorem kv_X3_added : kVt yX3_added cX3_added 8 (some .long) 4 := ⟨(kb_g6 kS13_6 kS13_6g 9 5 rfl rfl), (kb_g6 kS13_6 kS13_6g 9 4 rfl rfl), kb_in 55 (by decide +kernel), (kb_g1 kS13_1 kS13_1g 0 0 rfl rfl), kmh_RX3, kvh_RX3, pd_44⟩
theorem kv_X3_areApart : kVt yX3_areApart cX3_areApart 4 (some .boolean) 1 := ⟨(kb_g6 kS13_6 kS13_6g 5 10 rfl rfl), (kb_g6 kS13_6 kS13_6g 5 9 rfl rfl), kb_in 47 (by decide +kernel), (kb_g1 kS13_1 kS13_1g 0 0 rfl rfl), kmh_RX3, kvh_RX3, pd_25⟩
theorem kv_X3_areLet : kSt yX3_areLet cX3_areLet 5 (some .boolean) 3 := ⟨(kb_g5 kS13_5 kS13_5g 4 9 rfl rfl), (kb_g5 kS13_5 kS13_5g 4 8 rfl rfl), (kb_g1 kS13_1 kS13_1g 0 0 rfl rfl), kmh_RX3, kvh_RX3, pd_45⟩
theorem kv_X3_areNone : kVt yX3_areNone cX3_areNone 3 (some .boolean) 2 := ⟨(kb_g6 kS13_6 kS13_6g 1 9 rfl rfl), (kb_g6 kS13_6 kS13_6g 1 8 rfl rfl), kb_in 42 (by decide +kernel), (kb_g1 kS13_1 kS13_1g 0 0 rfl rfl), kmh_RX3, kvh_RX3, pd_22⟩
theorem kv_X3_areSpans : kVt yX3_areSpans cX3_areSpans 3 (some .boolean) 0 := ⟨(kb_g6 kS13_6 kS13_6g 8 7 rfl rfl), (kb_g6 kS13_6 kS13_6g 8 6 rfl rfl), kb_in 54 (by decide +kernel), (kb_g1 kS13_1 kS13_1g 0 0 rfl rfl), kmh_RX3, kvh_RX3, pd_10⟩
theorem kv_X3_at : kVt yX3_at cX3_at 2 (some .int) 1 := ⟨(kb_g6 kS13_6 kS13_6g 2 9 rfl rfl), (kb_g6 kS13_6 kS13_6g 2 7 rfl rfl), (kb_g6 kS13_6 kS13_6g 2 8 rfl rfl), (kb_g1 kS13_1 kS13_1g 0 0 rfl rfl), kmh_RX3, kvh_RX3, pd_11⟩
theorem kv_X3_calendar : kVt yX3_calendar cX3_calendar 2 (some .int) 1 := ⟨(kb_g6 kS13_6 kS13_6g 2 3 rfl rfl), (kb_g6 kS13_6 kS13_6g 2 1 rfl rfl), (kb_g6 kS13_6 kS13_6g 2 2 rfl rfl), (kb_g1 kS13_1 kS13_1g 0 0 rfl rfl), kmh_RX3, kvh_RX3, pd_11⟩
theorem kv_X3_chosenNow : kVt yX3_chosenNow cX3_chosenNow 4 (some .int) 0 := ⟨(kb_g6 kS13_6 kS13_6g 6 4 rfl rfl), (kb_g6 kS13_6 kS13_6g 6 3 rfl rfl), kb_in 49 (by decide +kernel), (kb_g1 kS13_1 kS13_1g 0 0 rfl rfl), kmh_RX3, kvh_RX3, pd_2⟩
theorem kv_X3_clashes : kVt yX3_clashes cX3_clashes 4 (some .int) 0 := ⟨(kb_g6 kS13_6 kS13_6g 2 6 rfl rfl), (kb_g6 kS13_6 kS13_6g 2 4 rfl rfl), (kb_g6 kS13_6 kS13_6g 2 5 rfl rfl), (kb_g1 kS13_1 kS13_1g 0 0 rfl rfl), kmh_RX3, kvh_RX3, pd_2⟩
theorem kv_X3_come : kVt yX3_come cX3_come 6 (some .int) 3 := ⟨(kb_g5 kS13_5 kS13_5g 6 3 rfl rfl), (kb_g5 kS13_5 kS13_5g 6 2 rfl rfl), kb_in 37 (by decide +kernel), (kb_g1 kS13_1 kS13_1g 0 0 rfl rfl), kmh_RX3, kvh_RX3, pd_19⟩
theorem kv_X3_crowd : kVt yX3_crowd cX3_crowd 1 (some .int) 0 := ⟨(kb_g6 kS13_6 kS13_6g 7 1 rfl rfl), (kb_g6 kS13_6 kS13_6g 6 11 rfl rfl), (kb_g6 kS13_6 kS13_6g 7 0 rfl rfl), (kb_g1 kS13_1 kS13_1g 0 0 rfl rfl), kmh_RX3, kvh_RX3, pd_2⟩
theorem kv_X3_deepest : kSt yX3_deepest cX3_deepest 7 (some .int) 3 := ⟨(kb_g6 kS13_6 kS13_6g 3 6 rfl rfl), (kb_g6 kS13_6 kS13_6g 3 5 rfl rfl), (kb_g1 kS13_1 kS13_1g 0 0 rfl rfl), kmh_RX3, kvh_RX3, pd_46⟩
theorem kv_X3_deepest_ : kVt yX3_deepest_ cX3_deepest_ 1 (some .int) 0 := ⟨(kb_g6 kS13_6 kS13_6g 3 3 rfl rfl), (kb_g6 kS13_6 kS13_6g 3 1 rfl rfl), (kb_g6 kS13_6 kS13_6g 3 2 rfl rfl), (kb_g1 kS13_1 kS13_1g 0 0 rfl rfl), kmh_RX3, kvh_RX3, pd_2⟩
theorem kv_X3_done : kVt yX3_done cX3_done 2 (some .int) 1 := ⟨(kb_g5 kS13_5 kS13_5g 3 5 rfl rfl), (kb_g5 kS13_5 kS13_5g 3 4 rfl rfl), kb_in 32 (by decide +kernel), (kb_g1 kS13_1 kS13_1g 0 0 rfl rfl), kmh_RX3, kvh_RX3, pd_11⟩
theorem kv_X3_fits : kVt yX3_fits cX3_fits 5 (some .boolean) 2 := ⟨(kb_g5 kS13_5 kS13_5g 7 1 rfl rfl), (kb_g5 kS13_5 kS13_5g 7 0 rfl rfl), kb_in 39 (by decide +kernel), (kb_g1 kS13_1 kS13_1g 0 0 rfl rfl), kmh_RX3, kvh_RX3, pd_33⟩
theorem kv_X3_free : kVt yX3_free cX3_free 7 (some (.array .long)) 0 := ⟨(kb_g6 kS13_6 kS13_6g 4 1 rfl rfl), (kb_g6 kS13_6 kS13_6g 4 0 rfl rfl), kb_in 44 (by decide +kernel), (kb_g1 kS13_1 kS13_1g 0 0 rfl rfl), kmh_RX3, kvh_RX3, pd_47⟩
theorem kv_X3_freeAt : kVt yX3_freeAt cX3_freeAt 4 (some .int) 1 := ⟨(kb_g6 kS13_6 kS13_6g 4 10 rfl rfl), (kb_g6 kS13_6 kS13_6g 4 8 rfl rfl), (kb_g6 kS13_6 kS13_6g 4 9 rfl rfl), (kb_g1 kS13_1 kS13_1g 0 0 rfl rfl), kmh_RX3, kvh_RX3, pd_11⟩
theorem kv_X3_freeLength : kVt yX3_freeLength cX3_freeLength 5 (some .long) 0 := ⟨(kb_g6 kS13_6 kS13_6g 5 7 rfl rfl), (kb_g6 kS13_6 kS13_6g 5 6 rfl rfl), kb_in 46 (by decide +kernel), (kb_g1 kS13_1 kS13_1g 0 0 rfl rfl), kmh_RX3, kvh_RX3, pd_32⟩
theorem kv_X3_frees : kVt yX3_frees cX3_frees 1 (some .int) 0 := ⟨(kb_g6 kS13_6 kS13_6g 3 10 rfl rfl), (kb_g6 kS13_6 kS13_6g 3 8 rfl rfl), (kb_g6 kS13_6 kS13_6g 3 9 rfl rfl), (kb_g1 kS13_1 kS13_1g 0 0 rfl rfl), kmh_RX3, kvh_RX3, pd_2⟩
theorem kv_X3_freesOf : kSt yX3_freesOf cX3_freesOf 2 (some .int) 1 := ⟨(kb_g6 kS13_6 kS13_6g 4 4 rfl rfl), (kb_g6 kS13_6 kS13_6g 4 3 rfl rfl), (kb_g1 kS13_1 kS13_1g 0 0 rfl rfl), kmh_RX3, kvh_RX3, pd_48⟩
theorem kv_X3_gone : kVt yX3_gone cX3_gone 3 none 1 := ⟨(kb_g6 kS13_6 kS13_6g 0 4 rfl rfl), (kb_g6 kS13_6 kS13_6g 0 3 rfl rfl), kb_in 41 (by decide +kernel), (kb_g1 kS13_1 kS13_1g 0 0 rfl rfl), kmh_RX3, kvh_RX3, pd_7⟩
theorem kv_X3_half : kSt yX3_half cX3_half 3 (some .int) 2 := ⟨(kb_g6 kS13_6 kS13_6g 2 0 rfl rfl), (kb_g6 kS13_6 kS13_6g 1 11 rfl rfl), (kb_g1 kS13_1 kS13_1g 0 0 rfl rfl), kmh_RX3, kvh_RX3, pd_28⟩
theorem kv_X3_house : kVt yX3_house cX3_house 2 (some .int) 1 := ⟨(kb_g6 kS13_6 kS13_6g 8 1 rfl rfl), (kb_g6 kS13_6 kS13_6g 7 11 rfl rfl), (kb_g6 kS13_6 kS13_6g 8 0 rfl rfl), (kb_g1 kS13_1 kS13_1g 0 0 rfl rfl), kmh_RX3, kvh_RX3, pd_11⟩
theorem kv_X3_is : kSt yX3_is cX3_is 1 (some .boolean) 1 := ⟨(kb_g5 kS13_5 kS13_5g 1 6 rfl rfl), (kb_g5 kS13_5 kS13_5g 1 5 rfl rfl), (kb_g1 kS13_1 kS13_1g 0 0 rfl rfl), kmh_RX3, kvh_RX3, pd_25⟩
theorem kv_X3_isIn : kVt yX3_isIn cX3_isIn 5 (some .boolean) 2 := ⟨(kb_g5 kS13_5 kS13_5g 5 6 rfl rfl), (kb_g5 kS13_5 kS13_5g 5 5 rfl rfl), kb_in 35 (by decide +kernel), (kb_g1 kS13_1 kS13_1g 0 0 rfl rfl), kmh_RX3, kvh_RX3, pd_33⟩
theorem kv_X3_isLet : kSt yX3_isLet cX3_isLet 2 (some .boolean) 1 := ⟨(kb_g5 kS13_5 kS13_5g 2 5 rfl rfl), (kb_g5 kS13_5 kS13_5g 2 4 rfl rfl), (kb_g1 kS13_1 kS13_1g 0 0 rfl rfl), kmh_RX3, kvh_RX3, pd_26⟩
theorem kv_X3_isNoUnit : kSt yX3_isNoUnit cX3_isNoUnit 2 (some .boolean) 2 := ⟨(kb_g5 kS13_5 kS13_5g 3 8 rfl rfl), (kb_g5 kS13_5 kS13_5g 3 7 rfl rfl), (kb_g1 kS13_1 kS13_1g 0 0 rfl rfl), kmh_RX3, kvh_RX3, pd_22⟩
theorem kv_X3_isSound : kVt yX3_isSound cX3_isSound 2 (some .boolean) 0 := ⟨(kb_g6 kS13_6 kS13_6g 8 4 rfl rfl), (kb_g6 kS13_6 kS13_6g 8 2 rfl rfl), (kb_g6 kS13_6 kS13_6g 8 3 rfl rfl), (kb_g1 kS13_1 kS13_1g 0 0 rfl rfl), kmh_RX3, kvh_RX3, pd_10⟩
theorem kv_X3_isSpan : kVt yX3_isSpan cX3_isSpan 2 (some .boolean) 1 := ⟨(kb_g5 kS13_5 kS13_5g 6 6 rfl rfl), (kb_g5 kS13_5 kS13_5g 6 5 rfl rfl), kb_in 38 (by decide +kernel), (kb_g1 kS13_1 kS13_1g 0 0 rfl rfl), kmh_RX3, kvh_RX3, pd_25⟩
theorem kv_X3_isThrown : kVt yX3_isThrown cX3_isThrown 3 (some .boolean) 2 := ⟨(kb_g5 kS13_5 kS13_5g 2 1 rfl rfl), (kb_g5 kS13_5 kS13_5g 2 0 rfl rfl), kb_in 30 (by decide +kernel), (kb_g1 kS13_1 kS13_1g 0 0 rfl rfl), kmh_RX3, kvh_RX3, pd_49⟩
theorem kv_X3_isThrown_ : kVt yX3_isThrown_ cX3_isThrown_ 2 (some .boolean) 1 := ⟨(kb_g5 kS13_5 kS13_5g 4 6 rfl rfl), (kb_g5 kS13_5 kS13_5g 4 5 rfl rfl), kb_in 33 (by decide +kernel), (kb_g1 kS13_1 kS13_1g 0 0 rfl rfl), kmh_RX3, kvh_RX3, pd_50⟩
theorem kv_X3_isWish : kVt yX3_isWish cX3_isWish 2 (some .boolean) 1 := ⟨(kb_g6 kS13_6 kS13_6g 0 1 rfl rfl), (kb_g6 kS13_6 kS13_6g 0 0 rfl rfl), kb_in 40 (by decide +kernel), (kb_g1 kS13_1 kS13_1g 0 0 rfl rfl), kmh_RX3, kvh_RX3, pd_25⟩
theorem kv_X3_length : kVt yX3_length cX3_length 2 (some .int) 1 := ⟨(kb_g6 kS13_6 kS13_6g 5 1 rfl rfl), (kb_g6 kS13_6 kS13_6g 4 11 rfl rfl), (kb_g6 kS13_6 kS13_6g 5 0 rfl rfl), (kb_g1 kS13_1 kS13_1g 0 0 rfl rfl), kmh_RX3, kvh_RX3, pd_11⟩
theorem kv_X3_less : kSt yX3_less cX3_less 6 (some .int) 3 := ⟨(kb_g5 kS13_5 kS13_5g 6 9 rfl rfl), (kb_g5 kS13_5 kS13_5g 6 8 rfl rfl), (kb_g1 kS13_1 kS13_1g 0 0 rfl rfl), kmh_RX3, kvh_RX3, pd_51⟩
theorem kv_X3_mayCome : kVt yX3_mayCome cX3_mayCome 6 (some .boolean) 3 := ⟨(kb_g5 kS13_5 kS13_5g 5 3 rfl rfl), (kb_g5 kS13_5 kS13_5g 5 2 rfl rfl), kb_in 34 (by decide +kernel), (kb_g1 kS13_1 kS13_1g 0 0 rfl rfl), kmh_RX3, kvh_RX3, pd_52⟩
theorem kv_X3_meet : kSt yX3_meet cX3_meet 8 (some .boolean) 4 := ⟨(kb_g5 kS13_5 kS13_5g 6 0 rfl rfl), (kb_g5 kS13_5 kS13_5g 5 11 rfl rfl), (kb_g1 kS13_1 kS13_1g 0 0 rfl rfl), kmh_RX3, kvh_RX3, pd_53⟩
theorem kv_X3_meetsSome : kVt yX3_meetsSome cX3_meetsSome 7 (some .boolean) 3 := ⟨(kb_g5 kS13_5 kS13_5g 5 9 rfl rfl), (kb_g5 kS13_5 kS13_5g 5 8 rfl rfl), kb_in 36 (by decide +kernel), (kb_g1 kS13_1 kS13_1g 0 0 rfl rfl), kmh_RX3, kvh_RX3, pd_54⟩
theorem kv_X3_mostOfAll : kVt yX3_mostOfAll cX3_mostOfAll 3 (some .int) 0 := ⟨(kb_g6 kS13_6 kS13_6g 6 10 rfl rfl), (kb_g6 kS13_6 kS13_6g 6 9 rfl rfl), kb_in 50 (by decide +kernel), (kb_g1 kS13_1 kS13_1g 0 0 rfl rfl), kmh_RX3, kvh_RX3, pd_2⟩
theorem kv_X3_nano : kVt yX3_nano cX3_nano 2 (some .int) 1 := ⟨(kb_g6 kS13_6 kS13_6g 0 10 rfl rfl), (kb_g6 kS13_6 kS13_6g 0 8 rfl rfl), (kb_g6 kS13_6 kS13_6g 0 9 rfl rfl), (kb_g1 kS13_1 kS13_1g 0 0 rfl rfl), kmh_RX3, kvh_RX3, pd_11⟩
theorem kv_X3_nanoOf : kSt yX3_nanoOf cX3_nanoOf 2 (some .int) 1 := ⟨(kb_g6 kS13_6 kS13_6g 1 1 rfl rfl), (kb_g6 kS13_6 kS13_6g 1 0 rfl rfl), (kb_g1 kS13_1 kS13_1g 0 0 rfl rfl), kmh_RX3, kvh_RX3, pd_21⟩
theorem kv_X3_nextWish : kVt yX3_nextWish cX3_nextWish 4 (some .int) 1 := ⟨(kb_g6 kS13_6 kS13_6g 7 7 rfl rfl), (kb_g6 kS13_6 kS13_6g 7 6 rfl rfl), kb_in 52 (by decide +kernel), (kb_g1 kS13_1 kS13_1g 0 0 rfl rfl), kmh_RX3, kvh_RX3, pd_55⟩
theorem kv_X3_no : kVt yX3_no cX3_no 1 (some .int) 0 := ⟨(kb_g5 kS13_5 kS13_5g 2 10 rfl rfl), (kb_g5 kS13_5 kS13_5g 2 9 rfl rfl), kb_in 31 (by decide +kernel), (kb_g1 kS13_1 kS13_1g 0 0 rfl rfl), kmh_RX3, kvh_RX3, pd_2⟩
theorem kv_X3_ofFree : kVt yX3_ofFree cX3_ofFree 4 (some .int) 2 := ⟨(kb_g6 kS13_6 kS13_6g 4 7 rfl rfl), (kb_g6 kS13_6 kS13_6g 4 5 rfl rfl), (kb_g6 kS13_6 kS13_6g 4 6 rfl rfl), (kb_g1 kS13_1 kS13_1g 0 0 rfl rfl), kmh_RX3, kvh_RX3, pd_56⟩
theorem kv_X3_ones : kSt yX3_ones cX3_ones 3 (some .int) 1 := ⟨(kb_g6 kS13_6 kS13_6g 6 7 rfl rfl), (kb_g6 kS13_6 kS13_6g 6 6 rfl rfl), (kb_g1 kS13_1 kS13_1g 0 0 rfl rfl), kmh_RX3, kvh_RX3, pd_11⟩
theorem kv_X3_roomsNow : kVt yX3_roomsNow cX3_roomsNow 5 (some (.array .int)) 0 := ⟨(kb_g6 kS13_6 kS13_6g 7 4 rfl rfl), (kb_g6 kS13_6 kS13_6g 7 3 rfl rfl), kb_in 51 (by decide +kernel), (kb_g1 kS13_1 kS13_1g 0 0 rfl rfl), kmh_RX3, kvh_RX3, pd_57⟩
theorem kv_X3_roomsOf : kVt yX3_roomsOf cX3_roomsOf 6 (some .int) 0 := ⟨(kb_g6 kS13_6 kS13_6g 7 10 rfl rfl), (kb_g6 kS13_6 kS13_6g 7 9 rfl rfl), kb_in 53 (by decide +kernel), (kb_g1 kS13_1 kS13_1g 0 0 rfl rfl), kmh_RX3, kvh_RX3, pd_2⟩
theorem kv_X3_second : kVt yX3_second cX3_second 2 (some .int) 1 := ⟨(kb_g6 kS13_6 kS13_6g 0 7 rfl rfl), (kb_g6 kS13_6 kS13_6g 0 5 rfl rfl), (kb_g6 kS13_6 kS13_6g 0 6 rfl rfl), (kb_g1 kS13_1 kS13_1g 0 0 rfl rfl), kmh_RX3, kvh_RX3, pd_11⟩
theorem kv_X3_secondOf : kSt yX3_secondOf cX3_secondOf 2 (some .int) 1 := ⟨(kb_g5 kS13_5 kS13_5g 3 1 rfl rfl), (kb_g5 kS13_5 kS13_5g 3 0 rfl rfl), (kb_g1 kS13_1 kS13_1g 0 0 rfl rfl), kmh_RX3, kvh_RX3, pd_21⟩
theorem kv_X3_shifted : kSt yX3_shifted cX3_shifted 5 (some (.array .long)) 2 := ⟨(kb_g5 kS13_5 kS13_5g 5 0 rfl rfl), (kb_g5 kS13_5 kS13_5g 4 11 rfl rfl), (kb_g1 kS13_1 kS13_1g 0 0 rfl rfl), kmh_RX3, kvh_RX3, pd_58⟩
theorem kv_X3_sign : kSt yX3_sign cX3_sign 2 (some .int) 1 := ⟨(kb_g5 kS13_5 kS13_5g 4 3 rfl rfl), (kb_g5 kS13_5 kS13_5g 4 2 rfl rfl), (kb_g1 kS13_1 kS13_1g 0 0 rfl rfl), kmh_RX3, kvh_RX3, pd_21⟩
theorem kv_X3_spanAt : kVt yX3_spanAt cX3_spanAt 4 (some .int) 1 := ⟨(kb_g6 kS13_6 kS13_6g 3 0 rfl rfl), (kb_g6 kS13_6 kS13_6g 2 11 rfl rfl), kb_in 43 (by decide +kernel), (kb_g1 kS13_1 kS13_1g 0 0 rfl rfl), kmh_RX3, kvh_RX3, pd_21⟩
theorem kv_X3_takenLength : kVt yX3_takenLength cX3_takenLength 9 (some .long) 0 := ⟨(kb_g6 kS13_6 kS13_6g 5 4 rfl rfl), (kb_g6 kS13_6 kS13_6g 5 3 rfl rfl), kb_in 45 (by decide +kernel), (kb_g1 kS13_1 kS13_1g 0 0 rfl rfl), kmh_RX3, kvh_RX3, pd_32⟩
theorem kv_X3_units : kSt yX3_units cX3_units 2 (some .long) 2 := ⟨(kb_g5 kS13_5 kS13_5g 3 11 rfl rfl), (kb_g5 kS13_5 kS13_5g 3 10 rfl rfl), (kb_g1 kS13_1 kS13_1g 0 0 rfl rfl), kmh_RX3, kvh_RX3, pd_35⟩
theorem kv_X3_wishesMeet : kVt yX3_wishesMeet cX3_wishesMeet 3 (some .boolean) 2 := ⟨(kb_g6 kS13_6 kS13_6g 6 1 rfl rfl), (kb_g6 kS13_6 kS13_6g 6 0 rfl rfl), kb_in 48 (by decide +kernel), (kb_g1 kS13_1 kS13_1g 0 0 rfl rfl), kmh_RX3, kvh_RX3, pd_22⟩
end
-- 14.moa.lean.txt
section
noncomputable abbrev wsX3_secondOf : List Cond := kWs yX3_secondOf cX3_secondOf 2 (some .int)
noncomputable def f_X3_secondOf (p0 : Int64) : Option (Int32) :=
  if p0 < 0 then
    some ((-((999999999 - p0) / 1000000000)).toInt32)
  else
    some ((p0 / 1000000000).toInt32)
theorem f_X3_secondOf_e {p0 : Int64} : f_X3_secondOf p0 = 
  if p0 < 0 then
    some ((-((999999999 - p0) / 1000000000)).toInt32)
  else
    some ((p0 / 1000000000).toInt32) := rfl
set_option maxHeartbeats 4000000 in
set_option maxRecDepth 100000 in
theorem c_X3_secondOf (l : Launch) (dC : Nat → ClassId) (dI : Nat → Nat → Nat) (cB cI cJ cZ : ClassId) (sz : Nat) (p0 : Int64) (res : Int32) (hf : f_X3_secondOf p0 = some res) : kMi l yX3_secondOf wsX3_secondOf (kRm 0 0 0 0) dC dI cB cI cJ cZ [.long p0] sz [] .int (res) [] 0 0 := by
  refine kmet_i (y := yX3_secondOf) (cc := cX3_secondOf) (maxL := 2) (ret := (some .int)) RX3 (kvJ 0 p0 kvE) kpl_X3 rfl rfl (Nat.le_of_ble_eq_true rfl) rfl (fun p e s m below meth c A ls hx hb hr hml hts hown hlocks hP hK hG hD hA hS hl => ?_)
  have hw0 := hts (.constantLong RX3 41 (999999999)) (List.mem_cons_of_mem _ kw_1143)
  have hw1 := hts (.constantLong RX3 39 (1000000000)) (List.mem_cons_of_mem _ kw_1130)
  have h := f_X3_secondOf_e.symm.trans hf
  refine lv_lload_n hx hb (kdr dgX3_secondOf_0 0 0 rfl rfl) rfl (lv_at hl 0 rfl) ?_
  refine lv_lconst (v := 0) hx hb (kdr dgX3_secondOf_0 0 1 rfl rfl) (by decide) ?_
  refine kl_lt (pc := 2) (tgt := 14) hx hb (kdr dgX3_secondOf_0 0 2 rfl rfl) (kdr dgX3_secondOf_0 0 3 rfl rfl) (by decide) (fun c1 => ?_) (fun c1 => ?_)
  · have h := g_t c1 h
    refine lv_ldc2 (v := (999999999)) hx hb hown hw0 (kdr dgX3_secondOf_0 0 8 rfl rfl) ?_
    refine lv_lload_n hx hb (kdr dgX3_secondOf_0 0 9 rfl rfl) rfl (lv_at hl 0 rfl) ?_
    refine lv_lsub hx hb (kdr dgX3_secondOf_0 1 0 rfl rfl) ?_
    refine lv_ldc2 (v := (1000000000)) hx hb hown hw1 (kdr dgX3_secondOf_0 1 1 rfl rfl) ?_
    refine lv_ldiv hx hb (kdr dgX3_secondOf_0 1 2 rfl rfl) (by decide) ?_
    refine lv_lneg hx hb (kdr dgX3_secondOf_0 1 3 rfl rfl) ?_
    refine lv_l2i (v := (-((999999999 - p0) / 1000000000)).toInt32) hx hb (kdr dgX3_secondOf_0 1 4 rfl rfl) rfl ?_
    have h := Option.some.inj h
    subst h
    exact kret_i (v := (-((999999999 - p0) / 1000000000)).toInt32) hx hb hr rfl hlocks hS hP (kdr dgX3_secondOf_0 1 5 rfl rfl)
  · have h := g_f c1 h
    refine lv_lload_n hx hb (kdr dgX3_secondOf_0 0 4 rfl rfl) rfl (lv_at hl 0 rfl) ?_
    refine lv_ldc2 (v := (1000000000)) hx hb hown hw1 (kdr dgX3_secondOf_0 0 5 rfl rfl) ?_
    refine lv_ldiv hx hb (kdr dgX3_secondOf_0 0 6 rfl rfl) (by decide) ?_
    refine lv_goto (tgt := 24) hx hb (kdr dgX3_secondOf_0 0 7 rfl rfl) (by decide) ?_
    refine lv_l2i (v := (p0 / 1000000000).toInt32) hx hb (kdr dgX3_secondOf_0 1 4 rfl rfl) rfl ?_
    have h := Option.some.inj h
    subst h
    exact kret_i (v := (p0 / 1000000000).toInt32) hx hb hr rfl hlocks hS hP (kdr dgX3_secondOf_0 1 5 rfl rfl)
noncomputable abbrev wsX3_nanoOf : List Cond := kWs yX3_nanoOf cX3_nanoOf 2 (some .int)
noncomputable def f_X3_nanoOf (p0 : Int64) : Option (Int32) :=
  (f_X3_secondOf p0).bind fun r1 =>
  some ((p0 - (r1.toInt64 * 1000000000)).toInt32)
theorem f_X3_nanoOf_e {p0 : Int64} : f_X3_nanoOf p0 = 
  (f_X3_secondOf p0).bind fun r1 =>
  some ((p0 - (r1.toInt64 * 1000000000)).toInt32) := rfl
set_option maxHeartbeats 4000000 in
set_option maxRecDepth 100000 in
theorem c_X3_nanoOf (l : Launch) (dC : Nat → ClassId) (dI : Nat → Nat → Nat) (cB cI cJ cZ : ClassId) (sz : Nat) (p0 : Int64) (res : Int32) (hf : f_X3_nanoOf p0 = some res) : kMi l yX3_nanoOf wsX3_nanoOf (kRm 1 0 0 21) dC dI cB cI cJ cZ [.long p0] sz [] .int (res) [] 0 0 := by
  refine kmet_i (y := yX3_nanoOf) (cc := cX3_nanoOf) (maxL := 2) (ret := (some .int)) RX3 (kvJ 0 p0 kvE) kpl_X3 rfl rfl (Nat.le_of_ble_eq_true rfl) rfl (fun p e s m below meth c A ls hx hb hr hml hts hown hlocks hP hK hG hD hA hS hl => ?_)
  have hw0 := hts (.constantLong RX3 39 (1000000000)) (List.mem_cons_of_mem _ kw_1130)
  have h := f_X3_nanoOf_e.symm.trans hf
  refine lv_lload_n hx hb (kdr dgX3_nanoOf_0 0 0 rfl rfl) rfl (lv_at hl 0 rfl) ?_
  refine lv_lload_n hx hb (kdr dgX3_nanoOf_0 0 1 rfl rfl) rfl (lv_at hl 0 rfl) ?_
  obtain ⟨r1, g1, h⟩ := g_b h
  refine kq_i [] (fun qP qD qF => va_runS (As := [.long p0]) (rest := [.long p0]) ⟨hx, hb, hml, hown, hts⟩ (c_X3_secondOf l dC dI cB cI cJ cZ  _  p0 r1 g1) (kcwS hts kw_1140 kv_X3_secondOf rfl rfl ⟨(Nat.le_of_ble_eq_true rfl), (Nat.le_of_ble_eq_true rfl)⟩) (kpS (A := A) (kPnil) hK ((kDnil (A := A))) hG) rfl rfl hl.1 rfl (lv_room (Nat.le_of_ble_eq_true rfl)) (kdr dgX3_nanoOf_0 0 2 rfl rfl) ⟨(Nat.le_of_ble_eq_true rfl), (Nat.le_of_ble_eq_true rfl)⟩) hP hD hS hA kFr_n (fun H locs hP hD hS br1 => ?_)
  refine lv_i2l (v := r1.toInt64) hx hb (kdr dgX3_nanoOf_0 0 3 rfl rfl) rfl ?_
  refine lv_ldc2 (v := (1000000000)) hx hb hown hw0 (kdr dgX3_nanoOf_0 0 4 rfl rfl) ?_
  refine lv_lmul hx hb (kdr dgX3_nanoOf_0 0 5 rfl rfl) ?_
  refine lv_lsub hx hb (kdr dgX3_nanoOf_0 0 6 rfl rfl) ?_
  refine lv_l2i (v := (p0 - (r1.toInt64 * 1000000000)).toInt32) hx hb (kdr dgX3_nanoOf_0 0 7 rfl rfl) rfl ?_
  have h := Option.some.inj h
  subst h
  exact kret_i (v := (p0 - (r1.toInt64 * 1000000000)).toInt32) hx hb hr rfl hlocks hS hP (kdr dgX3_nanoOf_0 0 8 rfl rfl)
noncomputable abbrev wsX3_isLet : List Cond := kWs yX3_isLet cX3_isLet 2 (some .boolean)
noncomputable def f_X3_isLet (p0 : Int64) : Option (Int32) :=
  if p0 < (-1000000000000000000) then
    some 0
  else
    if 1000000001000000000 ≤ p0 then
      some 0
    else
      some 1
theorem f_X3_isLet_e {p0 : Int64} : f_X3_isLet p0 = 
  if p0 < (-1000000000000000000) then
    some 0
  else
    if 1000000001000000000 ≤ p0 then
      some 0
    else
      some 1 := rfl
set_option maxHeartbeats 4000000 in
set_option maxRecDepth 100000 in
theorem c_X3_isLet (l : Launch) (dC : Nat → ClassId) (dI : Nat → Nat → Nat) (cB cI cJ cZ : ClassId) (sz : Nat) (p0 : Int64) (res : Int32) (hf : f_X3_isLet p0 = some res) : kMi l yX3_isLet wsX3_isLet (kRm 0 0 0 0) dC dI cB cI cJ cZ [.long p0] sz [] .boolean (res) [] 0 0 := by
  refine kmet_i (y := yX3_isLet) (cc := cX3_isLet) (maxL := 2) (ret := (some .boolean)) RX3 (kvJ 0 p0 kvE) kpl_X3 rfl rfl (Nat.le_of_ble_eq_true rfl) rfl (fun p e s m below meth c A ls hx hb hr hml hts hown hlocks hP hK hG hD hA hS hl => ?_)
  have hw0 := hts (.constantLong RX3 47 (-1000000000000000000)) (List.mem_cons_of_mem _ kw_1134)
  have hw1 := hts (.constantLong RX3 49 (1000000001000000000)) (List.mem_cons_of_mem _ kw_1135)
  have h := f_X3_isLet_e.symm.trans hf
  refine lv_lload_n hx hb (kdr dgX3_isLet_0 0 0 rfl rfl) rfl (lv_at hl 0 rfl) ?_
  refine lv_ldc2 (v := (-1000000000000000000)) hx hb hown hw0 (kdr dgX3_isLet_0 0 1 rfl rfl) ?_
  refine kl_lt (pc := 4) (tgt := 20) hx hb (kdr dgX3_isLet_0 0 2 rfl rfl) (kdr dgX3_isLet_0 0 3 rfl rfl) (by decide) (fun c1 => ?_) (fun c1 => ?_)
  · have h := g_t c1 h
    refine lv_iconst (v := 0) hx hb (kdr dgX3_isLet_0 1 0 rfl rfl) (by decide) ?_
    have h := Option.some.inj h
    subst h
    exact kret_i (v := 0) hx hb hr rfl hlocks hS hP (kdr dgX3_isLet_0 1 1 rfl rfl)
  · have h := g_f c1 h
    refine lv_lload_n hx hb (kdr dgX3_isLet_0 0 4 rfl rfl) rfl (lv_at hl 0 rfl) ?_
    refine lv_ldc2 (v := (1000000001000000000)) hx hb hown hw1 (kdr dgX3_isLet_0 0 5 rfl rfl) ?_
    refine kl_ge (pc := 12) (tgt := 20) hx hb (kdr dgX3_isLet_0 0 6 rfl rfl) (kdr dgX3_isLet_0 0 7 rfl rfl) (by decide) (fun c2 => ?_) (fun c2 => ?_)
    · have h := g_t c2 h
      refine lv_iconst (v := 0) hx hb (kdr dgX3_isLet_0 1 0 rfl rfl) (by decide) ?_
      have h := Option.some.inj h
      subst h
      exact kret_i (v := 0) hx hb hr rfl hlocks hS hP (kdr dgX3_isLet_0 1 1 rfl rfl)
    · have h := g_f c2 h
      refine lv_iconst (v := 1) hx hb (kdr dgX3_isLet_0 0 8 rfl rfl) (by decide) ?_
      refine lv_goto (tgt := 21) hx hb (kdr dgX3_isLet_0 0 9 rfl rfl) (by decide) ?_
      have h := Option.some.inj h
      subst h
      exact kret_i (v := 1) hx hb hr rfl hlocks hS hP (kdr dgX3_isLet_0 1 1 rfl rfl)
noncomputable abbrev wsX3_units : List Cond := kWs yX3_units cX3_units 2 (some .long)
noncomputable def f_X3_units (p0 : Int32) (p1 : Int32) : Option (Int64) :=
  if p0 = 0 then
    some (p1.toInt64 * 1000000000)
  else
    if p0 = 1 then
      some (p1.toInt64 * 1000000)
    else
      some (p1.toInt64 * 1)
theorem f_X3_units_e {p0 : Int32} {p1 : Int32} : f_X3_units p0 p1 = 
  if p0 = 0 then
    some (p1.toInt64 * 1000000000)
  else
    if p0 = 1 then
      some (p1.toInt64 * 1000000)
    else
      some (p1.toInt64 * 1) := rfl
set_option maxHeartbeats 4000000 in
set_option maxRecDepth 100000 in
theorem c_X3_units (l : Launch) (dC : Nat → ClassId) (dI : Nat → Nat → Nat) (cB cI cJ cZ : ClassId) (sz : Nat) (p0 : Int32) (p1 : Int32) (res : Int64) (hf : f_X3_units p0 p1 = some res) : kMl l yX3_units wsX3_units (kRm 0 0 0 0) dC dI cB cI cJ cZ [.int p0, .int p1] sz [] (res) [] 0 0 := by
  refine kmet_l (y := yX3_units) (cc := cX3_units) (maxL := 2) (ret := (some .long)) RX3 (kvI 0 p0 (kvI 1 p1 kvE)) kpl_X3 rfl rfl (Nat.le_of_ble_eq_true rfl) rfl (fun p e s m below meth c A ls hx hb hr hml hts hown hlocks hP hK hG hD hA hS hl => ?_)
  have hw0 := hts (.constantLong RX3 51 (1000000)) (List.mem_cons_of_mem _ kw_1158)
  have hw1 := hts (.constantLong RX3 39 (1000000000)) (List.mem_cons_of_mem _ kw_1130)
  have h := f_X3_units_e.symm.trans hf
  refine lv_iload_n hx hb (kdr dgX3_units_0 0 0 rfl rfl) rfl (lv_at hl 1 rfl) ?_
  refine lv_i2l (v := p1.toInt64) hx hb (kdr dgX3_units_0 0 1 rfl rfl) rfl ?_
  refine lv_iload_n hx hb (kdr dgX3_units_0 0 2 rfl rfl) rfl (lv_at hl 0 rfl) ?_
  refine lv_if_ne (tgt := 12) hx hb (kdr dgX3_units_0 0 3 rfl rfl) (by decide) (fun c1 => ?_) (fun c1 => ?_)
  · have h := g_f c1 h
    refine lv_iload_n hx hb (kdr dgX3_units_0 0 6 rfl rfl) rfl (lv_at hl 0 rfl) ?_
    refine lv_iconst (v := 1) hx hb (kdr dgX3_units_0 0 7 rfl rfl) (by decide) ?_
    refine lv_icmp_ne (tgt := 23) hx hb (kdr dgX3_units_0 0 8 rfl rfl) (by decide) (fun c2 => ?_) (fun c2 => ?_)
    · have h := g_f c2 h
      refine lv_lconst (v := 1) hx hb (kdr dgX3_units_0 1 1 rfl rfl) (by decide) ?_
      refine lv_lmul hx hb (kdr dgX3_units_0 1 2 rfl rfl) ?_
      have h := Option.some.inj h
      subst h
      exact kret_l (v := p1.toInt64 * 1) hx hb hr hlocks hS hP (kdr dgX3_units_0 1 3 rfl rfl)
    · have h := g_t c2 h
      refine lv_ldc2 (v := (1000000)) hx hb hown hw0 (kdr dgX3_units_0 0 9 rfl rfl) ?_
      refine lv_goto (tgt := 24) hx hb (kdr dgX3_units_0 1 0 rfl rfl) (by decide) ?_
      refine lv_lmul hx hb (kdr dgX3_units_0 1 2 rfl rfl) ?_
      have h := Option.some.inj h
      subst h
      exact kret_l (v := p1.toInt64 * 1000000) hx hb hr hlocks hS hP (kdr dgX3_units_0 1 3 rfl rfl)
  · have h := g_t c1 h
    refine lv_ldc2 (v := (1000000000)) hx hb hown hw1 (kdr dgX3_units_0 0 4 rfl rfl) ?_
    refine lv_goto (tgt := 24) hx hb (kdr dgX3_units_0 0 5 rfl rfl) (by decide) ?_
    refine lv_lmul hx hb (kdr dgX3_units_0 1 2 rfl rfl) ?_
    have h := Option.some.inj h
    subst h
    exact kret_l (v := p1.toInt64 * 1000000000) hx hb hr hlocks hS hP (kdr dgX3_units_0 1 3 rfl rfl)
noncomputable abbrev wsX3_sign : List Cond := kWs yX3_sign cX3_sign 2 (some .int)
noncomputable def f_X3_sign (p0 : Int64) : Option (Int32) :=
  if 0 ≤ p0 then
    if p0 ≤ 0 then
      some 0
    else
      some 1
  else
    some (-1)
theorem f_X3_sign_e {p0 : Int64} : f_X3_sign p0 = 
  if 0 ≤ p0 then
    if p0 ≤ 0 then
      some 0
    else
      some 1
  else
    some (-1) := rfl
set_option maxHeartbeats 4000000 in
set_option maxRecDepth 100000 in
theorem c_X3_sign (l : Launch) (dC : Nat → ClassId) (dI : Nat → Nat → Nat) (cB cI cJ cZ : ClassId) (sz : Nat) (p0 : Int64) (res : Int32) (hf : f_X3_sign p0 = some res) : kMi l yX3_sign wsX3_sign (kRm 0 0 0 0) dC dI cB cI cJ cZ [.long p0] sz [] .int (res) [] 0 0 := by
  refine kmet_i (y := yX3_sign) (cc := cX3_sign) (maxL := 2) (ret := (some .int)) RX3 (kvJ 0 p0 kvE) kpl_X3 rfl rfl (Nat.le_of_ble_eq_true rfl) rfl (fun p e s m below meth c A ls hx hb hr hml hts hown hlocks hP hK hG hD hA hS hl => ?_)
  have h := f_X3_sign_e.symm.trans hf
  refine lv_lload_n hx hb (kdr dgX3_sign_0 0 0 rfl rfl) rfl (lv_at hl 0 rfl) ?_
  refine lv_lconst (v := 0) hx hb (kdr dgX3_sign_0 0 1 rfl rfl) (by decide) ?_
  refine kl_ge (pc := 2) (tgt := 10) hx hb (kdr dgX3_sign_0 0 2 rfl rfl) (kdr dgX3_sign_0 0 3 rfl rfl) (by decide) (fun c1 => ?_) (fun c1 => ?_)
  · have h := g_t c1 h
    refine lv_lload_n hx hb (kdr dgX3_sign_0 0 6 rfl rfl) rfl (lv_at hl 0 rfl) ?_
    refine lv_lconst (v := 0) hx hb (kdr dgX3_sign_0 0 7 rfl rfl) (by decide) ?_
    refine kl_le (pc := 12) (tgt := 20) hx hb (kdr dgX3_sign_0 0 8 rfl rfl) (kdr dgX3_sign_0 0 9 rfl rfl) (by decide) (fun c2 => ?_) (fun c2 => ?_)
    · have h := g_t c2 h
      refine lv_iconst (v := 0) hx hb (kdr dgX3_sign_0 1 2 rfl rfl) (by decide) ?_
      have h := Option.some.inj h
      subst h
      exact kret_i (v := 0) hx hb hr rfl hlocks hS hP (kdr dgX3_sign_0 1 3 rfl rfl)
    · have h := g_f c2 h
      refine lv_iconst (v := 1) hx hb (kdr dgX3_sign_0 1 0 rfl rfl) (by decide) ?_
      refine lv_goto (tgt := 21) hx hb (kdr dgX3_sign_0 1 1 rfl rfl) (by decide) ?_
      have h := Option.some.inj h
      subst h
      exact kret_i (v := 1) hx hb hr rfl hlocks hS hP (kdr dgX3_sign_0 1 3 rfl rfl)
  · have h := g_f c1 h
    refine lv_iconst (v := (-1)) hx hb (kdr dgX3_sign_0 0 4 rfl rfl) (by decide) ?_
    refine lv_goto (tgt := 21) hx hb (kdr dgX3_sign_0 0 5 rfl rfl) (by decide) ?_
    have h := Option.some.inj h
    subst h
    exact kret_i (v := (-1)) hx hb hr rfl hlocks hS hP (kdr dgX3_sign_0 1 3 rfl rfl)
noncomputable abbrev wsX3_meet : List Cond := kWs yX3_meet cX3_meet 8 (some .boolean)
noncomputable def f_X3_meet (p0 : Int64) (p1 : Int64) (p2 : Int64) (p3 : Int64) : Option (Int32) :=
  if p3 ≤ p0 then
    some 0
  else
    if p1 ≤ p2 then
      some 0
    else
      some 1
theorem f_X3_meet_e {p0 : Int64} {p1 : Int64} {p2 : Int64} {p3 : Int64} : f_X3_meet p0 p1 p2 p3 = 
  if p3 ≤ p0 then
    some 0
  else
    if p1 ≤ p2 then
      some 0
    else
      some 1 := rfl
set_option maxHeartbeats 4000000 in
set_option maxRecDepth 100000 in
theorem c_X3_meet (l : Launch) (dC : Nat → ClassId) (dI : Nat → Nat → Nat) (cB cI cJ cZ : ClassId) (sz : Nat) (p0 : Int64) (p1 : Int64) (p2 : Int64) (p3 : Int64) (res : Int32) (hf : f_X3_meet p0 p1 p2 p3 = some res) : kMi l yX3_meet wsX3_meet (kRm 0 0 0 0) dC dI cB cI cJ cZ [.long p0, .long p1, .long p2, .long p3] sz [] .boolean (res) [] 0 0 := by
  refine kmet_i (y := yX3_meet) (cc := cX3_meet) (maxL := 8) (ret := (some .boolean)) RX3 (kvJ 0 p0 (kvJ 2 p1 (kvJ 4 p2 (kvJ 6 p3 kvE)))) kpl_X3 rfl rfl (Nat.le_of_ble_eq_true rfl) rfl (fun p e s m below meth c A ls hx hb hr hml hts hown hlocks hP hK hG hD hA hS hl => ?_)
  have h := f_X3_meet_e.symm.trans hf
  refine lv_lload_n hx hb (kdr dgX3_meet_0 0 0 rfl rfl) rfl (lv_at hl 0 rfl) ?_
  refine lv_lload hx hb (kdr dgX3_meet_0 0 1 rfl rfl) (lv_at hl 3 rfl) ?_
  refine kl_ge (pc := 3) (tgt := 18) hx hb (kdr dgX3_meet_0 0 2 rfl rfl) (kdr dgX3_meet_0 0 3 rfl rfl) (by decide) (fun c1 => ?_) (fun c1 => ?_)
  · have h := g_t c1 h
    refine lv_iconst (v := 0) hx hb (kdr dgX3_meet_0 1 0 rfl rfl) (by decide) ?_
    have h := Option.some.inj h
    subst h
    exact kret_i (v := 0) hx hb hr rfl hlocks hS hP (kdr dgX3_meet_0 1 1 rfl rfl)
  · have h := g_f c1 h
    refine lv_lload hx hb (kdr dgX3_meet_0 0 4 rfl rfl) (lv_at hl 2 rfl) ?_
    refine lv_lload_n hx hb (kdr dgX3_meet_0 0 5 rfl rfl) rfl (lv_at hl 1 rfl) ?_
    refine kl_ge (pc := 10) (tgt := 18) hx hb (kdr dgX3_meet_0 0 6 rfl rfl) (kdr dgX3_meet_0 0 7 rfl rfl) (by decide) (fun c2 => ?_) (fun c2 => ?_)
    · have h := g_t c2 h
      refine lv_iconst (v := 0) hx hb (kdr dgX3_meet_0 1 0 rfl rfl) (by decide) ?_
      have h := Option.some.inj h
      subst h
      exact kret_i (v := 0) hx hb hr rfl hlocks hS hP (kdr dgX3_meet_0 1 1 rfl rfl)
    · have h := g_f c2 h
      refine lv_iconst (v := 1) hx hb (kdr dgX3_meet_0 0 8 rfl rfl) (by decide) ?_
      refine lv_goto (tgt := 19) hx hb (kdr dgX3_meet_0 0 9 rfl rfl) (by decide) ?_
      have h := Option.some.inj h
      subst h
      exact kret_i (v := 1) hx hb hr rfl hlocks hS hP (kdr dgX3_meet_0 1 1 rfl rfl)
noncomputable abbrev wsX3_isIn : List Cond := kWs yX3_isIn cX3_isIn 5 (some .boolean)
noncomputable def f_X3_isIn (mfr : Int64) (mun : Int64) (p0 : Int64) (p1 : Int64) : Option (Int32) :=
  if p0 < mfr then
    some 0
  else
    if mun < p1 then
      some 0
    else
      some 1
theorem f_X3_isIn_e {mfr : Int64} {mun : Int64} {p0 : Int64} {p1 : Int64} : f_X3_isIn mfr mun p0 p1 = 
  if p0 < mfr then
    some 0
  else
    if mun < p1 then
      some 0
    else
      some 1 := rfl
set_option maxHeartbeats 4000000 in
set_option maxRecDepth 100000 in
theorem c_X3_isIn (l : Launch) (dC : Nat → ClassId) (dI : Nat → Nat → Nat) (cB cI cJ cZ : ClassId) (b : Nat → Nat) (sz : Nat) (mce : Nat → Int64) (mfr : Int64) (mun : Int64) (mbe : Nat → Int64) (men : Nat → Int64) (mov : Nat → Int32) (msp : Int32) (mwb : Nat → Int64) (mwe : Nat → Int64) (mwi : Int32) (mac : Int32) (mre : Int32) (mkn : Int32) (mth : Int32) (p0 : Int64) (p1 : Int64) (res : Int32) (hf : f_X3_isIn mfr mun p0 p1 = some res) : kMi l yX3_isIn wsX3_isIn (kRm 0 0 0 0) dC dI cB cI cJ cZ [.ref (b 0), .long p0, .long p1] sz (wMo cJ cZ b mce mfr mun mbe men mov msp mwb mwe mwi mac mre mkn mth) .boolean (res) (wMo cJ cZ b mce mfr mun mbe men mov msp mwb mwe mwi mac mre mkn mth) 0 0 := by
  refine kmet_i (y := yX3_isIn) (cc := cX3_isIn) (maxL := 5) (ret := (some .boolean)) RX3 (kvA 0 (b 0) (kvJ 1 p0 (kvJ 3 p1 kvE))) kpl_X3 rfl rfl (Nat.le_of_ble_eq_true rfl) rfl (fun p e s m below meth c A ls hx hb hr hml hts hown hlocks hP hK hG hD hA hS hl => ?_)
  have hw0 := hts (.fieldLink RX3 53 "SpanbookerModel" "from" "J") (List.mem_cons_of_mem _ kw_1073)
  have hw1 := hts (.fieldLink RX3 15 "SpanbookerModel" "until" "J") (List.mem_cons_of_mem _ kw_1074)
  have hiX3 : ∀ w ∈ u_ws RX3 TX3 14, w ∈ wsX3_isIn := fun w h => List.mem_cons_of_mem _ (ku_X3 w h)
  have h := f_X3_isIn_e.symm.trans hf
  refine lv_lload_n hx hb (kdr dgX3_isIn_0 0 0 rfl rfl) rfl (lv_at hl 1 rfl) ?_
  refine lv_aload_n hx hb (kdr dgX3_isIn_0 0 1 rfl rfl) rfl (lv_at hl 0 rfl) ?_
  refine va_get (D := (dC, dI)) (ci := 5) (v := .long mfr) (C := RX3) (T := TX3) (N := 14) hx hb hts hiX3 hown hK hP 0 rfl rfl 1 (by decide) hw0 (fun _ h9 => h9) rfl (kdr dgX3_isIn_0 0 2 rfl rfl) ?_
  refine kl_lt (pc := 5) (tgt := 22) hx hb (kdr dgX3_isIn_0 0 3 rfl rfl) (kdr dgX3_isIn_0 0 4 rfl rfl) (by decide) (fun c1 => ?_) (fun c1 => ?_)
  · have h := g_t c1 h
    refine lv_iconst (v := 0) hx hb (kdr dgX3_isIn_0 1 2 rfl rfl) (by decide) ?_
    have h := Option.some.inj h
    subst h
    exact kret_i (v := 0) hx hb hr rfl hlocks hS hP (kdr dgX3_isIn_0 1 3 rfl rfl)
  · have h := g_f c1 h
    refine lv_lload_n hx hb (kdr dgX3_isIn_0 0 5 rfl rfl) rfl (lv_at hl 2 rfl) ?_
    refine lv_aload_n hx hb (kdr dgX3_isIn_0 0 6 rfl rfl) rfl (lv_at hl 0 rfl) ?_
    refine va_get (D := (dC, dI)) (ci := 5) (v := .long mun) (C := RX3) (T := TX3) (N := 14) hx hb hts hiX3 hown hK hP 0 rfl rfl 2 (by decide) hw1 (fun _ h9 => h9) rfl (kdr dgX3_isIn_0 0 7 rfl rfl) ?_
    refine kl_gt (pc := 14) (tgt := 22) hx hb (kdr dgX3_isIn_0 0 8 rfl rfl) (kdr dgX3_isIn_0 0 9 rfl rfl) (by decide) (fun c2 => ?_) (fun c2 => ?_)
    · have h := g_t c2 h
      refine lv_iconst (v := 0) hx hb (kdr dgX3_isIn_0 1 2 rfl rfl) (by decide) ?_
      have h := Option.some.inj h
      subst h
      exact kret_i (v := 0) hx hb hr rfl hlocks hS hP (kdr dgX3_isIn_0 1 3 rfl rfl)
    · have h := g_f c2 h
      refine lv_iconst (v := 1) hx hb (kdr dgX3_isIn_0 1 0 rfl rfl) (by decide) ?_
      refine lv_goto (tgt := 23) hx hb (kdr dgX3_isIn_0 1 1 rfl rfl) (by decide) ?_
      have h := Option.some.inj h
      subst h
      exact kret_i (v := 1) hx hb hr rfl hlocks hS hP (kdr dgX3_isIn_0 1 3 rfl rfl)
noncomputable abbrev wsX3_meetsSome : List Cond := kWs yX3_meetsSome cX3_meetsSome 7 (some .boolean)
noncomputable def f_X3_meetsSome_3 : Nat → (Nat → Int64) → (Nat → Int64) → (Int32) → (Int64) → (Int64) → (Int32) → (Int32) → Option (Int32)
  | 0, _, _, _, _, _, _, _ => none
  | n + 1, mbe, men, msp, x1, x3, x5, x6 =>
    if msp ≤ x6 then
      some 0
    else
      if x6 = x5 then
        f_X3_meetsSome_3 n mbe men msp x1 x3 x5 (x6 + 1)
      else
        if ix x6 10 then
          (f_X3_meet x1 x3 (mbe x6.toNatClampNeg) (men x6.toNatClampNeg)).bind fun r4 =>
          if r4 = 0 then
            f_X3_meetsSome_3 n mbe men msp x1 x3 x5 (x6 + 1)
          else
            some 1
        else none
theorem f_X3_meetsSome_3_0 {mbe : Nat → Int64} {men : Nat → Int64} {msp : Int32} {x1 : Int64} {x3 : Int64} {x5 : Int32} {x6 : Int32} : f_X3_meetsSome_3 0 mbe men msp x1 x3 x5 x6 = none := rfl
theorem f_X3_meetsSome_3_s {n : Nat} {mbe : Nat → Int64} {men : Nat → Int64} {msp : Int32} {x1 : Int64} {x3 : Int64} {x5 : Int32} {x6 : Int32} : f_X3_meetsSome_3 (n + 1) mbe men msp x1 x3 x5 x6 =
  if msp ≤ x6 then
    some 0
  else
    if x6 = x5 then
      f_X3_meetsSome_3 n mbe men msp x1 x3 x5 (x6 + 1)
    else
      if ix x6 10 then
        (f_X3_meet x1 x3 (mbe x6.toNatClampNeg) (men x6.toNatClampNeg)).bind fun r4 =>
        if r4 = 0 then
          f_X3_meetsSome_3 n mbe men msp x1 x3 x5 (x6 + 1)
        else
          some 1
      else none := rfl
noncomputable def f_X3_meetsSome (mbe : Nat → Int64) (men : Nat → Int64) (msp : Int32) (p0 : Int64) (p1 : Int64) (p2 : Int32) : Option (Int32) :=
  f_X3_meetsSome_3 24 mbe men msp p0 p1 p2 0
theorem f_X3_meetsSome_e {mbe : Nat → Int64} {men : Nat → Int64} {msp : Int32} {p0 : Int64} {p1 : Int64} {p2 : Int32} : f_X3_meetsSome mbe men msp p0 p1 p2 = 
  f_X3_meetsSome_3 24 mbe men msp p0 p1 p2 0 := rfl
set_option maxHeartbeats 4000000 in
set_option maxRecDepth 100000 in
theorem c_X3_meetsSome (l : Launch) (dC : Nat → ClassId) (dI : Nat → Nat → Nat) (cB cI cJ cZ : ClassId) (b : Nat → Nat) (sz : Nat) (mce : Nat → Int64) (mfr : Int64) (mun : Int64) (mbe : Nat → Int64) (men : Nat → Int64) (mov : Nat → Int32) (msp : Int32) (mwb : Nat → Int64) (mwe : Nat → Int64) (mwi : Int32) (mac : Int32) (mre : Int32) (mkn : Int32) (mth : Int32) (p0 : Int64) (p1 : Int64) (p2 : Int32) (res : Int32) (hf : f_X3_meetsSome mbe men msp p0 p1 p2 = some res) : kMi l yX3_meetsSome wsX3_meetsSome (kRm 1 0 0 27) dC dI cB cI cJ cZ [.ref (b 0), .long p0, .long p1, .int p2] sz (wMo cJ cZ b mce mfr mun mbe men mov msp mwb mwe mwi mac mre mkn mth) .boolean (res) (wMo cJ cZ b mce mfr mun mbe men mov msp mwb mwe mwi mac mre mkn mth) 0 0 := by
  refine kmet_i (y := yX3_meetsSome) (cc := cX3_meetsSome) (maxL := 7) (ret := (some .boolean)) RX3 (kvA 0 (b 0) (kvJ 1 p0 (kvJ 3 p1 (kvI 5 p2 kvE)))) kpl_X3 rfl rfl (Nat.le_of_ble_eq_true rfl) rfl (fun p e s m below meth c A ls hx hb hr hml hts hown hlocks hP hK hG hD hA hS hl => ?_)
  have hw0 := hts (.fieldLink RX3 56 "SpanbookerModel" "spans" "I") (List.mem_cons_of_mem _ kw_1078)
  have hw1 := hts (.fieldLink RX3 19 "SpanbookerModel" "begins" "[J") (List.mem_cons_of_mem _ kw_1075)
  have hw2 := hts (.fieldLink RX3 22 "SpanbookerModel" "ends" "[J") (List.mem_cons_of_mem _ kw_1076)
  have hiX3 : ∀ w ∈ u_ws RX3 TX3 14, w ∈ wsX3_meetsSome := fun w h => List.mem_cons_of_mem _ (ku_X3 w h)
  have J3 : ∀ (n : Nat), ∀ (mce : Nat → Int64) (mfr : Int64) (mun : Int64) (mbe : Nat → Int64) (men : Nat → Int64) (mov : Nat → Int32) (msp : Int32) (mwb : Nat → Int64) (mwe : Nat → Int64) (mwi : Int32) (mac : Int32) (mre : Int32) (mkn : Int32) (mth : Int32) (x1 : Int64) (x3 : Int64) (x5 : Int32) (x6 : Int32) (H : Heap) (locs : List Loc), va_P (dC, dI) vwCl (wMo cJ cZ b mce mfr mun mbe men mov msp mwb mwe mwi mac mre mkn mth) H → va_D A (wMo cJ cZ b mce mfr mun mbe men mov msp mwb mwe mwi mac mre mkn mth) → va_S A s.heap H locs → ∀ (ls : Array Slot), lv_has ls 7 (kvA 0 (b 0) (kvJ 1 x1 (kvJ 3 x3 (kvI 5 x5 (kvI 6 x6 kvE))))) → f_X3_meetsSome_3 n mbe men msp x1 x3 x5 x6 = some res → W p l e (headSpec wsX3_meetsSome (kRm 1 0 0 27)).room s m ([.ref (b 0), .long p0, .long p1, .int p2] : List Value).toArray below meth c H locs 0 0 (MQ below (kI (dC, dI) .boolean (res) (wMo cJ cZ b mce mfr mun mbe men mov msp mwb mwe mwi mac mre mkn mth) A) ([.ref (b 0), .long p0, .long p1, .int p2] : List Value).toArray s 0 0 A) (F0 m 3 ls []) := by
    intro n
    induction n with
    | zero =>
      intro mce mfr mun mbe men mov msp mwb mwe mwi mac mre mkn mth x1 x3 x5 x6 H locs hP hD hS ls hl h
      have h := f_X3_meetsSome_3_0.symm.trans h
      cases h
    | succ n ih =>
      intro mce mfr mun mbe men mov msp mwb mwe mwi mac mre mkn mth x1 x3 x5 x6 H locs hP hD hS ls hl h
      have h := f_X3_meetsSome_3_s.symm.trans h
      refine lv_iload hx hb (kdr dgX3_meetsSome_0 0 2 rfl rfl) (lv_at hl 4 rfl) ?_
      refine lv_aload_n hx hb (kdr dgX3_meetsSome_0 0 3 rfl rfl) rfl (lv_at hl 0 rfl) ?_
      refine va_get (D := (dC, dI)) (ci := 5) (v := .int msp) (C := RX3) (T := TX3) (N := 14) hx hb hts hiX3 hown hK hP 0 rfl rfl 6 (by decide) hw0 (fun _ h9 => h9) rfl (kdr dgX3_meetsSome_0 0 4 rfl rfl) ?_
      refine lv_icmp_ge (tgt := 49) hx hb (kdr dgX3_meetsSome_0 0 5 rfl rfl) (by decide) (fun c1 => ?_) (fun c1 => ?_)
      · have h := g_t c1 h
        refine lv_iconst (v := 0) hx hb (kdr dgX3_meetsSome_0 2 5 rfl rfl) (by decide) ?_
        have h := Option.some.inj h
        subst h
        exact kret_i (v := 0) hx hb hr rfl hlocks hS hP (kdr dgX3_meetsSome_0 2 6 rfl rfl)
      · have h := g_f c1 h
        refine lv_iload hx hb (kdr dgX3_meetsSome_0 0 6 rfl rfl) (lv_at hl 4 rfl) ?_
        refine lv_iload hx hb (kdr dgX3_meetsSome_0 0 7 rfl rfl) (lv_at hl 3 rfl) ?_
        refine lv_icmp_eq (tgt := 43) hx hb (kdr dgX3_meetsSome_0 0 8 rfl rfl) (by decide) (fun c2 => ?_) (fun c2 => ?_)
        · have h := g_t c2 h
          refine lv_iinc (v := x6 + 1) (lv' := (kvI 6 (x6 + 1) (kvA 0 (b 0) (kvJ 1 x1 (kvJ 3 x3 (kvI 5 x5 kvE)))))) hx hb (kdr dgX3_meetsSome_0 2 3 rfl rfl) hl (k := 4) rfl rfl (by decide) rfl (fun ls hl => ?_)
          refine lv_goto (tgt := 3) hx hb (kdr dgX3_meetsSome_0 2 4 rfl rfl) (by decide) ?_
          exact ih mce mfr mun mbe men mov msp mwb mwe mwi mac mre mkn mth x1 x3 x5 (x6 + 1) _ _ hP hD hS ls (lv_sub hl [1, 2, 3, 4, 0] rfl) h
        · have h := g_f c2 h
          refine lv_lload_n hx hb (kdr dgX3_meetsSome_0 0 9 rfl rfl) rfl (lv_at hl 1 rfl) ?_
          refine lv_lload_n hx hb (kdr dgX3_meetsSome_0 1 0 rfl rfl) rfl (lv_at hl 2 rfl) ?_
          refine lv_aload_n hx hb (kdr dgX3_meetsSome_0 1 1 rfl rfl) rfl (lv_at hl 0 rfl) ?_
          refine va_get (D := (dC, dI)) (ci := 5) (v := .ref (b 2)) (C := RX3) (T := TX3) (N := 14) hx hb hts hiX3 hown hK hP 0 rfl rfl 3 (by decide) hw1 (fun _ h9 => h9) rfl (kdr dgX3_meetsSome_0 1 2 rfl rfl) ?_
          refine lv_iload hx hb (kdr dgX3_meetsSome_0 1 3 rfl rfl) (lv_at hl 4 rfl) ?_
          obtain ⟨z2, h⟩ := g_if h
          refine va_lald hx hb hK hP 2 2 rfl rfl (ix_in z2) (kdr dgX3_meetsSome_0 1 4 rfl rfl) ?_
          refine lv_aload_n hx hb (kdr dgX3_meetsSome_0 1 5 rfl rfl) rfl (lv_at hl 0 rfl) ?_
          refine va_get (D := (dC, dI)) (ci := 5) (v := .ref (b 3)) (C := RX3) (T := TX3) (N := 14) hx hb hts hiX3 hown hK hP 0 rfl rfl 4 (by decide) hw2 (fun _ h9 => h9) rfl (kdr dgX3_meetsSome_0 1 6 rfl rfl) ?_
          refine lv_iload hx hb (kdr dgX3_meetsSome_0 1 7 rfl rfl) (lv_at hl 4 rfl) ?_
          refine va_lald hx hb hK hP 3 2 rfl rfl (ix_in z2) (kdr dgX3_meetsSome_0 1 8 rfl rfl) ?_
          obtain ⟨r4, g4, h⟩ := g_b h
          refine kq_i (wMo cJ cZ b mce mfr mun mbe men mov msp mwb mwe mwi mac mre mkn mth) (fun qP qD qF => va_runS (As := [.long x1, .long x3, .long (mbe x6.toNatClampNeg), .long (men x6.toNatClampNeg)]) (rest := []) ⟨hx, hb, hml, hown, hts⟩ (c_X3_meet l dC dI cB cI cJ cZ  _  x1 x3 (mbe x6.toNatClampNeg) (men x6.toNatClampNeg) r4 g4) (kcwS hts kw_1208 kv_X3_meet rfl rfl ⟨(Nat.le_of_ble_eq_true rfl), (Nat.le_of_ble_eq_true rfl)⟩) (kpS (A := A) (kPnil) hK ((kDnil (A := A))) hG) rfl rfl hl.1 rfl (lv_room (Nat.le_of_ble_eq_true rfl)) (kdr dgX3_meetsSome_0 1 9 rfl rfl) ⟨(Nat.le_of_ble_eq_true rfl), (Nat.le_of_ble_eq_true rfl)⟩) hP hD hS hA kFr_n (fun H locs hP hD hS br4 => ?_)
          refine lv_if_eq (tgt := 43) hx hb (kdr dgX3_meetsSome_0 2 0 rfl rfl) (by decide) (fun c5 => ?_) (fun c5 => ?_)
          · have h := g_t c5 h
            refine lv_iinc (v := x6 + 1) (lv' := (kvI 6 (x6 + 1) (kvA 0 (b 0) (kvJ 1 x1 (kvJ 3 x3 (kvI 5 x5 kvE)))))) hx hb (kdr dgX3_meetsSome_0 2 3 rfl rfl) hl (k := 4) rfl rfl (by decide) rfl (fun ls hl => ?_)
            refine lv_goto (tgt := 3) hx hb (kdr dgX3_meetsSome_0 2 4 rfl rfl) (by decide) ?_
            exact ih mce mfr mun mbe men mov msp mwb mwe mwi mac mre mkn mth x1 x3 x5 (x6 + 1) _ _ hP hD hS ls (lv_sub hl [1, 2, 3, 4, 0] rfl) h
          · have h := g_f c5 h
            refine lv_iconst (v := 1) hx hb (kdr dgX3_meetsSome_0 2 1 rfl rfl) (by decide) ?_
            have h := Option.some.inj h
            subst h
            exact kret_i (v := 1) hx hb hr rfl hlocks hS hP (kdr dgX3_meetsSome_0 2 2 rfl rfl)
  have h := f_X3_meetsSome_e.symm.trans hf
  refine lv_iconst (v := 0) hx hb (kdr dgX3_meetsSome_0 0 0 rfl rfl) (by decide) ?_
  refine lv_istore (lv' := (kvI 6 0 (kvA 0 (b 0) (kvJ 1 p0 (kvJ 3 p1 (kvI 5 p2 kvE)))))) hx hb (kdr dgX3_meetsSome_0 0 1 rfl rfl) hl (by decide) rfl (fun ls hl => ?_)
  exact J3 24 mce mfr mun mbe men mov msp mwb mwe mwi mac mre mkn mth p0 p1 p2 0 _ _ hP hD hS ls (lv_sub hl [1, 2, 3, 4, 0] rfl) h
noncomputable abbrev wsX3_spanAt : List Cond := kWs yX3_spanAt cX3_spanAt 4 (some .int)
noncomputable def f_X3_spanAt_2 : Nat → (Nat → Int64) → (Nat → Int64) → (Int32) → (Int64) → (Int32) → Option (Int32)
  | 0, _, _, _, _, _ => none
  | n + 1, mbe, men, msp, x1, x3 =>
    if msp ≤ x3 then
      some (-1)
    else
      if ix x3 10 then
        if x1 < (mbe x3.toNatClampNeg) then
          f_X3_spanAt_2 n mbe men msp x1 (x3 + 1)
        else
          if (men x3.toNatClampNeg) ≤ x1 then
            f_X3_spanAt_2 n mbe men msp x1 (x3 + 1)
          else
            some x3
      else none
theorem f_X3_spanAt_2_0 {mbe : Nat → Int64} {men : Nat → Int64} {msp : Int32} {x1 : Int64} {x3 : Int32} : f_X3_spanAt_2 0 mbe men msp x1 x3 = none := rfl
theorem f_X3_spanAt_2_s {n : Nat} {mbe : Nat → Int64} {men : Nat → Int64} {msp : Int32} {x1 : Int64} {x3 : Int32} : f_X3_spanAt_2 (n + 1) mbe men msp x1 x3 =
  if msp ≤ x3 then
    some (-1)
  else
    if ix x3 10 then
      if x1 < (mbe x3.toNatClampNeg) then
        f_X3_spanAt_2 n mbe men msp x1 (x3 + 1)
      else
        if (men x3.toNatClampNeg) ≤ x1 then
          f_X3_spanAt_2 n mbe men msp x1 (x3 + 1)
        else
          some x3
    else none := rfl
noncomputable def f_X3_spanAt (mbe : Nat → Int64) (men : Nat → Int64) (msp : Int32) (p0 : Int64) : Option (Int32) :=
  f_X3_spanAt_2 24 mbe men msp p0 0
theorem f_X3_spanAt_e {mbe : Nat → Int64} {men : Nat → Int64} {msp : Int32} {p0 : Int64} : f_X3_spanAt mbe men msp p0 = 
  f_X3_spanAt_2 24 mbe men msp p0 0 := rfl
set_option maxHeartbeats 4000000 in
set_option maxRecDepth 100000 in
theorem c_X3_spanAt (l : Launch) (dC : Nat → ClassId) (dI : Nat → Nat → Nat) (cB cI cJ cZ : ClassId) (b : Nat → Nat) (sz : Nat) (mce : Nat → Int64) (mfr : Int64) (mun : Int64) (mbe : Nat → Int64) (men : Nat → Int64) (mov : Nat → Int32) (msp : Int32) (mwb : Nat → Int64) (mwe : Nat → Int64) (mwi : Int32) (mac : Int32) (mre : Int32) (mkn : Int32) (mth : Int32) (p0 : Int64) (res : Int32) (hf : f_X3_spanAt mbe men msp p0 = some res) : kMi l yX3_spanAt wsX3_spanAt (kRm 0 0 0 0) dC dI cB cI cJ cZ [.ref (b 0), .long p0] sz (wMo cJ cZ b mce mfr mun mbe men mov msp mwb mwe mwi mac mre mkn mth) .int (res) (wMo cJ cZ b mce mfr mun mbe men mov msp mwb mwe mwi mac mre mkn mth) 0 0 := by
  refine kmet_i (y := yX3_spanAt) (cc := cX3_spanAt) (maxL := 4) (ret := (some .int)) RX3 (kvA 0 (b 0) (kvJ 1 p0 kvE)) kpl_X3 rfl rfl (Nat.le_of_ble_eq_true rfl) rfl (fun p e s m below meth c A ls hx hb hr hml hts hown hlocks hP hK hG hD hA hS hl => ?_)
  have hw0 := hts (.fieldLink RX3 56 "SpanbookerModel" "spans" "I") (List.mem_cons_of_mem _ kw_1078)
  have hw1 := hts (.fieldLink RX3 19 "SpanbookerModel" "begins" "[J") (List.mem_cons_of_mem _ kw_1075)
  have hw2 := hts (.fieldLink RX3 22 "SpanbookerModel" "ends" "[J") (List.mem_cons_of_mem _ kw_1076)
  have hiX3 : ∀ w ∈ u_ws RX3 TX3 14, w ∈ wsX3_spanAt := fun w h => List.mem_cons_of_mem _ (ku_X3 w h)
  have J2 : ∀ (n : Nat), ∀ (mce : Nat → Int64) (mfr : Int64) (mun : Int64) (mbe : Nat → Int64) (men : Nat → Int64) (mov : Nat → Int32) (msp : Int32) (mwb : Nat → Int64) (mwe : Nat → Int64) (mwi : Int32) (mac : Int32) (mre : Int32) (mkn : Int32) (mth : Int32) (x1 : Int64) (x3 : Int32) (H : Heap) (locs : List Loc), va_P (dC, dI) vwCl (wMo cJ cZ b mce mfr mun mbe men mov msp mwb mwe mwi mac mre mkn mth) H → va_D A (wMo cJ cZ b mce mfr mun mbe men mov msp mwb mwe mwi mac mre mkn mth) → va_S A s.heap H locs → ∀ (ls : Array Slot), lv_has ls 4 (kvA 0 (b 0) (kvJ 1 x1 (kvI 3 x3 kvE))) → f_X3_spanAt_2 n mbe men msp x1 x3 = some res → W p l e (headSpec wsX3_spanAt (kRm 0 0 0 0)).room s m ([.ref (b 0), .long p0] : List Value).toArray below meth c H locs 0 0 (MQ below (kI (dC, dI) .int (res) (wMo cJ cZ b mce mfr mun mbe men mov msp mwb mwe mwi mac mre mkn mth) A) ([.ref (b 0), .long p0] : List Value).toArray s 0 0 A) (F0 m 2 ls []) := by
    intro n
    induction n with
    | zero =>
      intro mce mfr mun mbe men mov msp mwb mwe mwi mac mre mkn mth x1 x3 H locs hP hD hS ls hl h
      have h := f_X3_spanAt_2_0.symm.trans h
      cases h
    | succ n ih =>
      intro mce mfr mun mbe men mov msp mwb mwe mwi mac mre mkn mth x1 x3 H locs hP hD hS ls hl h
      have h := f_X3_spanAt_2_s.symm.trans h
      refine lv_iload_n hx hb (kdr dgX3_spanAt_0 0 2 rfl rfl) rfl (lv_at hl 2 rfl) ?_
      refine lv_aload_n hx hb (kdr dgX3_spanAt_0 0 3 rfl rfl) rfl (lv_at hl 0 rfl) ?_
      refine va_get (D := (dC, dI)) (ci := 5) (v := .int msp) (C := RX3) (T := TX3) (N := 14) hx hb hts hiX3 hown hK hP 0 rfl rfl 6 (by decide) hw0 (fun _ h9 => h9) rfl (kdr dgX3_spanAt_0 0 4 rfl rfl) ?_
      refine lv_icmp_ge (tgt := 40) hx hb (kdr dgX3_spanAt_0 0 5 rfl rfl) (by decide) (fun c1 => ?_) (fun c1 => ?_)
      · have h := g_t c1 h
        refine lv_iconst (v := (-1)) hx hb (kdr dgX3_spanAt_0 2 4 rfl rfl) (by decide) ?_
        have h := Option.some.inj h
        subst h
        exact kret_i (v := (-1)) hx hb hr rfl hlocks hS hP (kdr dgX3_spanAt_0 2 5 rfl rfl)
      · have h := g_f c1 h
        refine lv_aload_n hx hb (kdr dgX3_spanAt_0 0 6 rfl rfl) rfl (lv_at hl 0 rfl) ?_
        refine va_get (D := (dC, dI)) (ci := 5) (v := .ref (b 2)) (C := RX3) (T := TX3) (N := 14) hx hb hts hiX3 hown hK hP 0 rfl rfl 3 (by decide) hw1 (fun _ h9 => h9) rfl (kdr dgX3_spanAt_0 0 7 rfl rfl) ?_
        refine lv_iload_n hx hb (kdr dgX3_spanAt_0 0 8 rfl rfl) rfl (lv_at hl 2 rfl) ?_
        obtain ⟨z1, h⟩ := g_if h
        refine va_lald hx hb hK hP 2 2 rfl rfl (ix_in z1) (kdr dgX3_spanAt_0 0 9 rfl rfl) ?_
        refine lv_lload_n hx hb (kdr dgX3_spanAt_0 1 0 rfl rfl) rfl (lv_at hl 1 rfl) ?_
        refine kl_gt (pc := 17) (tgt := 34) hx hb (kdr dgX3_spanAt_0 1 1 rfl rfl) (kdr dgX3_spanAt_0 1 2 rfl rfl) (by decide) (fun c3 => ?_) (fun c3 => ?_)
        · have h := g_t c3 h
          refine lv_iinc (v := x3 + 1) (lv' := (kvI 3 (x3 + 1) (kvA 0 (b 0) (kvJ 1 x1 kvE)))) hx hb (kdr dgX3_spanAt_0 2 2 rfl rfl) hl (k := 2) rfl rfl (by decide) rfl (fun ls hl => ?_)
          refine lv_goto (tgt := 2) hx hb (kdr dgX3_spanAt_0 2 3 rfl rfl) (by decide) ?_
          exact ih mce mfr mun mbe men mov msp mwb mwe mwi mac mre mkn mth x1 (x3 + 1) _ _ hP hD hS ls (lv_sub hl [1, 2, 0] rfl) h
        · have h := g_f c3 h
          refine lv_lload_n hx hb (kdr dgX3_spanAt_0 1 3 rfl rfl) rfl (lv_at hl 1 rfl) ?_
          refine lv_aload_n hx hb (kdr dgX3_spanAt_0 1 4 rfl rfl) rfl (lv_at hl 0 rfl) ?_
          refine va_get (D := (dC, dI)) (ci := 5) (v := .ref (b 3)) (C := RX3) (T := TX3) (N := 14) hx hb hts hiX3 hown hK hP 0 rfl rfl 4 (by decide) hw2 (fun _ h9 => h9) rfl (kdr dgX3_spanAt_0 1 5 rfl rfl) ?_
          refine lv_iload_n hx hb (kdr dgX3_spanAt_0 1 6 rfl rfl) rfl (lv_at hl 2 rfl) ?_
          refine va_lald hx hb hK hP 3 2 rfl rfl (ix_in z1) (kdr dgX3_spanAt_0 1 7 rfl rfl) ?_
          refine kl_ge (pc := 28) (tgt := 34) hx hb (kdr dgX3_spanAt_0 1 8 rfl rfl) (kdr dgX3_spanAt_0 1 9 rfl rfl) (by decide) (fun c4 => ?_) (fun c4 => ?_)
          · have h := g_t c4 h
            refine lv_iinc (v := x3 + 1) (lv' := (kvI 3 (x3 + 1) (kvA 0 (b 0) (kvJ 1 x1 kvE)))) hx hb (kdr dgX3_spanAt_0 2 2 rfl rfl) hl (k := 2) rfl rfl (by decide) rfl (fun ls hl => ?_)
            refine lv_goto (tgt := 2) hx hb (kdr dgX3_spanAt_0 2 3 rfl rfl) (by decide) ?_
            exact ih mce mfr mun mbe men mov msp mwb mwe mwi mac mre mkn mth x1 (x3 + 1) _ _ hP hD hS ls (lv_sub hl [1, 2, 0] rfl) h
          · have h := g_f c4 h
            refine lv_iload_n hx hb (kdr dgX3_spanAt_0 2 0 rfl rfl) rfl (lv_at hl 2 rfl) ?_
            have h := Option.some.inj h
            subst h
            exact kret_i (v := x3) hx hb hr rfl hlocks hS hP (kdr dgX3_spanAt_0 2 1 rfl rfl)
  have h := f_X3_spanAt_e.symm.trans hf
  refine lv_iconst (v := 0) hx hb (kdr dgX3_spanAt_0 0 0 rfl rfl) (by decide) ?_
  refine lv_istore_n (lv' := (kvI 3 0 (kvA 0 (b 0) (kvJ 1 p0 kvE)))) hx hb (kdr dgX3_spanAt_0 0 1 rfl rfl) rfl hl (by decide) rfl (fun ls hl => ?_)
  exact J2 24 mce mfr mun mbe men mov msp mwb mwe mwi mac mre mkn mth p0 0 _ _ hP hD hS ls (lv_sub hl [1, 2, 0] rfl) h
noncomputable abbrev wsX3_free : List Cond := kWs yX3_free cX3_free 7 (some (.array .long))
noncomputable def f_X3_free_56 (K12 : (Int64) → (Nat → Int64) → (Nat → Int64) → (Int32) → (Nat → Int64) → (Int32) → (Int64) → Option (Nat → Int64)) : Nat → (Int64) → (Nat → Int64) → (Nat → Int64) → (Int32) → (Nat → Int64) → (Int32) → (Int64) → (Int32) → Option (Nat → Int64)
  | 0, _, _, _, _, _, _, _, _ => none
  | n + 1, mun, mbe, men, msp, ext0, x2, x3, x6 =>
    if msp ≤ x6 then
      if ix (x2 + 1) 22 then
        K12 mun mbe men msp (vp_updL ext0 (x2 + 1).toNatClampNeg x3) (x2 + 2) x3
      else none
    else
      if ix x6 10 then
        if ix x2 22 then
          if (mbe x6.toNatClampNeg) ≤ (ext0 x2.toNatClampNeg) then
            f_X3_free_56 K12 n mun mbe men msp ext0 x2 x3 (x6 + 1)
          else
            if x3 ≤ (mbe x6.toNatClampNeg) then
              f_X3_free_56 K12 n mun mbe men msp ext0 x2 x3 (x6 + 1)
            else
              f_X3_free_56 K12 n mun mbe men msp ext0 x2 (mbe x6.toNatClampNeg) (x6 + 1)
        else none
      else none
theorem f_X3_free_56_0 {K12 : (Int64) → (Nat → Int64) → (Nat → Int64) → (Int32) → (Nat → Int64) → (Int32) → (Int64) → Option (Nat → Int64)} {mun : Int64} {mbe : Nat → Int64} {men : Nat → Int64} {msp : Int32} {ext0 : Nat → Int64} {x2 : Int32} {x3 : Int64} {x6 : Int32} : f_X3_free_56 K12 0 mun mbe men msp ext0 x2 x3 x6 = none := rfl
theorem f_X3_free_56_s {K12 : (Int64) → (Nat → Int64) → (Nat → Int64) → (Int32) → (Nat → Int64) → (Int32) → (Int64) → Option (Nat → Int64)} {n : Nat} {mun : Int64} {mbe : Nat → Int64} {men : Nat → Int64} {msp : Int32} {ext0 : Nat → Int64} {x2 : Int32} {x3 : Int64} {x6 : Int32} : f_X3_free_56 K12 (n + 1) mun mbe men msp ext0 x2 x3 x6 =
  if msp ≤ x6 then
    if ix (x2 + 1) 22 then
      K12 mun mbe men msp (vp_updL ext0 (x2 + 1).toNatClampNeg x3) (x2 + 2) x3
    else none
  else
    if ix x6 10 then
      if ix x2 22 then
        if (mbe x6.toNatClampNeg) ≤ (ext0 x2.toNatClampNeg) then
          f_X3_free_56 K12 n mun mbe men msp ext0 x2 x3 (x6 + 1)
        else
          if x3 ≤ (mbe x6.toNatClampNeg) then
            f_X3_free_56 K12 n mun mbe men msp ext0 x2 x3 (x6 + 1)
          else
            f_X3_free_56 K12 n mun mbe men msp ext0 x2 (mbe x6.toNatClampNeg) (x6 + 1)
      else none
    else none := rfl
noncomputable def f_X3_free_12 : Nat → (Int64) → (Nat → Int64) → (Nat → Int64) → (Int32) → (Nat → Int64) → (Int32) → (Int64) → Option (Nat → Int64)
  | 0, _, _, _, _, _, _, _ => none
  | n + 1, mun, mbe, men, msp, ext0, x2, x3 =>
    if mun ≤ x3 then
      some ext0
    else
      (f_X3_spanAt mbe men msp x3).bind fun r2 =>
      if r2 < 0 then
        if ix x2 22 then
          f_X3_free_56 (f_X3_free_12 n) 24 mun mbe men msp (vp_updL ext0 x2.toNatClampNeg x3) x2 mun 0
        else none
      else
        if ix r2 10 then
          f_X3_free_12 n mun mbe men msp ext0 x2 (men r2.toNatClampNeg)
        else none
theorem f_X3_free_12_0 {mun : Int64} {mbe : Nat → Int64} {men : Nat → Int64} {msp : Int32} {ext0 : Nat → Int64} {x2 : Int32} {x3 : Int64} : f_X3_free_12 0 mun mbe men msp ext0 x2 x3 = none := rfl
theorem f_X3_free_12_s {n : Nat} {mun : Int64} {mbe : Nat → Int64} {men : Nat → Int64} {msp : Int32} {ext0 : Nat → Int64} {x2 : Int32} {x3 : Int64} : f_X3_free_12 (n + 1) mun mbe men msp ext0 x2 x3 =
  if mun ≤ x3 then
    some ext0
  else
    (f_X3_spanAt mbe men msp x3).bind fun r2 =>
    if r2 < 0 then
      if ix x2 22 then
        f_X3_free_56 (f_X3_free_12 n) 24 mun mbe men msp (vp_updL ext0 x2.toNatClampNeg x3) x2 mun 0
      else none
    else
      if ix r2 10 then
        f_X3_free_12 n mun mbe men msp ext0 x2 (men r2.toNatClampNeg)
      else none := rfl
noncomputable def f_X3_free (mfr : Int64) (mun : Int64) (mbe : Nat → Int64) (men : Nat → Int64) (msp : Int32) : Option (Nat → Int64) :=
  f_X3_free_12 24 mun mbe men msp (fun _ => 0) 0 mfr
theorem f_X3_free_e {mfr : Int64} {mun : Int64} {mbe : Nat → Int64} {men : Nat → Int64} {msp : Int32} : f_X3_free mfr mun mbe men msp = 
  f_X3_free_12 24 mun mbe men msp (fun _ => 0) 0 mfr := rfl
set_option maxHeartbeats 4000000 in
set_option maxRecDepth 100000 in
theorem c_X3_free (l : Launch) (dC : Nat → ClassId) (dI : Nat → Nat → Nat) (cB cI cJ cZ : ClassId) (b : Nat → Nat) (sz : Nat) (mce : Nat → Int64) (mfr : Int64) (mun : Int64) (mbe : Nat → Int64) (men : Nat → Int64) (mov : Nat → Int32) (msp : Int32) (mwb : Nat → Int64) (mwe : Nat → Int64) (mwi : Int32) (mac : Int32) (mre : Int32) (mkn : Int32) (mth : Int32) (res : Nat → Int64) (hf : f_X3_free mfr mun mbe men msp = some res) : Met l yX3_free wsX3_free (kRm 1 1 22 23) (kPre (dC, dI) (kTy cB cI cJ cZ) [.ref (b 0)] sz (wMo cJ cZ b mce mfr mun mbe men mov msp mwb mwe mwi mac mre mkn mth)) (kR (dC, dI) (.inl (cJ, 22, .inr (.inl (res)))) (wMo cJ cZ b mce mfr mun mbe men mov msp mwb mwe mwi mac mre mkn mth) (va_A (wMo cJ cZ b mce mfr mun mbe men mov msp mwb mwe mwi mac mre mkn mth) sz)) 1 22 (va_A (wMo cJ cZ b mce mfr mun mbe men mov msp mwb mwe mwi mac mre mkn mth) sz) := by
  refine Met.ofW (cc := cX3_free) (maxL := 7) (ret := (some (.array .long))) (by decide) rfl ?_
  intro p e s m args below meth c s₁ B hml hv
  obtain ⟨rfl, hsz, hP, hK, hD0, hG⟩ := hv
  have hx := B.exec
  have hb := B.bytes
  have hr := B.returns
  have hts := atoms_spec (ws := wsX3_free) B.pre
  have hown : s.vm.findClass RX3 = some m.cls := findClass_of_methodNamed B.named
  have hlocks := B.notSynchronized
  subst hsz
  have hD := hD0.self (sz := s.heap.size)
  generalize hAe : va_A (wMo cJ cZ b mce mfr mun mbe men mov msp mwb mwe mwi mac mre mkn mth) s.heap.size = A at hD ⊢
  have hA : ∀ q : Nat, s.heap.size ≤ q → A q := fun q h => by rw [← hAe]; exact Or.inr h
  have hS : va_S A s.heap s.heap [] := va_S.rf
  clear hAe
  have hw0 := hts (.arrayClass .long) (List.mem_cons_of_mem _ kw_105)
  have hw1 := hts (.fieldLink RX3 53 "SpanbookerModel" "from" "J") (List.mem_cons_of_mem _ kw_1073)
  have hw2 := hts (.fieldLink RX3 15 "SpanbookerModel" "until" "J") (List.mem_cons_of_mem _ kw_1074)
  have hw3 := hts (.fieldLink RX3 56 "SpanbookerModel" "spans" "I") (List.mem_cons_of_mem _ kw_1078)
  have hw4 := hts (.fieldLink RX3 19 "SpanbookerModel" "begins" "[J") (List.mem_cons_of_mem _ kw_1075)
  have hw5 := hts (.fieldLink RX3 22 "SpanbookerModel" "ends" "[J") (List.mem_cons_of_mem _ kw_1076)
  have hiX3 : ∀ w ∈ u_ws RX3 TX3 14, w ∈ wsX3_free := fun w h => List.mem_cons_of_mem _ (ku_X3 w h)
  have J56 : ∀ (K12 : (Int64) → (Nat → Int64) → (Nat → Int64) → (Int32) → (Nat → Int64) → (Int32) → (Int64) → Option (Nat → Int64)), (∀ (mce : Nat → Int64) (mfr : Int64) (mun : Int64) (mbe : Nat → Int64) (men : Nat → Int64) (mov : Nat → Int32) (msp : Int32) (mwb : Nat → Int64) (mwe : Nat → Int64) (mwi : Int32) (mac : Int32) (mre : Int32) (mkn : Int32) (mth : Int32) (ext0 : Nat → Int64) (x2 : Int32) (x3 : Int64) (qn0 : Nat) (H : Heap) (locs : List Loc), va_P (dC, dI) vwCl ((wMo cJ cZ b mce mfr mun mbe men mov msp mwb mwe mwi mac mre mkn mth) ++ [(qn0, .inl (cJ, 22, .inr (.inl ext0)))]) H → va_D A ((wMo cJ cZ b mce mfr mun mbe men mov msp mwb mwe mwi mac mre mkn mth) ++ [(qn0, .inl (cJ, 22, .inr (.inl ext0)))]) → va_S A s.heap H locs → ∀ (ls : Array Slot), lv_has ls 7 (kvA 0 (b 0) (kvA 1 qn0 (kvI 2 x2 (kvJ 3 x3 kvE)))) → K12 mun mbe men msp ext0 x2 x3 = some res → W p l e (headSpec wsX3_free (kRm 1 1 22 23)).room s m ([.ref (b 0)] : List Value).toArray below meth c H locs 1 22 (MQ below (kR (dC, dI) (.inl (cJ, 22, .inr (.inl (res)))) (wMo cJ cZ b mce mfr mun mbe men mov msp mwb mwe mwi mac mre mkn mth) A) ([.ref (b 0)] : List Value).toArray s 1 22 A) (F0 m 12 ls [])) → ∀ (n : Nat), ∀ (mce : Nat → Int64) (mfr : Int64) (mun : Int64) (mbe : Nat → Int64) (men : Nat → Int64) (mov : Nat → Int32) (msp : Int32) (mwb : Nat → Int64) (mwe : Nat → Int64) (mwi : Int32) (mac : Int32) (mre : Int32) (mkn : Int32) (mth : Int32) (ext0 : Nat → Int64) (x2 : Int32) (x3 : Int64) (x6 : Int32) (qn0 : Nat) (H : Heap) (locs : List Loc), va_P (dC, dI) vwCl ((wMo cJ cZ b mce mfr mun mbe men mov msp mwb mwe mwi mac mre mkn mth) ++ [(qn0, .inl (cJ, 22, .inr (.inl ext0)))]) H → va_D A ((wMo cJ cZ b mce mfr mun mbe men mov msp mwb mwe mwi mac mre mkn mth) ++ [(qn0, .inl (cJ, 22, .inr (.inl ext0)))]) → va_S A s.heap H locs → ∀ (ls : Array Slot), lv_has ls 7 (kvA 0 (b 0) (kvA 1 qn0 (kvI 2 x2 (kvJ 3 x3 (kvI 6 x6 kvE))))) → f_X3_free_56 K12 n mun mbe men msp ext0 x2 x3 x6 = some res → W p l e (headSpec wsX3_free (kRm 1 1 22 23)).room s m ([.ref (b 0)] : List Value).toArray below meth c H locs 1 22 (MQ below (kR (dC, dI) (.inl (cJ, 22, .inr (.inl (res)))) (wMo cJ cZ b mce mfr mun mbe men mov msp mwb mwe mwi mac mre mkn mth) A) ([.ref (b 0)] : List Value).toArray s 1 22 A) (F0 m 56 ls []) := by
    intro K12 hK12 n
    induction n with
    | zero =>
      intro mce mfr mun mbe men mov msp mwb mwe mwi mac mre mkn mth ext0 x2 x3 x6 qn0 H locs hP hD hS ls hl h
      have h := f_X3_free_56_0.symm.trans h
      cases h
    | succ n ih =>
      intro mce mfr mun mbe men mov msp mwb mwe mwi mac mre mkn mth ext0 x2 x3 x6 qn0 H locs hP hD hS ls hl h
      have h := f_X3_free_56_s.symm.trans h
      refine lv_iload hx hb (kdr dgX3_free_4 3 2 rfl rfl) (lv_at hl 4 rfl) ?_
      refine lv_aload_n hx hb (kdr dgX3_free_4 3 3 rfl rfl) rfl (lv_at hl 0 rfl) ?_
      refine va_get (D := (dC, dI)) (ci := 5) (v := .int msp) (C := RX3) (T := TX3) (N := 14) hx hb hts hiX3 hown hK hP 0 rfl rfl 6 (by decide) hw3 (fun _ h9 => h9) rfl (kdr dgX3_free_4 3 4 rfl rfl) ?_
      refine lv_icmp_ge (tgt := 105) hx hb (kdr dgX3_free_4 3 5 rfl rfl) (by decide) (fun c1 => ?_) (fun c1 => ?_)
      · have h := g_t c1 h
        refine lv_aload_n hx hb (kdr dgX3_free_4 5 9 rfl rfl) rfl (lv_at hl 1 rfl) ?_
        refine lv_iload_n hx hb (kdr dgX3_free_4 6 0 rfl rfl) rfl (lv_at hl 2 rfl) ?_
        refine lv_iconst (v := 1) hx hb (kdr dgX3_free_4 6 1 rfl rfl) (by decide) ?_
        refine lv_iadd hx hb (kdr dgX3_free_4 6 2 rfl rfl) ?_
        refine lv_lload_n hx hb (kdr dgX3_free_4 6 3 rfl rfl) rfl (lv_at hl 3 rfl) ?_
        obtain ⟨z1, h⟩ := g_if h
        refine va_last hx hb hK hP hD hS 7 2 rfl rfl (ix_in z1) (kdr dgX3_free_4 6 4 rfl rfl) (fun H locs hP hD hS => ?_)
        have hP : va_P (dC, dI) vwCl ((wMo cJ cZ b mce mfr mun mbe men mov msp mwb mwe mwi mac mre mkn mth) ++ [(qn0, .inl (cJ, 22, .inr (.inl (vp_updL ext0 (x2 + 1).toNatClampNeg x3))))]) H := hP
        have hD : va_D A ((wMo cJ cZ b mce mfr mun mbe men mov msp mwb mwe mwi mac mre mkn mth) ++ [(qn0, .inl (cJ, 22, .inr (.inl (vp_updL ext0 (x2 + 1).toNatClampNeg x3))))]) := hD
        refine lv_iinc (v := x2 + 2) (lv' := (kvI 2 (x2 + 2) (kvA 0 (b 0) (kvA 1 qn0 (kvJ 3 x3 (kvI 6 x6 kvE)))))) hx hb (kdr dgX3_free_4 6 5 rfl rfl) hl (k := 2) rfl rfl (by decide) rfl (fun ls hl => ?_)
        refine lv_goto (tgt := 12) hx hb (kdr dgX3_free_4 6 6 rfl rfl) (by decide) ?_
        exact hK12 mce mfr mun mbe men mov msp mwb mwe mwi mac mre mkn mth (vp_updL ext0 (x2 + 1).toNatClampNeg x3) (x2 + 2) x3 qn0 _ _ hP hD hS ls (lv_sub hl [1, 2, 0, 3] rfl) h
      · have h := g_f c1 h
        refine lv_aload_n hx hb (kdr dgX3_free_4 3 6 rfl rfl) rfl (lv_at hl 0 rfl) ?_
        refine va_get (D := (dC, dI)) (ci := 5) (v := .ref (b 2)) (C := RX3) (T := TX3) (N := 14) hx hb hts hiX3 hown hK hP 0 rfl rfl 3 (by decide) hw4 (fun _ h9 => h9) rfl (kdr dgX3_free_4 3 7 rfl rfl) ?_
        refine lv_iload hx hb (kdr dgX3_free_4 3 8 rfl rfl) (lv_at hl 4 rfl) ?_
        obtain ⟨z1, h⟩ := g_if h
        refine va_lald hx hb hK hP 2 2 rfl rfl (ix_in z1) (kdr dgX3_free_4 3 9 rfl rfl) ?_
        refine lv_aload_n hx hb (kdr dgX3_free_4 4 0 rfl rfl) rfl (lv_at hl 1 rfl) ?_
        refine lv_iload_n hx hb (kdr dgX3_free_4 4 1 rfl rfl) rfl (lv_at hl 2 rfl) ?_
        obtain ⟨z2, h⟩ := g_if h
        refine va_lald hx hb hK hP 7 2 rfl rfl (ix_in z2) (kdr dgX3_free_4 4 2 rfl rfl) ?_
        refine kl_le (pc := 75) (tgt := 99) hx hb (kdr dgX3_free_4 4 3 rfl rfl) (kdr dgX3_free_4 4 4 rfl rfl) (by decide) (fun c4 => ?_) (fun c4 => ?_)
        · have h := g_t c4 h
          refine lv_iinc (v := x6 + 1) (lv' := (kvI 6 (x6 + 1) (kvA 0 (b 0) (kvA 1 qn0 (kvI 2 x2 (kvJ 3 x3 kvE)))))) hx hb (kdr dgX3_free_4 5 7 rfl rfl) hl (k := 4) rfl rfl (by decide) rfl (fun ls hl => ?_)
          refine lv_goto (tgt := 56) hx hb (kdr dgX3_free_4 5 8 rfl rfl) (by decide) ?_
          exact ih mce mfr mun mbe men mov msp mwb mwe mwi mac mre mkn mth ext0 x2 x3 (x6 + 1) qn0 _ _ hP hD hS ls (lv_sub hl [1, 2, 3, 4, 0] rfl) h
        · have h := g_f c4 h
          refine lv_aload_n hx hb (kdr dgX3_free_4 4 5 rfl rfl) rfl (lv_at hl 0 rfl) ?_
          refine va_get (D := (dC, dI)) (ci := 5) (v := .ref (b 2)) (C := RX3) (T := TX3) (N := 14) hx hb hts hiX3 hown hK hP 0 rfl rfl 3 (by decide) hw4 (fun _ h9 => h9) rfl (kdr dgX3_free_4 4 6 rfl rfl) ?_
          refine lv_iload hx hb (kdr dgX3_free_4 4 7 rfl rfl) (lv_at hl 4 rfl) ?_
          refine va_lald hx hb hK hP 2 2 rfl rfl (ix_in z1) (kdr dgX3_free_4 4 8 rfl rfl) ?_
          refine lv_lload_n hx hb (kdr dgX3_free_4 4 9 rfl rfl) rfl (lv_at hl 3 rfl) ?_
          refine kl_ge (pc := 87) (tgt := 99) hx hb (kdr dgX3_free_4 5 0 rfl rfl) (kdr dgX3_free_4 5 1 rfl rfl) (by decide) (fun c5 => ?_) (fun c5 => ?_)
          · have h := g_t c5 h
            refine lv_iinc (v := x6 + 1) (lv' := (kvI 6 (x6 + 1) (kvA 0 (b 0) (kvA 1 qn0 (kvI 2 x2 (kvJ 3 x3 kvE)))))) hx hb (kdr dgX3_free_4 5 7 rfl rfl) hl (k := 4) rfl rfl (by decide) rfl (fun ls hl => ?_)
            refine lv_goto (tgt := 56) hx hb (kdr dgX3_free_4 5 8 rfl rfl) (by decide) ?_
            exact ih mce mfr mun mbe men mov msp mwb mwe mwi mac mre mkn mth ext0 x2 x3 (x6 + 1) qn0 _ _ hP hD hS ls (lv_sub hl [1, 2, 3, 4, 0] rfl) h
          · have h := g_f c5 h
            refine lv_aload_n hx hb (kdr dgX3_free_4 5 2 rfl rfl) rfl (lv_at hl 0 rfl) ?_
            refine va_get (D := (dC, dI)) (ci := 5) (v := .ref (b 2)) (C := RX3) (T := TX3) (N := 14) hx hb hts hiX3 hown hK hP 0 rfl rfl 3 (by decide) hw4 (fun _ h9 => h9) rfl (kdr dgX3_free_4 5 3 rfl rfl) ?_
            refine lv_iload hx hb (kdr dgX3_free_4 5 4 rfl rfl) (lv_at hl 4 rfl) ?_
            refine va_lald hx hb hK hP 2 2 rfl rfl (ix_in z1) (kdr dgX3_free_4 5 5 rfl rfl) ?_
            refine lv_lstore_n (lv' := (kvJ 3 (mbe x6.toNatClampNeg) (kvA 0 (b 0) (kvA 1 qn0 (kvI 2 x2 (kvI 6 x6 kvE)))))) hx hb (kdr dgX3_free_4 5 6 rfl rfl) rfl hl (by decide) rfl (fun ls hl => ?_)
            refine lv_iinc (v := x6 + 1) (lv' := (kvI 6 (x6 + 1) (kvJ 3 (mbe x6.toNatClampNeg) (kvA 0 (b 0) (kvA 1 qn0 (kvI 2 x2 kvE)))))) hx hb (kdr dgX3_free_4 5 7 rfl rfl) hl (k := 4) rfl rfl (by decide) rfl (fun ls hl => ?_)
            refine lv_goto (tgt := 56) hx hb (kdr dgX3_free_4 5 8 rfl rfl) (by decide) ?_
            exact ih mce mfr mun mbe men mov msp mwb mwe mwi mac mre mkn mth ext0 x2 (mbe x6.toNatClampNeg) (x6 + 1) qn0 _ _ hP hD hS ls (lv_sub hl [2, 3, 4, 1, 0] rfl) h
  have J12 : ∀ (n : Nat), ∀ (mce : Nat → Int64) (mfr : Int64) (mun : Int64) (mbe : Nat → Int64) (men : Nat → Int64) (mov : Nat → Int32) (msp : Int32) (mwb : Nat → Int64) (mwe : Nat → Int64) (mwi : Int32) (mac : Int32) (mre : Int32) (mkn : Int32) (mth : Int32) (ext0 : Nat → Int64) (x2 : Int32) (x3 : Int64) (qn0 : Nat) (H : Heap) (locs : List Loc), va_P (dC, dI) vwCl ((wMo cJ cZ b mce mfr mun mbe men mov msp mwb mwe mwi mac mre mkn mth) ++ [(qn0, .inl (cJ, 22, .inr (.inl ext0)))]) H → va_D A ((wMo cJ cZ b mce mfr mun mbe men mov msp mwb mwe mwi mac mre mkn mth) ++ [(qn0, .inl (cJ, 22, .inr (.inl ext0)))]) → va_S A s.heap H locs → ∀ (ls : Array Slot), lv_has ls 7 (kvA 0 (b 0) (kvA 1 qn0 (kvI 2 x2 (kvJ 3 x3 kvE)))) → f_X3_free_12 n mun mbe men msp ext0 x2 x3 = some res → W p l e (headSpec wsX3_free (kRm 1 1 22 23)).room s m ([.ref (b 0)] : List Value).toArray below meth c H locs 1 22 (MQ below (kR (dC, dI) (.inl (cJ, 22, .inr (.inl (res)))) (wMo cJ cZ b mce mfr mun mbe men mov msp mwb mwe mwi mac mre mkn mth) A) ([.ref (b 0)] : List Value).toArray s 1 22 A) (F0 m 12 ls []) := by
    intro n
    induction n with
    | zero =>
      intro mce mfr mun mbe men mov msp mwb mwe mwi mac mre mkn mth ext0 x2 x3 qn0 H locs hP hD hS ls hl h
      have h := f_X3_free_12_0.symm.trans h
      cases h
    | succ n ih =>
      intro mce mfr mun mbe men mov msp mwb mwe mwi mac mre mkn mth ext0 x2 x3 qn0 H locs hP hD hS ls hl h
      have h := f_X3_free_12_s.symm.trans h
      refine lv_lload_n hx hb (kdr dgX3_free_4 0 6 rfl rfl) rfl (lv_at hl 3 rfl) ?_
      refine lv_aload_n hx hb (kdr dgX3_free_4 0 7 rfl rfl) rfl (lv_at hl 0 rfl) ?_
      refine va_get (D := (dC, dI)) (ci := 5) (v := .long mun) (C := RX3) (T := TX3) (N := 14) hx hb hts hiX3 hown hK hP 0 rfl rfl 2 (by decide) hw2 (fun _ h9 => h9) rfl (kdr dgX3_free_4 0 8 rfl rfl) ?_
      refine kl_ge (pc := 17) (tgt := 117) hx hb (kdr dgX3_free_4 0 9 rfl rfl) (kdr dgX3_free_4 1 0 rfl rfl) (by decide) (fun c1 => ?_) (fun c1 => ?_)
      · have h := g_t c1 h
        refine lv_aload_n hx hb (kdr dgX3_free_4 6 7 rfl rfl) rfl (lv_at hl 1 rfl) ?_
        have h := Option.some.inj h
        subst h
        refine W.widen (k := 1) (n := 22) (Nat.le_of_ble_eq_true rfl) (Nat.le_of_ble_eq_true rfl) ?_
        exact kret_r (q := qn0) hx hb hr (Or.inr ⟨_, rfl⟩) hlocks hS hP hD (kdr dgX3_free_4 6 8 rfl rfl)
      · have h := g_f c1 h
        refine lv_aload_n hx hb (kdr dgX3_free_4 1 1 rfl rfl) rfl (lv_at hl 0 rfl) ?_
        refine lv_lload_n hx hb (kdr dgX3_free_4 1 2 rfl rfl) rfl (lv_at hl 3 rfl) ?_
        obtain ⟨r2, g2, h⟩ := g_b h
        refine kq_i ((wMo cJ cZ b mce mfr mun mbe men mov msp mwb mwe mwi mac mre mkn mth) ++ [(qn0, .inl (cJ, 22, .inr (.inl ext0)))]) (fun qP qD qF => va_runV (As := [.long x3]) (rest := []) ⟨hx, hb, hml, hown, hts⟩ (c_X3_spanAt l dC dI cB cI cJ cZ b _ mce mfr mun mbe men mov msp mwb mwe mwi mac mre mkn mth x3 r2 g2) (kcwV hts kw_1340 kv_X3_spanAt rfl rfl ⟨(Nat.le_of_ble_eq_true rfl), (Nat.le_of_ble_eq_true rfl)⟩) (kpV (A := A) qP hK qD hG (krecv_5 (q0 := 0) hK hP rfl)) rfl rfl hl.1 rfl (lv_room (Nat.le_of_ble_eq_true rfl)) (kdr dgX3_free_4 1 3 rfl rfl) ⟨(Nat.le_of_ble_eq_true rfl), (Nat.le_of_ble_eq_true rfl)⟩) hP hD hS hA (kFr_l kFr_Mo) (fun H locs hP hD hS br2 => ?_)
        refine lv_istore (lv' := (kvI 5 r2 (kvA 0 (b 0) (kvA 1 qn0 (kvI 2 x2 (kvJ 3 x3 kvE)))))) hx hb (kdr dgX3_free_4 1 4 rfl rfl) hl (by decide) rfl (fun ls hl => ?_)
        refine lv_iload hx hb (kdr dgX3_free_4 1 5 rfl rfl) (lv_at hl 0 rfl) ?_
        refine lv_if_lt (tgt := 44) hx hb (kdr dgX3_free_4 1 6 rfl rfl) (by decide) (fun c3 => ?_) (fun c3 => ?_)
        · have h := g_t c3 h
          refine lv_aload_n hx hb (kdr dgX3_free_4 2 3 rfl rfl) rfl (lv_at hl 2 rfl) ?_
          refine lv_iload_n hx hb (kdr dgX3_free_4 2 4 rfl rfl) rfl (lv_at hl 3 rfl) ?_
          refine lv_lload_n hx hb (kdr dgX3_free_4 2 5 rfl rfl) rfl (lv_at hl 4 rfl) ?_
          obtain ⟨z3, h⟩ := g_if h
          refine va_last hx hb hK hP hD hS 7 2 rfl rfl (ix_in z3) (kdr dgX3_free_4 2 6 rfl rfl) (fun H locs hP hD hS => ?_)
          have hP : va_P (dC, dI) vwCl ((wMo cJ cZ b mce mfr mun mbe men mov msp mwb mwe mwi mac mre mkn mth) ++ [(qn0, .inl (cJ, 22, .inr (.inl (vp_updL ext0 x2.toNatClampNeg x3))))]) H := hP
          have hD : va_D A ((wMo cJ cZ b mce mfr mun mbe men mov msp mwb mwe mwi mac mre mkn mth) ++ [(qn0, .inl (cJ, 22, .inr (.inl (vp_updL ext0 x2.toNatClampNeg x3))))]) := hD
          refine lv_aload_n hx hb (kdr dgX3_free_4 2 7 rfl rfl) rfl (lv_at hl 1 rfl) ?_
          refine va_get (D := (dC, dI)) (ci := 5) (v := .long mun) (C := RX3) (T := TX3) (N := 14) hx hb hts hiX3 hown hK hP 0 rfl rfl 2 (by decide) hw2 (fun _ h9 => h9) rfl (kdr dgX3_free_4 2 8 rfl rfl) ?_
          refine lv_lstore_n (lv' := (kvJ 3 mun (kvI 5 r2 (kvA 0 (b 0) (kvA 1 qn0 (kvI 2 x2 kvE)))))) hx hb (kdr dgX3_free_4 2 9 rfl rfl) rfl hl (by decide) rfl (fun ls hl => ?_)
          refine lv_iconst (v := 0) hx hb (kdr dgX3_free_4 3 0 rfl rfl) (by decide) ?_
          refine lv_istore (lv' := (kvI 6 0 (kvJ 3 mun (kvI 5 r2 (kvA 0 (b 0) (kvA 1 qn0 (kvI 2 x2 kvE))))))) hx hb (kdr dgX3_free_4 3 1 rfl rfl) hl (by decide) rfl (fun ls hl => ?_)
          exact J56 (f_X3_free_12 n) ih 24 mce mfr mun mbe men mov msp mwb mwe mwi mac mre mkn mth (vp_updL ext0 x2.toNatClampNeg x3) x2 mun 0 qn0 _ _ hP hD hS ls (lv_sub hl [3, 4, 5, 1, 0] rfl) h
        · have h := g_f c3 h
          refine lv_aload_n hx hb (kdr dgX3_free_4 1 7 rfl rfl) rfl (lv_at hl 1 rfl) ?_
          refine va_get (D := (dC, dI)) (ci := 5) (v := .ref (b 3)) (C := RX3) (T := TX3) (N := 14) hx hb hts hiX3 hown hK hP 0 rfl rfl 4 (by decide) hw5 (fun _ h9 => h9) rfl (kdr dgX3_free_4 1 8 rfl rfl) ?_
          refine lv_iload hx hb (kdr dgX3_free_4 1 9 rfl rfl) (lv_at hl 0 rfl) ?_
          obtain ⟨z3, h⟩ := g_if h
          refine va_lald hx hb hK hP 3 2 rfl rfl (ix_in z3) (kdr dgX3_free_4 2 0 rfl rfl) ?_
          refine lv_lstore_n (lv' := (kvJ 3 (men r2.toNatClampNeg) (kvI 5 r2 (kvA 0 (b 0) (kvA 1 qn0 (kvI 2 x2 kvE)))))) hx hb (kdr dgX3_free_4 2 1 rfl rfl) rfl hl (by decide) rfl (fun ls hl => ?_)
          refine lv_goto (tgt := 12) hx hb (kdr dgX3_free_4 2 2 rfl rfl) (by decide) ?_
          exact ih mce mfr mun mbe men mov msp mwb mwe mwi mac mre mkn mth ext0 x2 (men r2.toNatClampNeg) qn0 _ _ hP hD hS ls (lv_sub hl [2, 3, 4, 0] rfl) h
  have hl := lv_entry ([.ref (b 0)]) (n := 7) (Nat.le_of_ble_eq_true rfl)
  rw [lg_entry_eq]
  generalize (lg_sl ([.ref (b 0)]) ++ List.replicate (7 - (lg_sl ([.ref (b 0)])).length) Slot.unset).toArray = ls at hl ⊢
  have hl : lv_has ls 7 (kvA 0 (b 0) kvE) := hl
  have h := f_X3_free_e.symm.trans hf
  refine lv_bipush (v := 22) hx hb (kdr dgX3_free_0 0 0 rfl rfl) (by decide) ?_
  refine va_newa (atype := .long) (ty := .long) (a0 := (22, .inr (.inl (fun _ => 0)))) hx hb hw0 rfl hK hP hD hS hA (fun _ => rfl) (by decide) (by decide) (Nat.le_of_ble_eq_true rfl) (Nat.le_of_ble_eq_true rfl) (Nat.le_of_ble_eq_true rfl) dX3_free_2 (fun qn0 cA H hK9 hP hD hS => ?_)
  have e9 : cA = cJ := k_cA hK9 2 rfl
  rw [e9] at hP hD
  have hP : va_P (dC, dI) vwCl ((wMo cJ cZ b mce mfr mun mbe men mov msp mwb mwe mwi mac mre mkn mth) ++ [(qn0, .inl (cJ, 22, .inr (.inl (fun _ => 0))))]) H := hP
  have hD : va_D A ((wMo cJ cZ b mce mfr mun mbe men mov msp mwb mwe mwi mac mre mkn mth) ++ [(qn0, .inl (cJ, 22, .inr (.inl (fun _ => 0))))]) := hD
  refine lv_astore_n (lv' := (kvA 1 qn0 (kvA 0 (b 0) kvE))) hx hb (kdr dgX3_free_4 0 0 rfl rfl) rfl hl (by decide) rfl (fun ls hl => ?_)
  refine lv_iconst (v := 0) hx hb (kdr dgX3_free_4 0 1 rfl rfl) (by decide) ?_
  refine lv_istore_n (lv' := (kvI 2 0 (kvA 1 qn0 (kvA 0 (b 0) kvE)))) hx hb (kdr dgX3_free_4 0 2 rfl rfl) rfl hl (by decide) rfl (fun ls hl => ?_)
  refine lv_aload_n hx hb (kdr dgX3_free_4 0 3 rfl rfl) rfl (lv_at hl 2 rfl) ?_
  refine va_get (D := (dC, dI)) (ci := 5) (v := .long mfr) (C := RX3) (T := TX3) (N := 14) hx hb hts hiX3 hown hK hP 0 rfl rfl 1 (by decide) hw1 (fun _ h9 => h9) rfl (kdr dgX3_free_4 0 4 rfl rfl) ?_
  refine lv_lstore_n (lv' := (kvJ 3 mfr (kvI 2 0 (kvA 1 qn0 (kvA 0 (b 0) kvE))))) hx hb (kdr dgX3_free_4 0 5 rfl rfl) rfl hl (by decide) rfl (fun ls hl => ?_)
  exact J12 24 mce mfr mun mbe men mov msp mwb mwe mwi mac mre mkn mth (fun _ => 0) 0 mfr qn0 _ _ hP hD hS ls (lv_sub hl [3, 2, 1, 0] rfl) h
noncomputable abbrev wsX3_freesOf : List Cond := kWs yX3_freesOf cX3_freesOf 2 (some .int)
noncomputable def f_X3_freesOf_2 (n0 : Nat) : Nat → (Nat → Int64) → (Int32) → Option (Int32)
  | 0, _, _ => none
  | n + 1, v0, x1 =>
    if (Int32.ofNat n0) ≤ (2 * x1) then
      some x1
    else
      if ix ((2 * x1) + 1) n0 then
        if ix (2 * x1) n0 then
          if (v0 ((2 * x1) + 1).toNatClampNeg) = (v0 (2 * x1).toNatClampNeg) then
            some x1
          else
            f_X3_freesOf_2 n0 n v0 (x1 + 1)
        else none
      else none
theorem f_X3_freesOf_2_0 {n0 : Nat} {v0 : Nat → Int64} {x1 : Int32} : f_X3_freesOf_2 n0 0 v0 x1 = none := rfl
theorem f_X3_freesOf_2_s {n0 : Nat} {n : Nat} {v0 : Nat → Int64} {x1 : Int32} : f_X3_freesOf_2 n0 (n + 1) v0 x1 =
  if (Int32.ofNat n0) ≤ (2 * x1) then
    some x1
  else
    if ix ((2 * x1) + 1) n0 then
      if ix (2 * x1) n0 then
        if (v0 ((2 * x1) + 1).toNatClampNeg) = (v0 (2 * x1).toNatClampNeg) then
          some x1
        else
          f_X3_freesOf_2 n0 n v0 (x1 + 1)
      else none
    else none := rfl
noncomputable def f_X3_freesOf (n0 : Nat) (v0 : Nat → Int64) : Option (Int32) :=
  f_X3_freesOf_2 n0 24 v0 0
theorem f_X3_freesOf_e {n0 : Nat} {v0 : Nat → Int64} : f_X3_freesOf n0 v0 = 
  f_X3_freesOf_2 n0 24 v0 0 := rfl
set_option maxHeartbeats 4000000 in
set_option maxRecDepth 100000 in
theorem c_X3_freesOf (l : Launch) (dC : Nat → ClassId) (dI : Nat → Nat → Nat) (cB cI cJ cZ : ClassId) (q0 : Nat) (n0 : Nat) (sz : Nat) (v0 : Nat → Int64) (res : Int32) (hf : f_X3_freesOf n0 v0 = some res) : kMi l yX3_freesOf wsX3_freesOf (kRm 0 0 0 0) dC dI cB cI cJ cZ [.ref q0] sz [(q0, .inl (cJ, n0, .inr (.inl v0)))] .int (res) [(q0, .inl (cJ, n0, .inr (.inl v0)))] 0 0 := by
  refine kmet_i (y := yX3_freesOf) (cc := cX3_freesOf) (maxL := 2) (ret := (some .int)) RX3 (kvA 0 q0 kvE) kpl_X3 rfl rfl (Nat.le_of_ble_eq_true rfl) rfl (fun p e s m below meth c A ls hx hb hr hml hts hown hlocks hP hK hG hD hA hS hl => ?_)
  have J2 : ∀ (n : Nat), ∀ (v0 : Nat → Int64) (x1 : Int32) (H : Heap) (locs : List Loc), va_P (dC, dI) vwCl [(q0, .inl (cJ, n0, .inr (.inl v0)))] H → va_D A [(q0, .inl (cJ, n0, .inr (.inl v0)))] → va_S A s.heap H locs → ∀ (ls : Array Slot), lv_has ls 2 (kvA 0 q0 (kvI 1 x1 kvE)) → f_X3_freesOf_2 n0 n v0 x1 = some res → W p l e (headSpec wsX3_freesOf (kRm 0 0 0 0)).room s m ([.ref q0] : List Value).toArray below meth c H locs 0 0 (MQ below (kI (dC, dI) .int (res) [(q0, .inl (cJ, n0, .inr (.inl v0)))] A) ([.ref q0] : List Value).toArray s 0 0 A) (F0 m 2 ls []) := by
    intro n
    induction n with
    | zero =>
      intro v0 x1 H locs hP hD hS ls hl h
      have h := f_X3_freesOf_2_0.symm.trans h
      cases h
    | succ n ih =>
      intro v0 x1 H locs hP hD hS ls hl h
      have h := f_X3_freesOf_2_s.symm.trans h
      refine lv_iconst (v := 2) hx hb (kdr dgX3_freesOf_0 0 2 rfl rfl) (by decide) ?_
      refine lv_iload_n hx hb (kdr dgX3_freesOf_0 0 3 rfl rfl) rfl (lv_at hl 1 rfl) ?_
      refine lv_imul hx hb (kdr dgX3_freesOf_0 0 4 rfl rfl) ?_
      refine lv_aload_n hx hb (kdr dgX3_freesOf_0 0 5 rfl rfl) rfl (lv_at hl 0 rfl) ?_
      refine va_alen (v := Int32.ofNat n0) hx hb hK hP 0 2 rfl rfl rfl (kdr dgX3_freesOf_0 0 6 rfl rfl) ?_
      refine lv_icmp_ge (tgt := 32) hx hb (kdr dgX3_freesOf_0 0 7 rfl rfl) (by decide) (fun c1 => ?_) (fun c1 => ?_)
      · have h := g_t c1 h
        refine lv_iload_n hx hb (kdr dgX3_freesOf_0 2 4 rfl rfl) rfl (lv_at hl 1 rfl) ?_
        have h := Option.some.inj h
        subst h
        exact kret_i (v := x1) hx hb hr rfl hlocks hS hP (kdr dgX3_freesOf_0 2 5 rfl rfl)
      · have h := g_f c1 h
        refine lv_aload_n hx hb (kdr dgX3_freesOf_0 0 8 rfl rfl) rfl (lv_at hl 0 rfl) ?_
        refine lv_iconst (v := 2) hx hb (kdr dgX3_freesOf_0 0 9 rfl rfl) (by decide) ?_
        refine lv_iload_n hx hb (kdr dgX3_freesOf_0 1 0 rfl rfl) rfl (lv_at hl 1 rfl) ?_
        refine lv_imul hx hb (kdr dgX3_freesOf_0 1 1 rfl rfl) ?_
        refine lv_iconst (v := 1) hx hb (kdr dgX3_freesOf_0 1 2 rfl rfl) (by decide) ?_
        refine lv_iadd hx hb (kdr dgX3_freesOf_0 1 3 rfl rfl) ?_
        obtain ⟨z1, h⟩ := g_if h
        refine va_lald hx hb hK hP 0 2 rfl rfl (ix_in z1) (kdr dgX3_freesOf_0 1 4 rfl rfl) ?_
        refine lv_aload_n hx hb (kdr dgX3_freesOf_0 1 5 rfl rfl) rfl (lv_at hl 0 rfl) ?_
        refine lv_iconst (v := 2) hx hb (kdr dgX3_freesOf_0 1 6 rfl rfl) (by decide) ?_
        refine lv_iload_n hx hb (kdr dgX3_freesOf_0 1 7 rfl rfl) rfl (lv_at hl 1 rfl) ?_
        refine lv_imul hx hb (kdr dgX3_freesOf_0 1 8 rfl rfl) ?_
        obtain ⟨z2, h⟩ := g_if h
        refine va_lald hx hb hK hP 0 2 rfl rfl (ix_in z2) (kdr dgX3_freesOf_0 1 9 rfl rfl) ?_
        refine kl_eq (pc := 22) (tgt := 32) hx hb (kdr dgX3_freesOf_0 2 0 rfl rfl) (kdr dgX3_freesOf_0 2 1 rfl rfl) (by decide) (fun c4 => ?_) (fun c4 => ?_)
        · have h := g_t c4 h
          refine lv_iload_n hx hb (kdr dgX3_freesOf_0 2 4 rfl rfl) rfl (lv_at hl 1 rfl) ?_
          have h := Option.some.inj h
          subst h
          exact kret_i (v := x1) hx hb hr rfl hlocks hS hP (kdr dgX3_freesOf_0 2 5 rfl rfl)
        · have h := g_f c4 h
          refine lv_iinc (v := x1 + 1) (lv' := (kvI 1 (x1 + 1) (kvA 0 q0 kvE))) hx hb (kdr dgX3_freesOf_0 2 2 rfl rfl) hl (k := 1) rfl rfl (by decide) rfl (fun ls hl => ?_)
          refine lv_goto (tgt := 2) hx hb (kdr dgX3_freesOf_0 2 3 rfl rfl) (by decide) ?_
          exact ih v0 (x1 + 1) _ _ hP hD hS ls (lv_sub hl [1, 0] rfl) h
  have h := f_X3_freesOf_e.symm.trans hf
  refine lv_iconst (v := 0) hx hb (kdr dgX3_freesOf_0 0 0 rfl rfl) (by decide) ?_
  refine lv_istore_n (lv' := (kvI 1 0 (kvA 0 q0 kvE))) hx hb (kdr dgX3_freesOf_0 0 1 rfl rfl) rfl hl (by decide) rfl (fun ls hl => ?_)
  exact J2 24 v0 0 _ _ hP hD hS ls (lv_sub hl [1, 0] rfl) h
noncomputable abbrev wsX3_freeLength : List Cond := kWs yX3_freeLength cX3_freeLength 5 (some .long)
noncomputable def f_X3_freeLength_10 : Nat → (Nat → Int64) → (Int64) → (Int32) → Option (Int64)
  | 0, _, _, _ => none
  | n + 1, ext0, x2, x4 =>
    (f_X3_freesOf 22 ext0).bind fun r1 =>
    if r1 ≤ x4 then
      some x2
    else
      if ix ((2 * x4) + 1) 22 then
        if ix (2 * x4) 22 then
          f_X3_freeLength_10 n ext0 (x2 + ((ext0 ((2 * x4) + 1).toNatClampNeg) - (ext0 (2 * x4).toNatClampNeg))) (x4 + 1)
        else none
      else none
theorem f_X3_freeLength_10_0 {ext0 : Nat → Int64} {x2 : Int64} {x4 : Int32} : f_X3_freeLength_10 0 ext0 x2 x4 = none := rfl
theorem f_X3_freeLength_10_s {n : Nat} {ext0 : Nat → Int64} {x2 : Int64} {x4 : Int32} : f_X3_freeLength_10 (n + 1) ext0 x2 x4 =
  (f_X3_freesOf 22 ext0).bind fun r1 =>
  if r1 ≤ x4 then
    some x2
  else
    if ix ((2 * x4) + 1) 22 then
      if ix (2 * x4) 22 then
        f_X3_freeLength_10 n ext0 (x2 + ((ext0 ((2 * x4) + 1).toNatClampNeg) - (ext0 (2 * x4).toNatClampNeg))) (x4 + 1)
      else none
    else none := rfl
noncomputable def f_X3_freeLength (mfr : Int64) (mun : Int64) (mbe : Nat → Int64) (men : Nat → Int64) (msp : Int32) : Option (Int64) :=
  (f_X3_free mfr mun mbe men msp).bind fun r1 =>
  f_X3_freeLength_10 24 r1 0 0
theorem f_X3_freeLength_e {mfr : Int64} {mun : Int64} {mbe : Nat → Int64} {men : Nat → Int64} {msp : Int32} : f_X3_freeLength mfr mun mbe men msp = 
  (f_X3_free mfr mun mbe men msp).bind fun r1 =>
  f_X3_freeLength_10 24 r1 0 0 := rfl
set_option maxHeartbeats 4000000 in
set_option maxRecDepth 100000 in
theorem c_X3_freeLength (l : Launch) (dC : Nat → ClassId) (dI : Nat → Nat → Nat) (cB cI cJ cZ : ClassId) (b : Nat → Nat) (sz : Nat) (mce : Nat → Int64) (mfr : Int64) (mun : Int64) (mbe : Nat → Int64) (men : Nat → Int64) (mov : Nat → Int32) (msp : Int32) (mwb : Nat → Int64) (mwe : Nat → Int64) (mwi : Int32) (mac : Int32) (mre : Int32) (mkn : Int32) (mth : Int32) (res : Int64) (hf : f_X3_freeLength mfr mun mbe men msp = some res) : kMl l yX3_freeLength wsX3_freeLength (kRm 2 1 22 49) dC dI cB cI cJ cZ [.ref (b 0)] sz (wMo cJ cZ b mce mfr mun mbe men mov msp mwb mwe mwi mac mre mkn mth) (res) (wMo cJ cZ b mce mfr mun mbe men mov msp mwb mwe mwi mac mre mkn mth) 1 22 := by
  refine kmet_l (y := yX3_freeLength) (cc := cX3_freeLength) (maxL := 5) (ret := (some .long)) RX3 (kvA 0 (b 0) kvE) kpl_X3 rfl rfl (Nat.le_of_ble_eq_true rfl) rfl (fun p e s m below meth c A ls hx hb hr hml hts hown hlocks hP hK hG hD hA hS hl => ?_)
  have J10 : ∀ (n : Nat), ∀ (mce : Nat → Int64) (mfr : Int64) (mun : Int64) (mbe : Nat → Int64) (men : Nat → Int64) (mov : Nat → Int32) (msp : Int32) (mwb : Nat → Int64) (mwe : Nat → Int64) (mwi : Int32) (mac : Int32) (mre : Int32) (mkn : Int32) (mth : Int32) (ext0 : Nat → Int64) (x2 : Int64) (x4 : Int32) (qn0 : Nat) (H : Heap) (locs : List Loc), va_P (dC, dI) vwCl ((wMo cJ cZ b mce mfr mun mbe men mov msp mwb mwe mwi mac mre mkn mth) ++ [(qn0, .inl (cJ, 22, .inr (.inl ext0)))]) H → va_D A ((wMo cJ cZ b mce mfr mun mbe men mov msp mwb mwe mwi mac mre mkn mth) ++ [(qn0, .inl (cJ, 22, .inr (.inl ext0)))]) → va_S A s.heap H locs → ∀ (ls : Array Slot), lv_has ls 5 (kvA 1 qn0 (kvJ 2 x2 (kvI 4 x4 kvE))) → f_X3_freeLength_10 n ext0 x2 x4 = some res → W p l e (headSpec wsX3_freeLength (kRm 2 1 22 49)).room s m ([.ref (b 0)] : List Value).toArray below meth c H locs 1 22 (MQ below (kL (dC, dI) (res) (wMo cJ cZ b mce mfr mun mbe men mov msp mwb mwe mwi mac mre mkn mth) A) ([.ref (b 0)] : List Value).toArray s 1 22 A) (F0 m 10 ls []) := by
    intro n
    induction n with
    | zero =>
      intro mce mfr mun mbe men mov msp mwb mwe mwi mac mre mkn mth ext0 x2 x4 qn0 H locs hP hD hS ls hl h
      have h := f_X3_freeLength_10_0.symm.trans h
      cases h
    | succ n ih =>
      intro mce mfr mun mbe men mov msp mwb mwe mwi mac mre mkn mth ext0 x2 x4 qn0 H locs hP hD hS ls hl h
      have h := f_X3_freeLength_10_s.symm.trans h
      refine lv_iload hx hb (kdr dgX3_freeLength_0 0 7 rfl rfl) (lv_at hl 2 rfl) ?_
      refine lv_aload_n hx hb (kdr dgX3_freeLength_0 0 8 rfl rfl) rfl (lv_at hl 0 rfl) ?_
      obtain ⟨r1, g1, h⟩ := g_b h
      refine kq_i ((wMo cJ cZ b mce mfr mun mbe men mov msp mwb mwe mwi mac mre mkn mth) ++ [(qn0, .inl (cJ, 22, .inr (.inl ext0)))]) (fun qP qD qF => va_runS (As := [.ref qn0]) (rest := [.int x4]) ⟨hx, hb, hml, hown, hts⟩ (c_X3_freesOf l dC dI cB cI cJ cZ qn0 22 _ ext0  r1 g1) (kcwS hts kw_1364 kv_X3_freesOf rfl rfl ⟨(Nat.le_of_ble_eq_true rfl), (Nat.le_of_ble_eq_true rfl)⟩) (kpS (A := A) qP hK qD hG) rfl rfl hl.1 rfl (lv_room (Nat.le_of_ble_eq_true rfl)) (kdr dgX3_freeLength_0 0 9 rfl rfl) ⟨(Nat.le_of_ble_eq_true rfl), (Nat.le_of_ble_eq_true rfl)⟩) hP hD hS hA (kFr_r kFr_o) (fun H locs hP hD hS br1 => ?_)
      refine lv_icmp_ge (tgt := 43) hx hb (kdr dgX3_freeLength_0 1 0 rfl rfl) (by decide) (fun c2 => ?_) (fun c2 => ?_)
      · have h := g_t c2 h
        refine lv_lload_n hx hb (kdr dgX3_freeLength_0 2 9 rfl rfl) rfl (lv_at hl 1 rfl) ?_
        have hP := hP.sub (ws' := (wMo cJ cZ b mce mfr mun mbe men mov msp mwb mwe mwi mac mre mkn mth)) [0, 1, 2, 3, 4, 5, 6] rfl
        have h := Option.some.inj h
        subst h
        refine W.widen (k := 1) (n := 22) (Nat.le_of_ble_eq_true rfl) (Nat.le_of_ble_eq_true rfl) ?_
        exact kret_l (v := x2) hx hb hr hlocks hS hP (kdr dgX3_freeLength_0 3 0 rfl rfl)
      · have h := g_f c2 h
        refine lv_lload_n hx hb (kdr dgX3_freeLength_0 1 1 rfl rfl) rfl (lv_at hl 1 rfl) ?_
        refine lv_aload_n hx hb (kdr dgX3_freeLength_0 1 2 rfl rfl) rfl (lv_at hl 0 rfl) ?_
        refine lv_iconst (v := 2) hx hb (kdr dgX3_freeLength_0 1 3 rfl rfl) (by decide) ?_
        refine lv_iload hx hb (kdr dgX3_freeLength_0 1 4 rfl rfl) (lv_at hl 2 rfl) ?_
        refine lv_imul hx hb (kdr dgX3_freeLength_0 1 5 rfl rfl) ?_
        refine lv_iconst (v := 1) hx hb (kdr dgX3_freeLength_0 1 6 rfl rfl) (by decide) ?_
        refine lv_iadd hx hb (kdr dgX3_freeLength_0 1 7 rfl rfl) ?_
        obtain ⟨z2, h⟩ := g_if h
        refine va_lald hx hb hK hP 7 2 rfl rfl (ix_in z2) (kdr dgX3_freeLength_0 1 8 rfl rfl) ?_
        refine lv_aload_n hx hb (kdr dgX3_freeLength_0 1 9 rfl rfl) rfl (lv_at hl 0 rfl) ?_
        refine lv_iconst (v := 2) hx hb (kdr dgX3_freeLength_0 2 0 rfl rfl) (by decide) ?_
        refine lv_iload hx hb (kdr dgX3_freeLength_0 2 1 rfl rfl) (lv_at hl 2 rfl) ?_
        refine lv_imul hx hb (kdr dgX3_freeLength_0 2 2 rfl rfl) ?_
        obtain ⟨z3, h⟩ := g_if h
        refine va_lald hx hb hK hP 7 2 rfl rfl (ix_in z3) (kdr dgX3_freeLength_0 2 3 rfl rfl) ?_
        refine lv_lsub hx hb (kdr dgX3_freeLength_0 2 4 rfl rfl) ?_
        refine lv_ladd hx hb (kdr dgX3_freeLength_0 2 5 rfl rfl) ?_
        refine lv_lstore_n (lv' := (kvJ 2 (x2 + ((ext0 ((2 * x4) + 1).toNatClampNeg) - (ext0 (2 * x4).toNatClampNeg))) (kvA 1 qn0 (kvI 4 x4 kvE)))) hx hb (kdr dgX3_freeLength_0 2 6 rfl rfl) rfl hl (by decide) rfl (fun ls hl => ?_)
        refine lv_iinc (v := x4 + 1) (lv' := (kvI 4 (x4 + 1) (kvJ 2 (x2 + ((ext0 ((2 * x4) + 1).toNatClampNeg) - (ext0 (2 * x4).toNatClampNeg))) (kvA 1 qn0 kvE)))) hx hb (kdr dgX3_freeLength_0 2 7 rfl rfl) hl (k := 2) rfl rfl (by decide) rfl (fun ls hl => ?_)
        refine lv_goto (tgt := 10) hx hb (kdr dgX3_freeLength_0 2 8 rfl rfl) (by decide) ?_
        exact ih mce mfr mun mbe men mov msp mwb mwe mwi mac mre mkn mth ext0 (x2 + ((ext0 ((2 * x4) + 1).toNatClampNeg) - (ext0 (2 * x4).toNatClampNeg))) (x4 + 1) qn0 _ _ hP hD hS ls (lv_sub hl [2, 1, 0] rfl) h
  have h := f_X3_freeLength_e.symm.trans hf
  refine lv_aload_n hx hb (kdr dgX3_freeLength_0 0 0 rfl rfl) rfl (lv_at hl 0 rfl) ?_
  obtain ⟨r1, g1, h⟩ := g_b h
  refine kcall_r (wMo cJ cZ b mce mfr mun mbe men mov msp mwb mwe mwi mac mre mkn mth) (va_runV (As := []) (rest := []) ⟨hx, hb, hml, hown, hts⟩ (c_X3_free l dC dI cB cI cJ cZ b _ mce mfr mun mbe men mov msp mwb mwe mwi mac mre mkn mth  r1 g1) (kcwV hts kw_1360 kv_X3_free rfl rfl ⟨(Nat.le_of_ble_eq_true rfl), (Nat.le_of_ble_eq_true rfl)⟩) (kpV (A := A) (hP.sub [0, 1, 2, 3, 4, 5, 6] rfl) hK (hD.sub [0, 1, 2, 3, 4, 5, 6] (by decide) rfl) hG (krecv_5 (q0 := 0) hK hP rfl)) rfl rfl hl.1 rfl (lv_room (Nat.le_of_ble_eq_true rfl)) (kdr dgX3_freeLength_0 0 1 rfl rfl) ⟨(Nat.le_of_ble_eq_true rfl), (Nat.le_of_ble_eq_true rfl)⟩) hP hD hS hA [0, 1, 2, 3, 4, 5, 6] [] rfl rfl [] rfl rfl rfl (by decide) rfl rfl (fun qn0 H locs hP hD hS => ?_)
  have hP : va_P (dC, dI) vwCl ((wMo cJ cZ b mce mfr mun mbe men mov msp mwb mwe mwi mac mre mkn mth) ++ [(qn0, .inl (cJ, 22, .inr (.inl r1)))]) H := hP
  have hD : va_D A ((wMo cJ cZ b mce mfr mun mbe men mov msp mwb mwe mwi mac mre mkn mth) ++ [(qn0, .inl (cJ, 22, .inr (.inl r1)))]) := hD
  refine lv_astore_n (lv' := (kvA 1 qn0 (kvA 0 (b 0) kvE))) hx hb (kdr dgX3_freeLength_0 0 2 rfl rfl) rfl hl (by decide) rfl (fun ls hl => ?_)
  refine lv_lconst (v := 0) hx hb (kdr dgX3_freeLength_0 0 3 rfl rfl) (by decide) ?_
  refine lv_lstore_n (lv' := (kvJ 2 0 (kvA 1 qn0 (kvA 0 (b 0) kvE)))) hx hb (kdr dgX3_freeLength_0 0 4 rfl rfl) rfl hl (by decide) rfl (fun ls hl => ?_)
  refine lv_iconst (v := 0) hx hb (kdr dgX3_freeLength_0 0 5 rfl rfl) (by decide) ?_
  refine lv_istore (lv' := (kvI 4 0 (kvJ 2 0 (kvA 1 qn0 (kvA 0 (b 0) kvE))))) hx hb (kdr dgX3_freeLength_0 0 6 rfl rfl) hl (by decide) rfl (fun ls hl => ?_)
  exact J10 24 mce mfr mun mbe men mov msp mwb mwe mwi mac mre mkn mth r1 0 0 qn0 _ _ hP hD hS ls (lv_sub hl [2, 1, 0] rfl) h
noncomputable abbrev wsX3_takenLength : List Cond := kWs yX3_takenLength cX3_takenLength 9 (some .long)
noncomputable def f_X3_takenLength_100 (K7 : (Int64) → (Nat → Int64) → (Nat → Int64) → (Int32) → (Int64) → (Int64) → Option (Int64)) (mun : Int64) (mbe : Nat → Int64) (men : Nat → Int64) (msp : Int32) (x1 : Int64) (x3 : Int64) (x5 : Int32) (x6 : Int64) : Option (Int64) :=
  if x5 < 0 then
    K7 mun mbe men msp (x1 + 0) x6
  else
    K7 mun mbe men msp (x1 + (x6 - x3)) x6
theorem f_X3_takenLength_100_e {K7 : (Int64) → (Nat → Int64) → (Nat → Int64) → (Int32) → (Int64) → (Int64) → Option (Int64)} {mun : Int64} {mbe : Nat → Int64} {men : Nat → Int64} {msp : Int32} {x1 : Int64} {x3 : Int64} {x5 : Int32} {x6 : Int64} : f_X3_takenLength_100 K7 mun mbe men msp x1 x3 x5 x6 =
  if x5 < 0 then
    K7 mun mbe men msp (x1 + 0) x6
  else
    K7 mun mbe men msp (x1 + (x6 - x3)) x6 := rfl
noncomputable def f_X3_takenLength_46 (K7 : (Int64) → (Nat → Int64) → (Nat → Int64) → (Int32) → (Int64) → (Int64) → Option (Int64)) : Nat → (Int64) → (Nat → Int64) → (Nat → Int64) → (Int32) → (Int64) → (Int64) → (Int32) → (Int64) → (Int32) → Option (Int64)
  | 0, _, _, _, _, _, _, _, _, _ => none
  | n + 1, mun, mbe, men, msp, x1, x3, x5, x6, x8 =>
    if msp ≤ x8 then
      f_X3_takenLength_100 K7 mun mbe men msp x1 x3 x5 x6
    else
      if 0 ≤ x5 then
        f_X3_takenLength_100 K7 mun mbe men msp x1 x3 x5 x6
      else
        if ix x8 10 then
          if (mbe x8.toNatClampNeg) ≤ x3 then
            f_X3_takenLength_46 K7 n mun mbe men msp x1 x3 x5 x6 (x8 + 1)
          else
            if x6 ≤ (mbe x8.toNatClampNeg) then
              f_X3_takenLength_46 K7 n mun mbe men msp x1 x3 x5 x6 (x8 + 1)
            else
              f_X3_takenLength_46 K7 n mun mbe men msp x1 x3 x5 (mbe x8.toNatClampNeg) (x8 + 1)
        else none
theorem f_X3_takenLength_46_0 {K7 : (Int64) → (Nat → Int64) → (Nat → Int64) → (Int32) → (Int64) → (Int64) → Option (Int64)} {mun : Int64} {mbe : Nat → Int64} {men : Nat → Int64} {msp : Int32} {x1 : Int64} {x3 : Int64} {x5 : Int32} {x6 : Int64} {x8 : Int32} : f_X3_takenLength_46 K7 0 mun mbe men msp x1 x3 x5 x6 x8 = none := rfl
theorem f_X3_takenLength_46_s {K7 : (Int64) → (Nat → Int64) → (Nat → Int64) → (Int32) → (Int64) → (Int64) → Option (Int64)} {n : Nat} {mun : Int64} {mbe : Nat → Int64} {men : Nat → Int64} {msp : Int32} {x1 : Int64} {x3 : Int64} {x5 : Int32} {x6 : Int64} {x8 : Int32} : f_X3_takenLength_46 K7 (n + 1) mun mbe men msp x1 x3 x5 x6 x8 =
  if msp ≤ x8 then
    f_X3_takenLength_100 K7 mun mbe men msp x1 x3 x5 x6
  else
    if 0 ≤ x5 then
      f_X3_takenLength_100 K7 mun mbe men msp x1 x3 x5 x6
    else
      if ix x8 10 then
        if (mbe x8.toNatClampNeg) ≤ x3 then
          f_X3_takenLength_46 K7 n mun mbe men msp x1 x3 x5 x6 (x8 + 1)
        else
          if x6 ≤ (mbe x8.toNatClampNeg) then
            f_X3_takenLength_46 K7 n mun mbe men msp x1 x3 x5 x6 (x8 + 1)
          else
            f_X3_takenLength_46 K7 n mun mbe men msp x1 x3 x5 (mbe x8.toNatClampNeg) (x8 + 1)
      else none := rfl
noncomputable def f_X3_takenLength_7 : Nat → (Int64) → (Nat → Int64) → (Nat → Int64) → (Int32) → (Int64) → (Int64) → Option (Int64)
  | 0, _, _, _, _, _, _ => none
  | n + 1, mun, mbe, men, msp, x1, x3 =>
    if mun ≤ x3 then
      some x1
    else
      (f_X3_spanAt mbe men msp x3).bind fun r2 =>
      if r2 < 0 then
        f_X3_takenLength_46 (f_X3_takenLength_7 n) 24 mun mbe men msp x1 x3 r2 mun 0
      else
        if ix r2 10 then
          f_X3_takenLength_46 (f_X3_takenLength_7 n) 24 mun mbe men msp x1 x3 r2 (men r2.toNatClampNeg) 0
        else none
theorem f_X3_takenLength_7_0 {mun : Int64} {mbe : Nat → Int64} {men : Nat → Int64} {msp : Int32} {x1 : Int64} {x3 : Int64} : f_X3_takenLength_7 0 mun mbe men msp x1 x3 = none := rfl
theorem f_X3_takenLength_7_s {n : Nat} {mun : Int64} {mbe : Nat → Int64} {men : Nat → Int64} {msp : Int32} {x1 : Int64} {x3 : Int64} : f_X3_takenLength_7 (n + 1) mun mbe men msp x1 x3 =
  if mun ≤ x3 then
    some x1
  else
    (f_X3_spanAt mbe men msp x3).bind fun r2 =>
    if r2 < 0 then
      f_X3_takenLength_46 (f_X3_takenLength_7 n) 24 mun mbe men msp x1 x3 r2 mun 0
    else
      if ix r2 10 then
        f_X3_takenLength_46 (f_X3_takenLength_7 n) 24 mun mbe men msp x1 x3 r2 (men r2.toNatClampNeg) 0
      else none := rfl
noncomputable def f_X3_takenLength (mfr : Int64) (mun : Int64) (mbe : Nat → Int64) (men : Nat → Int64) (msp : Int32) : Option (Int64) :=
  f_X3_takenLength_7 24 mun mbe men msp 0 mfr
theorem f_X3_takenLength_e {mfr : Int64} {mun : Int64} {mbe : Nat → Int64} {men : Nat → Int64} {msp : Int32} : f_X3_takenLength mfr mun mbe men msp = 
  f_X3_takenLength_7 24 mun mbe men msp 0 mfr := rfl
set_option maxHeartbeats 4000000 in
set_option maxRecDepth 100000 in
theorem c_X3_takenLength (l : Launch) (dC : Nat → ClassId) (dI : Nat → Nat → Nat) (cB cI cJ cZ : ClassId) (b : Nat → Nat) (sz : Nat) (mce : Nat → Int64) (mfr : Int64) (mun : Int64) (mbe : Nat → Int64) (men : Nat → Int64) (mov : Nat → Int32) (msp : Int32) (mwb : Nat → Int64) (mwe : Nat → Int64) (mwi : Int32) (mac : Int32) (mre : Int32) (mkn : Int32) (mth : Int32) (res : Int64) (hf : f_X3_takenLength mfr mun mbe men msp = some res) : kMl l yX3_takenLength wsX3_takenLength (kRm 1 0 0 23) dC dI cB cI cJ cZ [.ref (b 0)] sz (wMo cJ cZ b mce mfr mun mbe men mov msp mwb mwe mwi mac mre mkn mth) (res) (wMo cJ cZ b mce mfr mun mbe men mov msp mwb mwe mwi mac mre mkn mth) 0 0 := by
  refine kmet_l (y := yX3_takenLength) (cc := cX3_takenLength) (maxL := 9) (ret := (some .long)) RX3 (kvA 0 (b 0) kvE) kpl_X3 rfl rfl (Nat.le_of_ble_eq_true rfl) rfl (fun p e s m below meth c A ls hx hb hr hml hts hown hlocks hP hK hG hD hA hS hl => ?_)
  have hw0 := hts (.fieldLink RX3 53 "SpanbookerModel" "from" "J") (List.mem_cons_of_mem _ kw_1073)
  have hw1 := hts (.fieldLink RX3 15 "SpanbookerModel" "until" "J") (List.mem_cons_of_mem _ kw_1074)
  have hw2 := hts (.fieldLink RX3 56 "SpanbookerModel" "spans" "I") (List.mem_cons_of_mem _ kw_1078)
  have hw3 := hts (.fieldLink RX3 19 "SpanbookerModel" "begins" "[J") (List.mem_cons_of_mem _ kw_1075)
  have hw4 := hts (.fieldLink RX3 22 "SpanbookerModel" "ends" "[J") (List.mem_cons_of_mem _ kw_1076)
  have hiX3 : ∀ w ∈ u_ws RX3 TX3 14, w ∈ wsX3_takenLength := fun w h => List.mem_cons_of_mem _ (ku_X3 w h)
  have J100 : ∀ (K7 : (Int64) → (Nat → Int64) → (Nat → Int64) → (Int32) → (Int64) → (Int64) → Option (Int64)), (∀ (mce : Nat → Int64) (mfr : Int64) (mun : Int64) (mbe : Nat → Int64) (men : Nat → Int64) (mov : Nat → Int32) (msp : Int32) (mwb : Nat → Int64) (mwe : Nat → Int64) (mwi : Int32) (mac : Int32) (mre : Int32) (mkn : Int32) (mth : Int32) (x1 : Int64) (x3 : Int64) (H : Heap) (locs : List Loc), va_P (dC, dI) vwCl (wMo cJ cZ b mce mfr mun mbe men mov msp mwb mwe mwi mac mre mkn mth) H → va_D A (wMo cJ cZ b mce mfr mun mbe men mov msp mwb mwe mwi mac mre mkn mth) → va_S A s.heap H locs → ∀ (ls : Array Slot), lv_has ls 9 (kvA 0 (b 0) (kvJ 1 x1 (kvJ 3 x3 kvE))) → K7 mun mbe men msp x1 x3 = some res → W p l e (headSpec wsX3_takenLength (kRm 1 0 0 23)).room s m ([.ref (b 0)] : List Value).toArray below meth c H locs 0 0 (MQ below (kL (dC, dI) (res) (wMo cJ cZ b mce mfr mun mbe men mov msp mwb mwe mwi mac mre mkn mth) A) ([.ref (b 0)] : List Value).toArray s 0 0 A) (F0 m 7 ls [])) → ∀ (mce : Nat → Int64) (mfr : Int64) (mun : Int64) (mbe : Nat → Int64) (men : Nat → Int64) (mov : Nat → Int32) (msp : Int32) (mwb : Nat → Int64) (mwe : Nat → Int64) (mwi : Int32) (mac : Int32) (mre : Int32) (mkn : Int32) (mth : Int32) (x1 : Int64) (x3 : Int64) (x5 : Int32) (x6 : Int64) (H : Heap) (locs : List Loc), va_P (dC, dI) vwCl (wMo cJ cZ b mce mfr mun mbe men mov msp mwb mwe mwi mac mre mkn mth) H → va_D A (wMo cJ cZ b mce mfr mun mbe men mov msp mwb mwe mwi mac mre mkn mth) → va_S A s.heap H locs → ∀ (ls : Array Slot), lv_has ls 9 (kvA 0 (b 0) (kvJ 1 x1 (kvJ 3 x3 (kvI 5 x5 (kvJ 6 x6 kvE))))) → f_X3_takenLength_100 K7 mun mbe men msp x1 x3 x5 x6 = some res → W p l e (headSpec wsX3_takenLength (kRm 1 0 0 23)).room s m ([.ref (b 0)] : List Value).toArray below meth c H locs 0 0 (MQ below (kL (dC, dI) (res) (wMo cJ cZ b mce mfr mun mbe men mov msp mwb mwe mwi mac mre mkn mth) A) ([.ref (b 0)] : List Value).toArray s 0 0 A) (F0 m 100 ls []) := by
    intro K7 hK7 mce mfr mun mbe men mov msp mwb mwe mwi mac mre mkn mth x1 x3 x5 x6 H locs hP hD hS ls hl h
    have h := f_X3_takenLength_100_e.symm.trans h
    refine lv_lload_n hx hb (kdr dgX3_takenLength_0 5 3 rfl rfl) rfl (lv_at hl 1 rfl) ?_
    refine lv_iload hx hb (kdr dgX3_takenLength_0 5 4 rfl rfl) (lv_at hl 3 rfl) ?_
    refine lv_if_lt (tgt := 113) hx hb (kdr dgX3_takenLength_0 5 5 rfl rfl) (by decide) (fun c1 => ?_) (fun c1 => ?_)
    · have h := g_t c1 h
      refine lv_lconst (v := 0) hx hb (kdr dgX3_takenLength_0 6 0 rfl rfl) (by decide) ?_
      refine lv_ladd hx hb (kdr dgX3_takenLength_0 6 1 rfl rfl) ?_
      refine lv_lstore_n (lv' := (kvJ 1 (x1 + 0) (kvA 0 (b 0) (kvJ 3 x3 (kvI 5 x5 (kvJ 6 x6 kvE)))))) hx hb (kdr dgX3_takenLength_0 6 2 rfl rfl) rfl hl (by decide) rfl (fun ls hl => ?_)
      refine lv_lload hx hb (kdr dgX3_takenLength_0 6 3 rfl rfl) (lv_at hl 4 rfl) ?_
      refine lv_lstore_n (lv' := (kvJ 3 x6 (kvJ 1 (x1 + 0) (kvA 0 (b 0) (kvI 5 x5 (kvJ 6 x6 kvE)))))) hx hb (kdr dgX3_takenLength_0 6 4 rfl rfl) rfl hl (by decide) rfl (fun ls hl => ?_)
      refine lv_goto (tgt := 7) hx hb (kdr dgX3_takenLength_0 6 5 rfl rfl) (by decide) ?_
      exact hK7 mce mfr mun mbe men mov msp mwb mwe mwi mac mre mkn mth (x1 + 0) x6 _ _ hP hD hS ls (lv_sub hl [2, 1, 0] rfl) h
    · have h := g_f c1 h
      refine lv_lload hx hb (kdr dgX3_takenLength_0 5 6 rfl rfl) (lv_at hl 4 rfl) ?_
      refine lv_lload_n hx hb (kdr dgX3_takenLength_0 5 7 rfl rfl) rfl (lv_at hl 2 rfl) ?_
      refine lv_lsub hx hb (kdr dgX3_takenLength_0 5 8 rfl rfl) ?_
      refine lv_goto (tgt := 114) hx hb (kdr dgX3_takenLength_0 5 9 rfl rfl) (by decide) ?_
      refine lv_ladd hx hb (kdr dgX3_takenLength_0 6 1 rfl rfl) ?_
      refine lv_lstore_n (lv' := (kvJ 1 (x1 + (x6 - x3)) (kvA 0 (b 0) (kvJ 3 x3 (kvI 5 x5 (kvJ 6 x6 kvE)))))) hx hb (kdr dgX3_takenLength_0 6 2 rfl rfl) rfl hl (by decide) rfl (fun ls hl => ?_)
      refine lv_lload hx hb (kdr dgX3_takenLength_0 6 3 rfl rfl) (lv_at hl 4 rfl) ?_
      refine lv_lstore_n (lv' := (kvJ 3 x6 (kvJ 1 (x1 + (x6 - x3)) (kvA 0 (b 0) (kvI 5 x5 (kvJ 6 x6 kvE)))))) hx hb (kdr dgX3_takenLength_0 6 4 rfl rfl) rfl hl (by decide) rfl (fun ls hl => ?_)
      refine lv_goto (tgt := 7) hx hb (kdr dgX3_takenLength_0 6 5 rfl rfl) (by decide) ?_
      exact hK7 mce mfr mun mbe men mov msp mwb mwe mwi mac mre mkn mth (x1 + (x6 - x3)) x6 _ _ hP hD hS ls (lv_sub hl [2, 1, 0] rfl) h
  have J46 : ∀ (K7 : (Int64) → (Nat → Int64) → (Nat → Int64) → (Int32) → (Int64) → (Int64) → Option (Int64)), (∀ (mce : Nat → Int64) (mfr : Int64) (mun : Int64) (mbe : Nat → Int64) (men : Nat → Int64) (mov : Nat → Int32) (msp : Int32) (mwb : Nat → Int64) (mwe : Nat → Int64) (mwi : Int32) (mac : Int32) (mre : Int32) (mkn : Int32) (mth : Int32) (x1 : Int64) (x3 : Int64) (H : Heap) (locs : List Loc), va_P (dC, dI) vwCl (wMo cJ cZ b mce mfr mun mbe men mov msp mwb mwe mwi mac mre mkn mth) H → va_D A (wMo cJ cZ b mce mfr mun mbe men mov msp mwb mwe mwi mac mre mkn mth) → va_S A s.heap H locs → ∀ (ls : Array Slot), lv_has ls 9 (kvA 0 (b 0) (kvJ 1 x1 (kvJ 3 x3 kvE))) → K7 mun mbe men msp x1 x3 = some res → W p l e (headSpec wsX3_takenLength (kRm 1 0 0 23)).room s m ([.ref (b 0)] : List Value).toArray below meth c H locs 0 0 (MQ below (kL (dC, dI) (res) (wMo cJ cZ b mce mfr mun mbe men mov msp mwb mwe mwi mac mre mkn mth) A) ([.ref (b 0)] : List Value).toArray s 0 0 A) (F0 m 7 ls [])) → ∀ (n : Nat), ∀ (mce : Nat → Int64) (mfr : Int64) (mun : Int64) (mbe : Nat → Int64) (men : Nat → Int64) (mov : Nat → Int32) (msp : Int32) (mwb : Nat → Int64) (mwe : Nat → Int64) (mwi : Int32) (mac : Int32) (mre : Int32) (mkn : Int32) (mth : Int32) (x1 : Int64) (x3 : Int64) (x5 : Int32) (x6 : Int64) (x8 : Int32) (H : Heap) (locs : List Loc), va_P (dC, dI) vwCl (wMo cJ cZ b mce mfr mun mbe men mov msp mwb mwe mwi mac mre mkn mth) H → va_D A (wMo cJ cZ b mce mfr mun mbe men mov msp mwb mwe mwi mac mre mkn mth) → va_S A s.heap H locs → ∀ (ls : Array Slot), lv_has ls 9 (kvA 0 (b 0) (kvJ 1 x1 (kvJ 3 x3 (kvI 5 x5 (kvJ 6 x6 (kvI 8 x8 kvE)))))) → f_X3_takenLength_46 K7 n mun mbe men msp x1 x3 x5 x6 x8 = some res → W p l e (headSpec wsX3_takenLength (kRm 1 0 0 23)).room s m ([.ref (b 0)] : List Value).toArray below meth c H locs 0 0 (MQ below (kL (dC, dI) (res) (wMo cJ cZ b mce mfr mun mbe men mov msp mwb mwe mwi mac mre mkn mth) A) ([.ref (b 0)] : List Value).toArray s 0 0 A) (F0 m 46 ls []) := by
    intro K7 hK7 n
    induction n with
    | zero =>
      intro mce mfr mun mbe men mov msp mwb mwe mwi mac mre mkn mth x1 x3 x5 x6 x8 H locs hP hD hS ls hl h
      have h := f_X3_takenLength_46_0.symm.trans h
      cases h
    | succ n ih =>
      intro mce mfr mun mbe men mov msp mwb mwe mwi mac mre mkn mth x1 x3 x5 x6 x8 H locs hP hD hS ls hl h
      have h := f_X3_takenLength_46_s.symm.trans h
      refine lv_iload hx hb (kdr dgX3_takenLength_0 2 6 rfl rfl) (lv_at hl 5 rfl) ?_
      refine lv_aload_n hx hb (kdr dgX3_takenLength_0 2 7 rfl rfl) rfl (lv_at hl 0 rfl) ?_
      refine va_get (D := (dC, dI)) (ci := 5) (v := .int msp) (C := RX3) (T := TX3) (N := 14) hx hb hts hiX3 hown hK hP 0 rfl rfl 6 (by decide) hw2 (fun _ h9 => h9) rfl (kdr dgX3_takenLength_0 2 8 rfl rfl) ?_
      refine lv_icmp_ge (tgt := 100) hx hb (kdr dgX3_takenLength_0 2 9 rfl rfl) (by decide) (fun c1 => ?_) (fun c1 => ?_)
      · have h := g_t c1 h
        exact J100 K7 hK7 mce mfr mun mbe men mov msp mwb mwe mwi mac mre mkn mth x1 x3 x5 x6 _ _ hP hD hS ls (lv_sub hl [0, 1, 2, 3, 4] rfl) h
      · have h := g_f c1 h
        refine lv_iload hx hb (kdr dgX3_takenLength_0 3 0 rfl rfl) (lv_at hl 3 rfl) ?_
        refine lv_if_ge (tgt := 100) hx hb (kdr dgX3_takenLength_0 3 1 rfl rfl) (by decide) (fun c2 => ?_) (fun c2 => ?_)
        · have h := g_t c2 h
          exact J100 K7 hK7 mce mfr mun mbe men mov msp mwb mwe mwi mac mre mkn mth x1 x3 x5 x6 _ _ hP hD hS ls (lv_sub hl [0, 1, 2, 3, 4] rfl) h
        · have h := g_f c2 h
          refine lv_aload_n hx hb (kdr dgX3_takenLength_0 3 2 rfl rfl) rfl (lv_at hl 0 rfl) ?_
          refine va_get (D := (dC, dI)) (ci := 5) (v := .ref (b 2)) (C := RX3) (T := TX3) (N := 14) hx hb hts hiX3 hown hK hP 0 rfl rfl 3 (by decide) hw3 (fun _ h9 => h9) rfl (kdr dgX3_takenLength_0 3 3 rfl rfl) ?_
          refine lv_iload hx hb (kdr dgX3_takenLength_0 3 4 rfl rfl) (lv_at hl 5 rfl) ?_
          obtain ⟨z2, h⟩ := g_if h
          refine va_lald hx hb hK hP 2 2 rfl rfl (ix_in z2) (kdr dgX3_takenLength_0 3 5 rfl rfl) ?_
          refine lv_lload_n hx hb (kdr dgX3_takenLength_0 3 6 rfl rfl) rfl (lv_at hl 2 rfl) ?_
          refine kl_le (pc := 68) (tgt := 94) hx hb (kdr dgX3_takenLength_0 3 7 rfl rfl) (kdr dgX3_takenLength_0 3 8 rfl rfl) (by decide) (fun c4 => ?_) (fun c4 => ?_)
          · have h := g_t c4 h
            refine lv_iinc (v := x8 + 1) (lv' := (kvI 8 (x8 + 1) (kvA 0 (b 0) (kvJ 1 x1 (kvJ 3 x3 (kvI 5 x5 (kvJ 6 x6 kvE))))))) hx hb (kdr dgX3_takenLength_0 5 1 rfl rfl) hl (k := 5) rfl rfl (by decide) rfl (fun ls hl => ?_)
            refine lv_goto (tgt := 46) hx hb (kdr dgX3_takenLength_0 5 2 rfl rfl) (by decide) ?_
            exact ih mce mfr mun mbe men mov msp mwb mwe mwi mac mre mkn mth x1 x3 x5 x6 (x8 + 1) _ _ hP hD hS ls (lv_sub hl [1, 2, 3, 4, 5, 0] rfl) h
          · have h := g_f c4 h
            refine lv_aload_n hx hb (kdr dgX3_takenLength_0 3 9 rfl rfl) rfl (lv_at hl 0 rfl) ?_
            refine va_get (D := (dC, dI)) (ci := 5) (v := .ref (b 2)) (C := RX3) (T := TX3) (N := 14) hx hb hts hiX3 hown hK hP 0 rfl rfl 3 (by decide) hw3 (fun _ h9 => h9) rfl (kdr dgX3_takenLength_0 4 0 rfl rfl) ?_
            refine lv_iload hx hb (kdr dgX3_takenLength_0 4 1 rfl rfl) (lv_at hl 5 rfl) ?_
            refine va_lald hx hb hK hP 2 2 rfl rfl (ix_in z2) (kdr dgX3_takenLength_0 4 2 rfl rfl) ?_
            refine lv_lload hx hb (kdr dgX3_takenLength_0 4 3 rfl rfl) (lv_at hl 4 rfl) ?_
            refine kl_ge (pc := 81) (tgt := 94) hx hb (kdr dgX3_takenLength_0 4 4 rfl rfl) (kdr dgX3_takenLength_0 4 5 rfl rfl) (by decide) (fun c5 => ?_) (fun c5 => ?_)
            · have h := g_t c5 h
              refine lv_iinc (v := x8 + 1) (lv' := (kvI 8 (x8 + 1) (kvA 0 (b 0) (kvJ 1 x1 (kvJ 3 x3 (kvI 5 x5 (kvJ 6 x6 kvE))))))) hx hb (kdr dgX3_takenLength_0 5 1 rfl rfl) hl (k := 5) rfl rfl (by decide) rfl (fun ls hl => ?_)
              refine lv_goto (tgt := 46) hx hb (kdr dgX3_takenLength_0 5 2 rfl rfl) (by decide) ?_
              exact ih mce mfr mun mbe men mov msp mwb mwe mwi mac mre mkn mth x1 x3 x5 x6 (x8 + 1) _ _ hP hD hS ls (lv_sub hl [1, 2, 3, 4, 5, 0] rfl) h
            · have h := g_f c5 h
              refine lv_aload_n hx hb (kdr dgX3_takenLength_0 4 6 rfl rfl) rfl (lv_at hl 0 rfl) ?_
              refine va_get (D := (dC, dI)) (ci := 5) (v := .ref (b 2)) (C := RX3) (T := TX3) (N := 14) hx hb hts hiX3 hown hK hP 0 rfl rfl 3 (by decide) hw3 (fun _ h9 => h9) rfl (kdr dgX3_takenLength_0 4 7 rfl rfl) ?_
              refine lv_iload hx hb (kdr dgX3_takenLength_0 4 8 rfl rfl) (lv_at hl 5 rfl) ?_
              refine va_lald hx hb hK hP 2 2 rfl rfl (ix_in z2) (kdr dgX3_takenLength_0 4 9 rfl rfl) ?_
              refine lv_lstore (lv' := (kvJ 6 (mbe x8.toNatClampNeg) (kvA 0 (b 0) (kvJ 1 x1 (kvJ 3 x3 (kvI 5 x5 (kvI 8 x8 kvE))))))) hx hb (kdr dgX3_takenLength_0 5 0 rfl rfl) hl (by decide) rfl (fun ls hl => ?_)
              refine lv_iinc (v := x8 + 1) (lv' := (kvI 8 (x8 + 1) (kvJ 6 (mbe x8.toNatClampNeg) (kvA 0 (b 0) (kvJ 1 x1 (kvJ 3 x3 (kvI 5 x5 kvE))))))) hx hb (kdr dgX3_takenLength_0 5 1 rfl rfl) hl (k := 5) rfl rfl (by decide) rfl (fun ls hl => ?_)
              refine lv_goto (tgt := 46) hx hb (kdr dgX3_takenLength_0 5 2 rfl rfl) (by decide) ?_
              exact ih mce mfr mun mbe men mov msp mwb mwe mwi mac mre mkn mth x1 x3 x5 (mbe x8.toNatClampNeg) (x8 + 1) _ _ hP hD hS ls (lv_sub hl [2, 3, 4, 5, 1, 0] rfl) h
  have J7 : ∀ (n : Nat), ∀ (mce : Nat → Int64) (mfr : Int64) (mun : Int64) (mbe : Nat → Int64) (men : Nat → Int64) (mov : Nat → Int32) (msp : Int32) (mwb : Nat → Int64) (mwe : Nat → Int64) (mwi : Int32) (mac : Int32) (mre : Int32) (mkn : Int32) (mth : Int32) (x1 : Int64) (x3 : Int64) (H : Heap) (locs : List Loc), va_P (dC, dI) vwCl (wMo cJ cZ b mce mfr mun mbe men mov msp mwb mwe mwi mac mre mkn mth) H → va_D A (wMo cJ cZ b mce mfr mun mbe men mov msp mwb mwe mwi mac mre mkn mth) → va_S A s.heap H locs → ∀ (ls : Array Slot), lv_has ls 9 (kvA 0 (b 0) (kvJ 1 x1 (kvJ 3 x3 kvE))) → f_X3_takenLength_7 n mun mbe men msp x1 x3 = some res → W p l e (headSpec wsX3_takenLength (kRm 1 0 0 23)).room s m ([.ref (b 0)] : List Value).toArray below meth c H locs 0 0 (MQ below (kL (dC, dI) (res) (wMo cJ cZ b mce mfr mun mbe men mov msp mwb mwe mwi mac mre mkn mth) A) ([.ref (b 0)] : List Value).toArray s 0 0 A) (F0 m 7 ls []) := by
    intro n
    induction n with
    | zero =>
      intro mce mfr mun mbe men mov msp mwb mwe mwi mac mre mkn mth x1 x3 H locs hP hD hS ls hl h
      have h := f_X3_takenLength_7_0.symm.trans h
      cases h
    | succ n ih =>
      intro mce mfr mun mbe men mov msp mwb mwe mwi mac mre mkn mth x1 x3 H locs hP hD hS ls hl h
      have h := f_X3_takenLength_7_s.symm.trans h
      refine lv_lload_n hx hb (kdr dgX3_takenLength_0 0 5 rfl rfl) rfl (lv_at hl 2 rfl) ?_
      refine lv_aload_n hx hb (kdr dgX3_takenLength_0 0 6 rfl rfl) rfl (lv_at hl 0 rfl) ?_
      refine va_get (D := (dC, dI)) (ci := 5) (v := .long mun) (C := RX3) (T := TX3) (N := 14) hx hb hts hiX3 hown hK hP 0 rfl rfl 2 (by decide) hw1 (fun _ h9 => h9) rfl (kdr dgX3_takenLength_0 0 7 rfl rfl) ?_
      refine kl_ge (pc := 12) (tgt := 122) hx hb (kdr dgX3_takenLength_0 0 8 rfl rfl) (kdr dgX3_takenLength_0 0 9 rfl rfl) (by decide) (fun c1 => ?_) (fun c1 => ?_)
      · have h := g_t c1 h
        refine lv_lload_n hx hb (kdr dgX3_takenLength_0 6 6 rfl rfl) rfl (lv_at hl 1 rfl) ?_
        have h := Option.some.inj h
        subst h
        exact kret_l (v := x1) hx hb hr hlocks hS hP (kdr dgX3_takenLength_0 6 7 rfl rfl)
      · have h := g_f c1 h
        refine lv_aload_n hx hb (kdr dgX3_takenLength_0 1 0 rfl rfl) rfl (lv_at hl 0 rfl) ?_
        refine lv_lload_n hx hb (kdr dgX3_takenLength_0 1 1 rfl rfl) rfl (lv_at hl 2 rfl) ?_
        obtain ⟨r2, g2, h⟩ := g_b h
        refine kq_i (wMo cJ cZ b mce mfr mun mbe men mov msp mwb mwe mwi mac mre mkn mth) (fun qP qD qF => va_runV (As := [.long x3]) (rest := []) ⟨hx, hb, hml, hown, hts⟩ (c_X3_spanAt l dC dI cB cI cJ cZ b _ mce mfr mun mbe men mov msp mwb mwe mwi mac mre mkn mth x3 r2 g2) (kcwV hts kw_1340 kv_X3_spanAt rfl rfl ⟨(Nat.le_of_ble_eq_true rfl), (Nat.le_of_ble_eq_true rfl)⟩) (kpV (A := A) qP hK qD hG (krecv_5 (q0 := 0) hK hP rfl)) rfl rfl hl.1 rfl (lv_room (Nat.le_of_ble_eq_true rfl)) (kdr dgX3_takenLength_0 1 2 rfl rfl) ⟨(Nat.le_of_ble_eq_true rfl), (Nat.le_of_ble_eq_true rfl)⟩) hP hD hS hA kFr_Mo (fun H locs hP hD hS br2 => ?_)
        refine lv_istore (lv' := (kvI 5 r2 (kvA 0 (b 0) (kvJ 1 x1 (kvJ 3 x3 kvE))))) hx hb (kdr dgX3_takenLength_0 1 3 rfl rfl) hl (by decide) rfl (fun ls hl => ?_)
        refine lv_aload_n hx hb (kdr dgX3_takenLength_0 1 4 rfl rfl) rfl (lv_at hl 1 rfl) ?_
        refine va_get (D := (dC, dI)) (ci := 5) (v := .long mun) (C := RX3) (T := TX3) (N := 14) hx hb hts hiX3 hown hK hP 0 rfl rfl 2 (by decide) hw1 (fun _ h9 => h9) rfl (kdr dgX3_takenLength_0 1 5 rfl rfl) ?_
        refine lv_lstore (lv' := (kvJ 6 mun (kvI 5 r2 (kvA 0 (b 0) (kvJ 1 x1 (kvJ 3 x3 kvE)))))) hx hb (kdr dgX3_takenLength_0 1 6 rfl rfl) hl (by decide) rfl (fun ls hl => ?_)
        refine lv_iload hx hb (kdr dgX3_takenLength_0 1 7 rfl rfl) (lv_at hl 1 rfl) ?_
        refine lv_if_lt (tgt := 43) hx hb (kdr dgX3_takenLength_0 1 8 rfl rfl) (by decide) (fun c3 => ?_) (fun c3 => ?_)
        · have h := g_t c3 h
          refine lv_iconst (v := 0) hx hb (kdr dgX3_takenLength_0 2 4 rfl rfl) (by decide) ?_
          refine lv_istore (lv' := (kvI 8 0 (kvJ 6 mun (kvI 5 r2 (kvA 0 (b 0) (kvJ 1 x1 (kvJ 3 x3 kvE))))))) hx hb (kdr dgX3_takenLength_0 2 5 rfl rfl) hl (by decide) rfl (fun ls hl => ?_)
          exact J46 (f_X3_takenLength_7 n) ih 24 mce mfr mun mbe men mov msp mwb mwe mwi mac mre mkn mth x1 x3 r2 mun 0 _ _ hP hD hS ls (lv_sub hl [3, 4, 5, 2, 1, 0] rfl) h
        · have h := g_f c3 h
          refine lv_aload_n hx hb (kdr dgX3_takenLength_0 1 9 rfl rfl) rfl (lv_at hl 2 rfl) ?_
          refine va_get (D := (dC, dI)) (ci := 5) (v := .ref (b 3)) (C := RX3) (T := TX3) (N := 14) hx hb hts hiX3 hown hK hP 0 rfl rfl 4 (by decide) hw4 (fun _ h9 => h9) rfl (kdr dgX3_takenLength_0 2 0 rfl rfl) ?_
          refine lv_iload hx hb (kdr dgX3_takenLength_0 2 1 rfl rfl) (lv_at hl 1 rfl) ?_
          obtain ⟨z3, h⟩ := g_if h
          refine va_lald hx hb hK hP 3 2 rfl rfl (ix_in z3) (kdr dgX3_takenLength_0 2 2 rfl rfl) ?_
          refine lv_lstore (lv' := (kvJ 6 (men r2.toNatClampNeg) (kvI 5 r2 (kvA 0 (b 0) (kvJ 1 x1 (kvJ 3 x3 kvE)))))) hx hb (kdr dgX3_takenLength_0 2 3 rfl rfl) hl (by decide) rfl (fun ls hl => ?_)
          refine lv_iconst (v := 0) hx hb (kdr dgX3_takenLength_0 2 4 rfl rfl) (by decide) ?_
          refine lv_istore (lv' := (kvI 8 0 (kvJ 6 (men r2.toNatClampNeg) (kvI 5 r2 (kvA 0 (b 0) (kvJ 1 x1 (kvJ 3 x3 kvE))))))) hx hb (kdr dgX3_takenLength_0 2 5 rfl rfl) hl (by decide) rfl (fun ls hl => ?_)
          exact J46 (f_X3_takenLength_7 n) ih 24 mce mfr mun mbe men mov msp mwb mwe mwi mac mre mkn mth x1 x3 r2 (men r2.toNatClampNeg) 0 _ _ hP hD hS ls (lv_sub hl [3, 4, 5, 2, 1, 0] rfl) h
  have h := f_X3_takenLength_e.symm.trans hf
  refine lv_lconst (v := 0) hx hb (kdr dgX3_takenLength_0 0 0 rfl rfl) (by decide) ?_
  refine lv_lstore_n (lv' := (kvJ 1 0 (kvA 0 (b 0) kvE))) hx hb (kdr dgX3_takenLength_0 0 1 rfl rfl) rfl hl (by decide) rfl (fun ls hl => ?_)
  refine lv_aload_n hx hb (kdr dgX3_takenLength_0 0 2 rfl rfl) rfl (lv_at hl 1 rfl) ?_
  refine va_get (D := (dC, dI)) (ci := 5) (v := .long mfr) (C := RX3) (T := TX3) (N := 14) hx hb hts hiX3 hown hK hP 0 rfl rfl 1 (by decide) hw0 (fun _ h9 => h9) rfl (kdr dgX3_takenLength_0 0 3 rfl rfl) ?_
  refine lv_lstore_n (lv' := (kvJ 3 mfr (kvJ 1 0 (kvA 0 (b 0) kvE)))) hx hb (kdr dgX3_takenLength_0 0 4 rfl rfl) rfl hl (by decide) rfl (fun ls hl => ?_)
  exact J7 24 mce mfr mun mbe men mov msp mwb mwe mwi mac mre mkn mth 0 mfr _ _ hP hD hS ls (lv_sub hl [2, 1, 0] rfl) h
noncomputable abbrev wsX3_deepest : List Cond := kWs yX3_deepest cX3_deepest 7 (some .int)
noncomputable def f_X3_deepest_17 (n0 : Nat) (n1 : Nat) (K5 : (Nat → Int64) → (Nat → Int64) → (Int32) → (Int32) → (Int32) → Option (Int32)) : Nat → (Nat → Int64) → (Nat → Int64) → (Int32) → (Int32) → (Int32) → (Int32) → (Int32) → Option (Int32)
  | 0, _, _, _, _, _, _, _ => none
  | n + 1, v0, v1, x2, x3, x4, x5, x6 =>
    if x2 ≤ x6 then
      K5 v0 v1 x2 (if x3 < x5 then x5 else x3) (x4 + 1)
    else
      if ix x6 n0 then
        if ix x4 n0 then
          if (v0 x4.toNatClampNeg) < (v0 x6.toNatClampNeg) then
            f_X3_deepest_17 n0 n1 K5 n v0 v1 x2 x3 x4 (x5 + 0) (x6 + 1)
          else
            if ix x6 n1 then
              if (v1 x6.toNatClampNeg) ≤ (v0 x4.toNatClampNeg) then
                f_X3_deepest_17 n0 n1 K5 n v0 v1 x2 x3 x4 (x5 + 0) (x6 + 1)
              else
                f_X3_deepest_17 n0 n1 K5 n v0 v1 x2 x3 x4 (x5 + 1) (x6 + 1)
            else none
        else none
      else none
theorem f_X3_deepest_17_0 {n0 : Nat} {n1 : Nat} {K5 : (Nat → Int64) → (Nat → Int64) → (Int32) → (Int32) → (Int32) → Option (Int32)} {v0 : Nat → Int64} {v1 : Nat → Int64} {x2 : Int32} {x3 : Int32} {x4 : Int32} {x5 : Int32} {x6 : Int32} : f_X3_deepest_17 n0 n1 K5 0 v0 v1 x2 x3 x4 x5 x6 = none := rfl
theorem f_X3_deepest_17_s {n0 : Nat} {n1 : Nat} {K5 : (Nat → Int64) → (Nat → Int64) → (Int32) → (Int32) → (Int32) → Option (Int32)} {n : Nat} {v0 : Nat → Int64} {v1 : Nat → Int64} {x2 : Int32} {x3 : Int32} {x4 : Int32} {x5 : Int32} {x6 : Int32} : f_X3_deepest_17 n0 n1 K5 (n + 1) v0 v1 x2 x3 x4 x5 x6 =
  if x2 ≤ x6 then
    K5 v0 v1 x2 (if x3 < x5 then x5 else x3) (x4 + 1)
  else
    if ix x6 n0 then
      if ix x4 n0 then
        if (v0 x4.toNatClampNeg) < (v0 x6.toNatClampNeg) then
          f_X3_deepest_17 n0 n1 K5 n v0 v1 x2 x3 x4 (x5 + 0) (x6 + 1)
        else
          if ix x6 n1 then
            if (v1 x6.toNatClampNeg) ≤ (v0 x4.toNatClampNeg) then
              f_X3_deepest_17 n0 n1 K5 n v0 v1 x2 x3 x4 (x5 + 0) (x6 + 1)
            else
              f_X3_deepest_17 n0 n1 K5 n v0 v1 x2 x3 x4 (x5 + 1) (x6 + 1)
          else none
      else none
    else none := rfl
noncomputable def f_X3_deepest_5 (n0 : Nat) (n1 : Nat) : Nat → (Nat → Int64) → (Nat → Int64) → (Int32) → (Int32) → (Int32) → Option (Int32)
  | 0, _, _, _, _, _ => none
  | n + 1, v0, v1, x2, x3, x4 =>
    if x2 ≤ x4 then
      some x3
    else
      f_X3_deepest_17 n0 n1 (f_X3_deepest_5 n0 n1 n) 24 v0 v1 x2 x3 x4 0 0
theorem f_X3_deepest_5_0 {n0 : Nat} {n1 : Nat} {v0 : Nat → Int64} {v1 : Nat → Int64} {x2 : Int32} {x3 : Int32} {x4 : Int32} : f_X3_deepest_5 n0 n1 0 v0 v1 x2 x3 x4 = none := rfl
theorem f_X3_deepest_5_s {n0 : Nat} {n1 : Nat} {n : Nat} {v0 : Nat → Int64} {v1 : Nat → Int64} {x2 : Int32} {x3 : Int32} {x4 : Int32} : f_X3_deepest_5 n0 n1 (n + 1) v0 v1 x2 x3 x4 =
  if x2 ≤ x4 then
    some x3
  else
    f_X3_deepest_17 n0 n1 (f_X3_deepest_5 n0 n1 n) 24 v0 v1 x2 x3 x4 0 0 := rfl
noncomputable def f_X3_deepest (n0 : Nat) (n1 : Nat) (v0 : Nat → Int64) (v1 : Nat → Int64) (p2 : Int32) : Option (Int32) :=
  f_X3_deepest_5 n0 n1 24 v0 v1 p2 0 0
theorem f_X3_deepest_e {n0 : Nat} {n1 : Nat} {v0 : Nat → Int64} {v1 : Nat → Int64} {p2 : Int32} : f_X3_deepest n0 n1 v0 v1 p2 = 
  f_X3_deepest_5 n0 n1 24 v0 v1 p2 0 0 := rfl
set_option maxHeartbeats 4000000 in
set_option maxRecDepth 100000 in
theorem c_X3_deepest (l : Launch) (dC : Nat → ClassId) (dI : Nat → Nat → Nat) (cB cI cJ cZ : ClassId) (q0 : Nat) (n0 : Nat) (q1 : Nat) (n1 : Nat) (sz : Nat) (v0 : Nat → Int64) (v1 : Nat → Int64) (p2 : Int32) (res : Int32) (hf : f_X3_deepest n0 n1 v0 v1 p2 = some res) : kMi l yX3_deepest wsX3_deepest (kRm 1 0 0 40) dC dI cB cI cJ cZ [.ref q0, .ref q1, .int p2] sz ([(q0, .inl (cJ, n0, .inr (.inl v0)))] ++ [(q1, .inl (cJ, n1, .inr (.inl v1)))]) .int (res) ([(q0, .inl (cJ, n0, .inr (.inl v0)))] ++ [(q1, .inl (cJ, n1, .inr (.inl v1)))]) 0 0 := by
  refine kmet_i (y := yX3_deepest) (cc := cX3_deepest) (maxL := 7) (ret := (some .int)) RX3 (kvA 0 q0 (kvA 1 q1 (kvI 2 p2 kvE))) kpl_X3 rfl rfl (Nat.le_of_ble_eq_true rfl) rfl (fun p e s m below meth c A ls hx hb hr hml hts hown hlocks hP hK hG hD hA hS hl => ?_)
  have hw0 := hts (.methodLink RX3 74 Lib.Math.max.name) (List.mem_cons_of_mem _ kw_1351)
  have hw1 := hts (.static Lib.Math.max.name) (List.mem_cons_of_mem _ kw_176)
  have hw2 := hts (.initialized "java/lang/Math") (List.mem_cons_of_mem _ kw_66)
  have hw3 := hts (.code Lib.Math.max.name Lib.Math.max.code 2 (some .int)) (List.mem_cons_of_mem _ kw_177)
  have J17 : ∀ (K5 : (Nat → Int64) → (Nat → Int64) → (Int32) → (Int32) → (Int32) → Option (Int32)), (∀ (v0 : Nat → Int64) (v1 : Nat → Int64) (x2 : Int32) (x3 : Int32) (x4 : Int32) (H : Heap) (locs : List Loc), va_P (dC, dI) vwCl ([(q0, .inl (cJ, n0, .inr (.inl v0)))] ++ [(q1, .inl (cJ, n1, .inr (.inl v1)))]) H → va_D A ([(q0, .inl (cJ, n0, .inr (.inl v0)))] ++ [(q1, .inl (cJ, n1, .inr (.inl v1)))]) → va_S A s.heap H locs → ∀ (ls : Array Slot), lv_has ls 7 (kvA 0 q0 (kvA 1 q1 (kvI 2 x2 (kvI 3 x3 (kvI 4 x4 kvE))))) → K5 v0 v1 x2 x3 x4 = some res → W p l e (headSpec wsX3_deepest (kRm 1 0 0 40)).room s m ([.ref q0, .ref q1, .int p2] : List Value).toArray below meth c H locs 0 0 (MQ below (kI (dC, dI) .int (res) ([(q0, .inl (cJ, n0, .inr (.inl v0)))] ++ [(q1, .inl (cJ, n1, .inr (.inl v1)))]) A) ([.ref q0, .ref q1, .int p2] : List Value).toArray s 0 0 A) (F0 m 5 ls [])) → ∀ (n : Nat), ∀ (v0 : Nat → Int64) (v1 : Nat → Int64) (x2 : Int32) (x3 : Int32) (x4 : Int32) (x5 : Int32) (x6 : Int32) (H : Heap) (locs : List Loc), va_P (dC, dI) vwCl ([(q0, .inl (cJ, n0, .inr (.inl v0)))] ++ [(q1, .inl (cJ, n1, .inr (.inl v1)))]) H → va_D A ([(q0, .inl (cJ, n0, .inr (.inl v0)))] ++ [(q1, .inl (cJ, n1, .inr (.inl v1)))]) → va_S A s.heap H locs → ∀ (ls : Array Slot), lv_has ls 7 (kvA 0 q0 (kvA 1 q1 (kvI 2 x2 (kvI 3 x3 (kvI 4 x4 (kvI 5 x5 (kvI 6 x6 kvE))))))) → f_X3_deepest_17 n0 n1 K5 n v0 v1 x2 x3 x4 x5 x6 = some res → W p l e (headSpec wsX3_deepest (kRm 1 0 0 40)).room s m ([.ref q0, .ref q1, .int p2] : List Value).toArray below meth c H locs 0 0 (MQ below (kI (dC, dI) .int (res) ([(q0, .inl (cJ, n0, .inr (.inl v0)))] ++ [(q1, .inl (cJ, n1, .inr (.inl v1)))]) A) ([.ref q0, .ref q1, .int p2] : List Value).toArray s 0 0 A) (F0 m 17 ls []) := by
    intro K5 hK5 n
    induction n with
    | zero =>
      intro v0 v1 x2 x3 x4 x5 x6 H locs hP hD hS ls hl h
      have h := f_X3_deepest_17_0.symm.trans h
      cases h
    | succ n ih =>
      intro v0 v1 x2 x3 x4 x5 x6 H locs hP hD hS ls hl h
      have h := f_X3_deepest_17_s.symm.trans h
      refine lv_iload hx hb (kdr dgX3_deepest_0 1 1 rfl rfl) (lv_at hl 6 rfl) ?_
      refine lv_iload_n hx hb (kdr dgX3_deepest_0 1 2 rfl rfl) rfl (lv_at hl 2 rfl) ?_
      refine lv_icmp_ge (tgt := 63) hx hb (kdr dgX3_deepest_0 1 3 rfl rfl) (by decide) (fun c1 => ?_) (fun c1 => ?_)
      · have h := g_t c1 h
        refine lv_iload_n hx hb (kdr dgX3_deepest_0 3 8 rfl rfl) rfl (lv_at hl 3 rfl) ?_
        refine lv_iload hx hb (kdr dgX3_deepest_0 3 9 rfl rfl) (lv_at hl 5 rfl) ?_
        refine va_mmax hx hb (hml.trans hl.1.symm) hown hw0 hw1 hw2 hw3 (Nat.le_of_ble_eq_true rfl) (Nat.le_of_ble_eq_true rfl) (Nat.le_of_ble_eq_true rfl) (Nat.le_of_ble_eq_true rfl) (kdr dgX3_deepest_0 4 0 rfl rfl) ?_
        refine lv_istore_n (lv' := (kvI 3 (if x3 < x5 then x5 else x3) (kvA 0 q0 (kvA 1 q1 (kvI 2 x2 (kvI 4 x4 (kvI 5 x5 (kvI 6 x6 kvE)))))))) hx hb (kdr dgX3_deepest_0 4 1 rfl rfl) rfl hl (by decide) rfl (fun ls hl => ?_)
        refine lv_iinc (v := x4 + 1) (lv' := (kvI 4 (x4 + 1) (kvI 3 (if x3 < x5 then x5 else x3) (kvA 0 q0 (kvA 1 q1 (kvI 2 x2 (kvI 5 x5 (kvI 6 x6 kvE)))))))) hx hb (kdr dgX3_deepest_0 4 2 rfl rfl) hl (k := 4) rfl rfl (by decide) rfl (fun ls hl => ?_)
        refine lv_goto (tgt := 5) hx hb (kdr dgX3_deepest_0 4 3 rfl rfl) (by decide) ?_
        exact hK5 v0 v1 x2 (if x3 < x5 then x5 else x3) (x4 + 1) _ _ hP hD hS ls (lv_sub hl [2, 3, 4, 1, 0] rfl) h
      · have h := g_f c1 h
        refine lv_iload hx hb (kdr dgX3_deepest_0 1 4 rfl rfl) (lv_at hl 5 rfl) ?_
        refine lv_aload_n hx hb (kdr dgX3_deepest_0 1 5 rfl rfl) rfl (lv_at hl 0 rfl) ?_
        refine lv_iload hx hb (kdr dgX3_deepest_0 1 6 rfl rfl) (lv_at hl 6 rfl) ?_
        obtain ⟨z1, h⟩ := g_if h
        refine va_lald hx hb hK hP 0 2 rfl rfl (ix_in z1) (kdr dgX3_deepest_0 1 7 rfl rfl) ?_
        refine lv_aload_n hx hb (kdr dgX3_deepest_0 1 8 rfl rfl) rfl (lv_at hl 0 rfl) ?_
        refine lv_iload hx hb (kdr dgX3_deepest_0 1 9 rfl rfl) (lv_at hl 4 rfl) ?_
        obtain ⟨z2, h⟩ := g_if h
        refine va_lald hx hb hK hP 0 2 rfl rfl (ix_in z2) (kdr dgX3_deepest_0 2 0 rfl rfl) ?_
        refine kl_gt (pc := 33) (tgt := 53) hx hb (kdr dgX3_deepest_0 2 1 rfl rfl) (kdr dgX3_deepest_0 2 2 rfl rfl) (by decide) (fun c4 => ?_) (fun c4 => ?_)
        · have h := g_t c4 h
          refine lv_iconst (v := 0) hx hb (kdr dgX3_deepest_0 3 3 rfl rfl) (by decide) ?_
          refine lv_iadd hx hb (kdr dgX3_deepest_0 3 4 rfl rfl) ?_
          refine lv_istore (lv' := (kvI 5 (x5 + 0) (kvA 0 q0 (kvA 1 q1 (kvI 2 x2 (kvI 3 x3 (kvI 4 x4 (kvI 6 x6 kvE)))))))) hx hb (kdr dgX3_deepest_0 3 5 rfl rfl) hl (by decide) rfl (fun ls hl => ?_)
          refine lv_iinc (v := x6 + 1) (lv' := (kvI 6 (x6 + 1) (kvI 5 (x5 + 0) (kvA 0 q0 (kvA 1 q1 (kvI 2 x2 (kvI 3 x3 (kvI 4 x4 kvE)))))))) hx hb (kdr dgX3_deepest_0 3 6 rfl rfl) hl (k := 6) rfl rfl (by decide) rfl (fun ls hl => ?_)
          refine lv_goto (tgt := 17) hx hb (kdr dgX3_deepest_0 3 7 rfl rfl) (by decide) ?_
          exact ih v0 v1 x2 x3 x4 (x5 + 0) (x6 + 1) _ _ hP hD hS ls (lv_sub hl [2, 3, 4, 5, 6, 1, 0] rfl) h
        · have h := g_f c4 h
          refine lv_aload_n hx hb (kdr dgX3_deepest_0 2 3 rfl rfl) rfl (lv_at hl 0 rfl) ?_
          refine lv_iload hx hb (kdr dgX3_deepest_0 2 4 rfl rfl) (lv_at hl 4 rfl) ?_
          refine va_lald hx hb hK hP 0 2 rfl rfl (ix_in z2) (kdr dgX3_deepest_0 2 5 rfl rfl) ?_
          refine lv_aload_n hx hb (kdr dgX3_deepest_0 2 6 rfl rfl) rfl (lv_at hl 1 rfl) ?_
          refine lv_iload hx hb (kdr dgX3_deepest_0 2 7 rfl rfl) (lv_at hl 6 rfl) ?_
          obtain ⟨z4, h⟩ := g_if h
          refine va_lald hx hb hK hP 1 2 rfl rfl (ix_in z4) (kdr dgX3_deepest_0 2 8 rfl rfl) ?_
          refine kl_ge (pc := 45) (tgt := 53) hx hb (kdr dgX3_deepest_0 2 9 rfl rfl) (kdr dgX3_deepest_0 3 0 rfl rfl) (by decide) (fun c6 => ?_) (fun c6 => ?_)
          · have h := g_t c6 h
            refine lv_iconst (v := 0) hx hb (kdr dgX3_deepest_0 3 3 rfl rfl) (by decide) ?_
            refine lv_iadd hx hb (kdr dgX3_deepest_0 3 4 rfl rfl) ?_
            refine lv_istore (lv' := (kvI 5 (x5 + 0) (kvA 0 q0 (kvA 1 q1 (kvI 2 x2 (kvI 3 x3 (kvI 4 x4 (kvI 6 x6 kvE)))))))) hx hb (kdr dgX3_deepest_0 3 5 rfl rfl) hl (by decide) rfl (fun ls hl => ?_)
            refine lv_iinc (v := x6 + 1) (lv' := (kvI 6 (x6 + 1) (kvI 5 (x5 + 0) (kvA 0 q0 (kvA 1 q1 (kvI 2 x2 (kvI 3 x3 (kvI 4 x4 kvE)))))))) hx hb (kdr dgX3_deepest_0 3 6 rfl rfl) hl (k := 6) rfl rfl (by decide) rfl (fun ls hl => ?_)
            refine lv_goto (tgt := 17) hx hb (kdr dgX3_deepest_0 3 7 rfl rfl) (by decide) ?_
            exact ih v0 v1 x2 x3 x4 (x5 + 0) (x6 + 1) _ _ hP hD hS ls (lv_sub hl [2, 3, 4, 5, 6, 1, 0] rfl) h
          · have h := g_f c6 h
            refine lv_iconst (v := 1) hx hb (kdr dgX3_deepest_0 3 1 rfl rfl) (by decide) ?_
            refine lv_goto (tgt := 54) hx hb (kdr dgX3_deepest_0 3 2 rfl rfl) (by decide) ?_
            refine lv_iadd hx hb (kdr dgX3_deepest_0 3 4 rfl rfl) ?_
            refine lv_istore (lv' := (kvI 5 (x5 + 1) (kvA 0 q0 (kvA 1 q1 (kvI 2 x2 (kvI 3 x3 (kvI 4 x4 (kvI 6 x6 kvE)))))))) hx hb (kdr dgX3_deepest_0 3 5 rfl rfl) hl (by decide) rfl (fun ls hl => ?_)
            refine lv_iinc (v := x6 + 1) (lv' := (kvI 6 (x6 + 1) (kvI 5 (x5 + 1) (kvA 0 q0 (kvA 1 q1 (kvI 2 x2 (kvI 3 x3 (kvI 4 x4 kvE)))))))) hx hb (kdr dgX3_deepest_0 3 6 rfl rfl) hl (k := 6) rfl rfl (by decide) rfl (fun ls hl => ?_)
            refine lv_goto (tgt := 17) hx hb (kdr dgX3_deepest_0 3 7 rfl rfl) (by decide) ?_
            exact ih v0 v1 x2 x3 x4 (x5 + 1) (x6 + 1) _ _ hP hD hS ls (lv_sub hl [2, 3, 4, 5, 6, 1, 0] rfl) h
  have J5 : ∀ (n : Nat), ∀ (v0 : Nat → Int64) (v1 : Nat → Int64) (x2 : Int32) (x3 : Int32) (x4 : Int32) (H : Heap) (locs : List Loc), va_P (dC, dI) vwCl ([(q0, .inl (cJ, n0, .inr (.inl v0)))] ++ [(q1, .inl (cJ, n1, .inr (.inl v1)))]) H → va_D A ([(q0, .inl (cJ, n0, .inr (.inl v0)))] ++ [(q1, .inl (cJ, n1, .inr (.inl v1)))]) → va_S A s.heap H locs → ∀ (ls : Array Slot), lv_has ls 7 (kvA 0 q0 (kvA 1 q1 (kvI 2 x2 (kvI 3 x3 (kvI 4 x4 kvE))))) → f_X3_deepest_5 n0 n1 n v0 v1 x2 x3 x4 = some res → W p l e (headSpec wsX3_deepest (kRm 1 0 0 40)).room s m ([.ref q0, .ref q1, .int p2] : List Value).toArray below meth c H locs 0 0 (MQ below (kI (dC, dI) .int (res) ([(q0, .inl (cJ, n0, .inr (.inl v0)))] ++ [(q1, .inl (cJ, n1, .inr (.inl v1)))]) A) ([.ref q0, .ref q1, .int p2] : List Value).toArray s 0 0 A) (F0 m 5 ls []) := by
    intro n
    induction n with
    | zero =>
      intro v0 v1 x2 x3 x4 H locs hP hD hS ls hl h
      have h := f_X3_deepest_5_0.symm.trans h
      cases h
    | succ n ih =>
      intro v0 v1 x2 x3 x4 H locs hP hD hS ls hl h
      have h := f_X3_deepest_5_s.symm.trans h
      refine lv_iload hx hb (kdr dgX3_deepest_0 0 4 rfl rfl) (lv_at hl 4 rfl) ?_
      refine lv_iload_n hx hb (kdr dgX3_deepest_0 0 5 rfl rfl) rfl (lv_at hl 2 rfl) ?_
      refine lv_icmp_ge (tgt := 76) hx hb (kdr dgX3_deepest_0 0 6 rfl rfl) (by decide) (fun c1 => ?_) (fun c1 => ?_)
      · have h := g_t c1 h
        refine lv_iload_n hx hb (kdr dgX3_deepest_0 4 4 rfl rfl) rfl (lv_at hl 3 rfl) ?_
        have h := Option.some.inj h
        subst h
        exact kret_i (v := x3) hx hb hr rfl hlocks hS hP (kdr dgX3_deepest_0 4 5 rfl rfl)
      · have h := g_f c1 h
        refine lv_iconst (v := 0) hx hb (kdr dgX3_deepest_0 0 7 rfl rfl) (by decide) ?_
        refine lv_istore (lv' := (kvI 5 0 (kvA 0 q0 (kvA 1 q1 (kvI 2 x2 (kvI 3 x3 (kvI 4 x4 kvE))))))) hx hb (kdr dgX3_deepest_0 0 8 rfl rfl) hl (by decide) rfl (fun ls hl => ?_)
        refine lv_iconst (v := 0) hx hb (kdr dgX3_deepest_0 0 9 rfl rfl) (by decide) ?_
        refine lv_istore (lv' := (kvI 6 0 (kvI 5 0 (kvA 0 q0 (kvA 1 q1 (kvI 2 x2 (kvI 3 x3 (kvI 4 x4 kvE)))))))) hx hb (kdr dgX3_deepest_0 1 0 rfl rfl) hl (by decide) rfl (fun ls hl => ?_)
        exact J17 (f_X3_deepest_5 n0 n1 n) ih 24 v0 v1 x2 x3 x4 0 0 _ _ hP hD hS ls (lv_sub hl [2, 3, 4, 5, 6, 1, 0] rfl) h
  have h := f_X3_deepest_e.symm.trans hf
  refine lv_iconst (v := 0) hx hb (kdr dgX3_deepest_0 0 0 rfl rfl) (by decide) ?_
  refine lv_istore_n (lv' := (kvI 3 0 (kvA 0 q0 (kvA 1 q1 (kvI 2 p2 kvE))))) hx hb (kdr dgX3_deepest_0 0 1 rfl rfl) rfl hl (by decide) rfl (fun ls hl => ?_)
  refine lv_iconst (v := 0) hx hb (kdr dgX3_deepest_0 0 2 rfl rfl) (by decide) ?_
  refine lv_istore (lv' := (kvI 4 0 (kvI 3 0 (kvA 0 q0 (kvA 1 q1 (kvI 2 p2 kvE)))))) hx hb (kdr dgX3_deepest_0 0 3 rfl rfl) hl (by decide) rfl (fun ls hl => ?_)
  exact J5 24 v0 v1 p2 0 0 _ _ hP hD hS ls (lv_sub hl [2, 3, 4, 1, 0] rfl) h
noncomputable abbrev wsX3_fits : List Cond := kWs yX3_fits cX3_fits 5 (some .boolean)
noncomputable def f_X3_fits (mfr : Int64) (mun : Int64) (mbe : Nat → Int64) (men : Nat → Int64) (msp : Int32) (p0 : Int64) (p1 : Int64) : Option (Int32) :=
  (f_X3_isIn mfr mun p0 (p0 + p1)).bind fun r1 =>
  if r1 = 0 then
    some 0
  else
    (f_X3_meetsSome mbe men msp p0 (p0 + p1) (-1)).bind fun r3 =>
    if r3 = 0 then
      some 1
    else
      some 0
theorem f_X3_fits_e {mfr : Int64} {mun : Int64} {mbe : Nat → Int64} {men : Nat → Int64} {msp : Int32} {p0 : Int64} {p1 : Int64} : f_X3_fits mfr mun mbe men msp p0 p1 = 
  (f_X3_isIn mfr mun p0 (p0 + p1)).bind fun r1 =>
  if r1 = 0 then
    some 0
  else
    (f_X3_meetsSome mbe men msp p0 (p0 + p1) (-1)).bind fun r3 =>
    if r3 = 0 then
      some 1
    else
      some 0 := rfl
set_option maxHeartbeats 4000000 in
set_option maxRecDepth 100000 in
theorem c_X3_fits (l : Launch) (dC : Nat → ClassId) (dI : Nat → Nat → Nat) (cB cI cJ cZ : ClassId) (b : Nat → Nat) (sz : Nat) (mce : Nat → Int64) (mfr : Int64) (mun : Int64) (mbe : Nat → Int64) (men : Nat → Int64) (mov : Nat → Int32) (msp : Int32) (mwb : Nat → Int64) (mwe : Nat → Int64) (mwi : Int32) (mac : Int32) (mre : Int32) (mkn : Int32) (mth : Int32) (p0 : Int64) (p1 : Int64) (res : Int32) (hf : f_X3_fits mfr mun mbe men msp p0 p1 = some res) : kMi l yX3_fits wsX3_fits (kRm 2 0 0 53) dC dI cB cI cJ cZ [.ref (b 0), .long p0, .long p1] sz (wMo cJ cZ b mce mfr mun mbe men mov msp mwb mwe mwi mac mre mkn mth) .boolean (res) (wMo cJ cZ b mce mfr mun mbe men mov msp mwb mwe mwi mac mre mkn mth) 0 0 := by
  refine kmet_i (y := yX3_fits) (cc := cX3_fits) (maxL := 5) (ret := (some .boolean)) RX3 (kvA 0 (b 0) (kvJ 1 p0 (kvJ 3 p1 kvE))) kpl_X3 rfl rfl (Nat.le_of_ble_eq_true rfl) rfl (fun p e s m below meth c A ls hx hb hr hml hts hown hlocks hP hK hG hD hA hS hl => ?_)
  have h := f_X3_fits_e.symm.trans hf
  refine lv_aload_n hx hb (kdr dgX3_fits_0 0 0 rfl rfl) rfl (lv_at hl 0 rfl) ?_
  refine lv_lload_n hx hb (kdr dgX3_fits_0 0 1 rfl rfl) rfl (lv_at hl 1 rfl) ?_
  refine lv_lload_n hx hb (kdr dgX3_fits_0 0 2 rfl rfl) rfl (lv_at hl 1 rfl) ?_
  refine lv_lload_n hx hb (kdr dgX3_fits_0 0 3 rfl rfl) rfl (lv_at hl 2 rfl) ?_
  refine lv_ladd hx hb (kdr dgX3_fits_0 0 4 rfl rfl) ?_
  obtain ⟨r1, g1, h⟩ := g_b h
  refine kq_i (wMo cJ cZ b mce mfr mun mbe men mov msp mwb mwe mwi mac mre mkn mth) (fun qP qD qF => va_runV (As := [.long p0, .long (p0 + p1)]) (rest := []) ⟨hx, hb, hml, hown, hts⟩ (c_X3_isIn l dC dI cB cI cJ cZ b _ mce mfr mun mbe men mov msp mwb mwe mwi mac mre mkn mth p0 (p0 + p1) r1 g1) (kcwV hts kw_1200 kv_X3_isIn rfl rfl ⟨(Nat.le_of_ble_eq_true rfl), (Nat.le_of_ble_eq_true rfl)⟩) (kpV (A := A) qP hK qD hG (krecv_5 (q0 := 0) hK hP rfl)) rfl rfl hl.1 rfl (lv_room (Nat.le_of_ble_eq_true rfl)) (kdr dgX3_fits_0 0 5 rfl rfl) ⟨(Nat.le_of_ble_eq_true rfl), (Nat.le_of_ble_eq_true rfl)⟩) hP hD hS hA kFr_Mo (fun H locs hP hD hS br1 => ?_)
  refine lv_if_eq (tgt := 27) hx hb (kdr dgX3_fits_0 0 6 rfl rfl) (by decide) (fun c2 => ?_) (fun c2 => ?_)
  · have h := g_t c2 h
    refine lv_iconst (v := 0) hx hb (kdr dgX3_fits_0 1 7 rfl rfl) (by decide) ?_
    have h := Option.some.inj h
    subst h
    exact kret_i (v := 0) hx hb hr rfl hlocks hS hP (kdr dgX3_fits_0 1 8 rfl rfl)
  · have h := g_f c2 h
    refine lv_aload_n hx hb (kdr dgX3_fits_0 0 7 rfl rfl) rfl (lv_at hl 0 rfl) ?_
    refine lv_lload_n hx hb (kdr dgX3_fits_0 0 8 rfl rfl) rfl (lv_at hl 1 rfl) ?_
    refine lv_lload_n hx hb (kdr dgX3_fits_0 0 9 rfl rfl) rfl (lv_at hl 1 rfl) ?_
    refine lv_lload_n hx hb (kdr dgX3_fits_0 1 0 rfl rfl) rfl (lv_at hl 2 rfl) ?_
    refine lv_ladd hx hb (kdr dgX3_fits_0 1 1 rfl rfl) ?_
    refine lv_iconst (v := (-1)) hx hb (kdr dgX3_fits_0 1 2 rfl rfl) (by decide) ?_
    obtain ⟨r3, g3, h⟩ := g_b h
    refine kq_i (wMo cJ cZ b mce mfr mun mbe men mov msp mwb mwe mwi mac mre mkn mth) (fun qP qD qF => va_runV (As := [.long p0, .long (p0 + p1), .int (-1)]) (rest := []) ⟨hx, hb, hml, hown, hts⟩ (c_X3_meetsSome l dC dI cB cI cJ cZ b _ mce mfr mun mbe men mov msp mwb mwe mwi mac mre mkn mth p0 (p0 + p1) (-1) r3 g3) (kcwV hts kw_1204 kv_X3_meetsSome rfl rfl ⟨(Nat.le_of_ble_eq_true rfl), (Nat.le_of_ble_eq_true rfl)⟩) (kpV (A := A) qP hK qD hG (krecv_5 (q0 := 0) hK hP rfl)) rfl rfl hl.1 rfl (lv_room (Nat.le_of_ble_eq_true rfl)) (kdr dgX3_fits_0 1 3 rfl rfl) ⟨(Nat.le_of_ble_eq_true rfl), (Nat.le_of_ble_eq_true rfl)⟩) hP hD hS hA kFr_Mo (fun H locs hP hD hS br3 => ?_)
    refine lv_if_ne (tgt := 27) hx hb (kdr dgX3_fits_0 1 4 rfl rfl) (by decide) (fun c4 => ?_) (fun c4 => ?_)
    · have h := g_f c4 h
      refine lv_iconst (v := 0) hx hb (kdr dgX3_fits_0 1 7 rfl rfl) (by decide) ?_
      have h := Option.some.inj h
      subst h
      exact kret_i (v := 0) hx hb hr rfl hlocks hS hP (kdr dgX3_fits_0 1 8 rfl rfl)
    · have h := g_t c4 h
      refine lv_iconst (v := 1) hx hb (kdr dgX3_fits_0 1 5 rfl rfl) (by decide) ?_
      refine lv_goto (tgt := 28) hx hb (kdr dgX3_fits_0 1 6 rfl rfl) (by decide) ?_
      have h := Option.some.inj h
      subst h
      exact kret_i (v := 1) hx hb hr rfl hlocks hS hP (kdr dgX3_fits_0 1 8 rfl rfl)
noncomputable abbrev wsX3_wishesMeet : List Cond := kWs yX3_wishesMeet cX3_wishesMeet 3 (some .boolean)
noncomputable def f_X3_wishesMeet (mwb : Nat → Int64) (mwe : Nat → Int64) (p0 : Int32) (p1 : Int32) : Option (Int32) :=
  if ix p0 8 then
    if ix p1 8 then
      (f_X3_meet (mwb p0.toNatClampNeg) (mwe p0.toNatClampNeg) (mwb p1.toNatClampNeg) (mwe p1.toNatClampNeg)).bind fun r3 =>
      some r3
    else none
  else none
theorem f_X3_wishesMeet_e {mwb : Nat → Int64} {mwe : Nat → Int64} {p0 : Int32} {p1 : Int32} : f_X3_wishesMeet mwb mwe p0 p1 = 
  if ix p0 8 then
    if ix p1 8 then
      (f_X3_meet (mwb p0.toNatClampNeg) (mwe p0.toNatClampNeg) (mwb p1.toNatClampNeg) (mwe p1.toNatClampNeg)).bind fun r3 =>
      some r3
    else none
  else none := rfl
set_option maxHeartbeats 4000000 in
set_option maxRecDepth 100000 in
theorem c_X3_wishesMeet (l : Launch) (dC : Nat → ClassId) (dI : Nat → Nat → Nat) (cB cI cJ cZ : ClassId) (b : Nat → Nat) (sz : Nat) (mce : Nat → Int64) (mfr : Int64) (mun : Int64) (mbe : Nat → Int64) (men : Nat → Int64) (mov : Nat → Int32) (msp : Int32) (mwb : Nat → Int64) (mwe : Nat → Int64) (mwi : Int32) (mac : Int32) (mre : Int32) (mkn : Int32) (mth : Int32) (p0 : Int32) (p1 : Int32) (res : Int32) (hf : f_X3_wishesMeet mwb mwe p0 p1 = some res) : kMi l yX3_wishesMeet wsX3_wishesMeet (kRm 1 0 0 27) dC dI cB cI cJ cZ [.ref (b 0), .int p0, .int p1] sz (wMo cJ cZ b mce mfr mun mbe men mov msp mwb mwe mwi mac mre mkn mth) .boolean (res) (wMo cJ cZ b mce mfr mun mbe men mov msp mwb mwe mwi mac mre mkn mth) 0 0 := by
  refine kmet_i (y := yX3_wishesMeet) (cc := cX3_wishesMeet) (maxL := 3) (ret := (some .boolean)) RX3 (kvA 0 (b 0) (kvI 1 p0 (kvI 2 p1 kvE))) kpl_X3 rfl rfl (Nat.le_of_ble_eq_true rfl) rfl (fun p e s m below meth c A ls hx hb hr hml hts hown hlocks hP hK hG hD hA hS hl => ?_)
  have hw0 := hts (.fieldLink RX3 29 "SpanbookerModel" "wishBegins" "[J") (List.mem_cons_of_mem _ kw_1079)
  have hw1 := hts (.fieldLink RX3 32 "SpanbookerModel" "wishEnds" "[J") (List.mem_cons_of_mem _ kw_1080)
  have hiX3 : ∀ w ∈ u_ws RX3 TX3 14, w ∈ wsX3_wishesMeet := fun w h => List.mem_cons_of_mem _ (ku_X3 w h)
  have h := f_X3_wishesMeet_e.symm.trans hf
  refine lv_aload_n hx hb (kdr dgX3_wishesMeet_0 0 0 rfl rfl) rfl (lv_at hl 0 rfl) ?_
  refine va_get (D := (dC, dI)) (ci := 5) (v := .ref (b 5)) (C := RX3) (T := TX3) (N := 14) hx hb hts hiX3 hown hK hP 0 rfl rfl 7 (by decide) hw0 (fun _ h9 => h9) rfl (kdr dgX3_wishesMeet_0 0 1 rfl rfl) ?_
  refine lv_iload_n hx hb (kdr dgX3_wishesMeet_0 0 2 rfl rfl) rfl (lv_at hl 1 rfl) ?_
  obtain ⟨z0, h⟩ := g_if h
  refine va_lald hx hb hK hP 5 2 rfl rfl (ix_in z0) (kdr dgX3_wishesMeet_0 0 3 rfl rfl) ?_
  refine lv_aload_n hx hb (kdr dgX3_wishesMeet_0 0 4 rfl rfl) rfl (lv_at hl 0 rfl) ?_
  refine va_get (D := (dC, dI)) (ci := 5) (v := .ref (b 6)) (C := RX3) (T := TX3) (N := 14) hx hb hts hiX3 hown hK hP 0 rfl rfl 8 (by decide) hw1 (fun _ h9 => h9) rfl (kdr dgX3_wishesMeet_0 0 5 rfl rfl) ?_
  refine lv_iload_n hx hb (kdr dgX3_wishesMeet_0 0 6 rfl rfl) rfl (lv_at hl 1 rfl) ?_
  refine va_lald hx hb hK hP 6 2 rfl rfl (ix_in z0) (kdr dgX3_wishesMeet_0 0 7 rfl rfl) ?_
  refine lv_aload_n hx hb (kdr dgX3_wishesMeet_0 0 8 rfl rfl) rfl (lv_at hl 0 rfl) ?_
  refine va_get (D := (dC, dI)) (ci := 5) (v := .ref (b 5)) (C := RX3) (T := TX3) (N := 14) hx hb hts hiX3 hown hK hP 0 rfl rfl 7 (by decide) hw0 (fun _ h9 => h9) rfl (kdr dgX3_wishesMeet_0 0 9 rfl rfl) ?_
  refine lv_iload_n hx hb (kdr dgX3_wishesMeet_0 1 0 rfl rfl) rfl (lv_at hl 2 rfl) ?_
  obtain ⟨z1, h⟩ := g_if h
  refine va_lald hx hb hK hP 5 2 rfl rfl (ix_in z1) (kdr dgX3_wishesMeet_0 1 1 rfl rfl) ?_
  refine lv_aload_n hx hb (kdr dgX3_wishesMeet_0 1 2 rfl rfl) rfl (lv_at hl 0 rfl) ?_
  refine va_get (D := (dC, dI)) (ci := 5) (v := .ref (b 6)) (C := RX3) (T := TX3) (N := 14) hx hb hts hiX3 hown hK hP 0 rfl rfl 8 (by decide) hw1 (fun _ h9 => h9) rfl (kdr dgX3_wishesMeet_0 1 3 rfl rfl) ?_
  refine lv_iload_n hx hb (kdr dgX3_wishesMeet_0 1 4 rfl rfl) rfl (lv_at hl 2 rfl) ?_
  refine va_lald hx hb hK hP 6 2 rfl rfl (ix_in z1) (kdr dgX3_wishesMeet_0 1 5 rfl rfl) ?_
  obtain ⟨r3, g3, h⟩ := g_b h
  refine kq_i (wMo cJ cZ b mce mfr mun mbe men mov msp mwb mwe mwi mac mre mkn mth) (fun qP qD qF => va_runS (As := [.long (mwb p0.toNatClampNeg), .long (mwe p0.toNatClampNeg), .long (mwb p1.toNatClampNeg), .long (mwe p1.toNatClampNeg)]) (rest := []) ⟨hx, hb, hml, hown, hts⟩ (c_X3_meet l dC dI cB cI cJ cZ  _  (mwb p0.toNatClampNeg) (mwe p0.toNatClampNeg) (mwb p1.toNatClampNeg) (mwe p1.toNatClampNeg) r3 g3) (kcwS hts kw_1208 kv_X3_meet rfl rfl ⟨(Nat.le_of_ble_eq_true rfl), (Nat.le_of_ble_eq_true rfl)⟩) (kpS (A := A) (kPnil) hK ((kDnil (A := A))) hG) rfl rfl hl.1 rfl (lv_room (Nat.le_of_ble_eq_true rfl)) (kdr dgX3_wishesMeet_0 1 6 rfl rfl) ⟨(Nat.le_of_ble_eq_true rfl), (Nat.le_of_ble_eq_true rfl)⟩) hP hD hS hA kFr_n (fun H locs hP hD hS br3 => ?_)
  have h := Option.some.inj h
  subst h
  exact kret_i (v := r3) hx hb hr br3 hlocks hS hP (kdr dgX3_wishesMeet_0 1 7 rfl rfl)
noncomputable abbrev wsX3_areApart : List Cond := kWs yX3_areApart cX3_areApart 4 (some .boolean)
noncomputable def f_X3_areApart_12 (K2 : (Nat → Int64) → (Nat → Int64) → (Int32) → (Int32) → (Int32) → Option (Int32)) : Nat → (Nat → Int64) → (Nat → Int64) → (Int32) → (Int32) → (Int32) → (Int32) → Option (Int32)
  | 0, _, _, _, _, _, _ => none
  | n + 1, mwb, mwe, mwi, x1, x2, x3 =>
    if x2 ≤ x3 then
      K2 mwb mwe mwi x1 (x2 + 1)
    else
      if (((x1 >>> (x2 &&& 31)) &&& (x1 >>> (x3 &&& 31))) &&& 1) = 1 then
        (f_X3_wishesMeet mwb mwe x2 x3).bind fun r3 =>
        if r3 = 0 then
          f_X3_areApart_12 K2 n mwb mwe mwi x1 x2 (x3 + 1)
        else
          some 0
      else
        f_X3_areApart_12 K2 n mwb mwe mwi x1 x2 (x3 + 1)
theorem f_X3_areApart_12_0 {K2 : (Nat → Int64) → (Nat → Int64) → (Int32) → (Int32) → (Int32) → Option (Int32)} {mwb : Nat → Int64} {mwe : Nat → Int64} {mwi : Int32} {x1 : Int32} {x2 : Int32} {x3 : Int32} : f_X3_areApart_12 K2 0 mwb mwe mwi x1 x2 x3 = none := rfl
theorem f_X3_areApart_12_s {K2 : (Nat → Int64) → (Nat → Int64) → (Int32) → (Int32) → (Int32) → Option (Int32)} {n : Nat} {mwb : Nat → Int64} {mwe : Nat → Int64} {mwi : Int32} {x1 : Int32} {x2 : Int32} {x3 : Int32} : f_X3_areApart_12 K2 (n + 1) mwb mwe mwi x1 x2 x3 =
  if x2 ≤ x3 then
    K2 mwb mwe mwi x1 (x2 + 1)
  else
    if (((x1 >>> (x2 &&& 31)) &&& (x1 >>> (x3 &&& 31))) &&& 1) = 1 then
      (f_X3_wishesMeet mwb mwe x2 x3).bind fun r3 =>
      if r3 = 0 then
        f_X3_areApart_12 K2 n mwb mwe mwi x1 x2 (x3 + 1)
      else
        some 0
    else
      f_X3_areApart_12 K2 n mwb mwe mwi x1 x2 (x3 + 1) := rfl
noncomputable def f_X3_areApart_2 : Nat → (Nat → Int64) → (Nat → Int64) → (Int32) → (Int32) → (Int32) → Option (Int32)
  | 0, _, _, _, _, _ => none
  | n + 1, mwb, mwe, mwi, x1, x2 =>
    if mwi ≤ x2 then
      some 1
    else
      f_X3_areApart_12 (f_X3_areApart_2 n) 24 mwb mwe mwi x1 x2 0
theorem f_X3_areApart_2_0 {mwb : Nat → Int64} {mwe : Nat → Int64} {mwi : Int32} {x1 : Int32} {x2 : Int32} : f_X3_areApart_2 0 mwb mwe mwi x1 x2 = none := rfl
theorem f_X3_areApart_2_s {n : Nat} {mwb : Nat → Int64} {mwe : Nat → Int64} {mwi : Int32} {x1 : Int32} {x2 : Int32} : f_X3_areApart_2 (n + 1) mwb mwe mwi x1 x2 =
  if mwi ≤ x2 then
    some 1
  else
    f_X3_areApart_12 (f_X3_areApart_2 n) 24 mwb mwe mwi x1 x2 0 := rfl
noncomputable def f_X3_areApart (mwb : Nat → Int64) (mwe : Nat → Int64) (mwi : Int32) (p0 : Int32) : Option (Int32) :=
  f_X3_areApart_2 24 mwb mwe mwi p0 0
theorem f_X3_areApart_e {mwb : Nat → Int64} {mwe : Nat → Int64} {mwi : Int32} {p0 : Int32} : f_X3_areApart mwb mwe mwi p0 = 
  f_X3_areApart_2 24 mwb mwe mwi p0 0 := rfl
set_option maxHeartbeats 4000000 in
set_option maxRecDepth 100000 in
theorem c_X3_areApart (l : Launch) (dC : Nat → ClassId) (dI : Nat → Nat → Nat) (cB cI cJ cZ : ClassId) (b : Nat → Nat) (sz : Nat) (mce : Nat → Int64) (mfr : Int64) (mun : Int64) (mbe : Nat → Int64) (men : Nat → Int64) (mov : Nat → Int32) (msp : Int32) (mwb : Nat → Int64) (mwe : Nat → Int64) (mwi : Int32) (mac : Int32) (mre : Int32) (mkn : Int32) (mth : Int32) (p0 : Int32) (res : Int32) (hf : f_X3_areApart mwb mwe mwi p0 = some res) : kMi l yX3_areApart wsX3_areApart (kRm 2 0 0 49) dC dI cB cI cJ cZ [.ref (b 0), .int p0] sz (wMo cJ cZ b mce mfr mun mbe men mov msp mwb mwe mwi mac mre mkn mth) .boolean (res) (wMo cJ cZ b mce mfr mun mbe men mov msp mwb mwe mwi mac mre mkn mth) 0 0 := by
  refine kmet_i (y := yX3_areApart) (cc := cX3_areApart) (maxL := 4) (ret := (some .boolean)) RX3 (kvA 0 (b 0) (kvI 1 p0 kvE)) kpl_X3 rfl rfl (Nat.le_of_ble_eq_true rfl) rfl (fun p e s m below meth c A ls hx hb hr hml hts hown hlocks hP hK hG hD hA hS hl => ?_)
  have hw0 := hts (.fieldLink RX3 88 "SpanbookerModel" "wishes" "I") (List.mem_cons_of_mem _ kw_1081)
  have hiX3 : ∀ w ∈ u_ws RX3 TX3 14, w ∈ wsX3_areApart := fun w h => List.mem_cons_of_mem _ (ku_X3 w h)
  have J12 : ∀ (K2 : (Nat → Int64) → (Nat → Int64) → (Int32) → (Int32) → (Int32) → Option (Int32)), (∀ (mce : Nat → Int64) (mfr : Int64) (mun : Int64) (mbe : Nat → Int64) (men : Nat → Int64) (mov : Nat → Int32) (msp : Int32) (mwb : Nat → Int64) (mwe : Nat → Int64) (mwi : Int32) (mac : Int32) (mre : Int32) (mkn : Int32) (mth : Int32) (x1 : Int32) (x2 : Int32) (H : Heap) (locs : List Loc), va_P (dC, dI) vwCl (wMo cJ cZ b mce mfr mun mbe men mov msp mwb mwe mwi mac mre mkn mth) H → va_D A (wMo cJ cZ b mce mfr mun mbe men mov msp mwb mwe mwi mac mre mkn mth) → va_S A s.heap H locs → ∀ (ls : Array Slot), lv_has ls 4 (kvA 0 (b 0) (kvI 1 x1 (kvI 2 x2 kvE))) → K2 mwb mwe mwi x1 x2 = some res → W p l e (headSpec wsX3_areApart (kRm 2 0 0 49)).room s m ([.ref (b 0), .int p0] : List Value).toArray below meth c H locs 0 0 (MQ below (kI (dC, dI) .boolean (res) (wMo cJ cZ b mce mfr mun mbe men mov msp mwb mwe mwi mac mre mkn mth) A) ([.ref (b 0), .int p0] : List Value).toArray s 0 0 A) (F0 m 2 ls [])) → ∀ (n : Nat), ∀ (mce : Nat → Int64) (mfr : Int64) (mun : Int64) (mbe : Nat → Int64) (men : Nat → Int64) (mov : Nat → Int32) (msp : Int32) (mwb : Nat → Int64) (mwe : Nat → Int64) (mwi : Int32) (mac : Int32) (mre : Int32) (mkn : Int32) (mth : Int32) (x1 : Int32) (x2 : Int32) (x3 : Int32) (H : Heap) (locs : List Loc), va_P (dC, dI) vwCl (wMo cJ cZ b mce mfr mun mbe men mov msp mwb mwe mwi mac mre mkn mth) H → va_D A (wMo cJ cZ b mce mfr mun mbe men mov msp mwb mwe mwi mac mre mkn mth) → va_S A s.heap H locs → ∀ (ls : Array Slot), lv_has ls 4 (kvA 0 (b 0) (kvI 1 x1 (kvI 2 x2 (kvI 3 x3 kvE)))) → f_X3_areApart_12 K2 n mwb mwe mwi x1 x2 x3 = some res → W p l e (headSpec wsX3_areApart (kRm 2 0 0 49)).room s m ([.ref (b 0), .int p0] : List Value).toArray below meth c H locs 0 0 (MQ below (kI (dC, dI) .boolean (res) (wMo cJ cZ b mce mfr mun mbe men mov msp mwb mwe mwi mac mre mkn mth) A) ([.ref (b 0), .int p0] : List Value).toArray s 0 0 A) (F0 m 12 ls []) := by
    intro K2 hK2 n
    induction n with
    | zero =>
      intro mce mfr mun mbe men mov msp mwb mwe mwi mac mre mkn mth x1 x2 x3 H locs hP hD hS ls hl h
      have h := f_X3_areApart_12_0.symm.trans h
      cases h
    | succ n ih =>
      intro mce mfr mun mbe men mov msp mwb mwe mwi mac mre mkn mth x1 x2 x3 H locs hP hD hS ls hl h
      have h := f_X3_areApart_12_s.symm.trans h
      refine lv_iload_n hx hb (kdr dgX3_areApart_0 0 8 rfl rfl) rfl (lv_at hl 3 rfl) ?_
      refine lv_iload_n hx hb (kdr dgX3_areApart_0 0 9 rfl rfl) rfl (lv_at hl 2 rfl) ?_
      refine lv_icmp_ge (tgt := 47) hx hb (kdr dgX3_areApart_0 1 0 rfl rfl) (by decide) (fun c1 => ?_) (fun c1 => ?_)
      · have h := g_t c1 h
        refine lv_iinc (v := x2 + 1) (lv' := (kvI 2 (x2 + 1) (kvA 0 (b 0) (kvI 1 x1 (kvI 3 x3 kvE))))) hx hb (kdr dgX3_areApart_0 3 1 rfl rfl) hl (k := 2) rfl rfl (by decide) rfl (fun ls hl => ?_)
        refine lv_goto (tgt := 2) hx hb (kdr dgX3_areApart_0 3 2 rfl rfl) (by decide) ?_
        exact hK2 mce mfr mun mbe men mov msp mwb mwe mwi mac mre mkn mth x1 (x2 + 1) _ _ hP hD hS ls (lv_sub hl [1, 2, 0] rfl) h
      · have h := g_f c1 h
        refine lv_iload_n hx hb (kdr dgX3_areApart_0 1 1 rfl rfl) rfl (lv_at hl 1 rfl) ?_
        refine lv_iload_n hx hb (kdr dgX3_areApart_0 1 2 rfl rfl) rfl (lv_at hl 2 rfl) ?_
        refine lv_ishr hx hb (kdr dgX3_areApart_0 1 3 rfl rfl) ?_
        refine lv_iload_n hx hb (kdr dgX3_areApart_0 1 4 rfl rfl) rfl (lv_at hl 1 rfl) ?_
        refine lv_iload_n hx hb (kdr dgX3_areApart_0 1 5 rfl rfl) rfl (lv_at hl 3 rfl) ?_
        refine lv_ishr hx hb (kdr dgX3_areApart_0 1 6 rfl rfl) ?_
        refine lv_iand hx hb (kdr dgX3_areApart_0 1 7 rfl rfl) ?_
        refine lv_iconst (v := 1) hx hb (kdr dgX3_areApart_0 1 8 rfl rfl) (by decide) ?_
        refine lv_iand hx hb (kdr dgX3_areApart_0 1 9 rfl rfl) ?_
        refine lv_iconst (v := 1) hx hb (kdr dgX3_areApart_0 2 0 rfl rfl) (by decide) ?_
        refine lv_icmp_ne (tgt := 41) hx hb (kdr dgX3_areApart_0 2 1 rfl rfl) (by decide) (fun c2 => ?_) (fun c2 => ?_)
        · have h := g_f c2 h
          refine lv_iinc (v := x3 + 1) (lv' := (kvI 3 (x3 + 1) (kvA 0 (b 0) (kvI 1 x1 (kvI 2 x2 kvE))))) hx hb (kdr dgX3_areApart_0 2 9 rfl rfl) hl (k := 3) rfl rfl (by decide) rfl (fun ls hl => ?_)
          refine lv_goto (tgt := 12) hx hb (kdr dgX3_areApart_0 3 0 rfl rfl) (by decide) ?_
          exact ih mce mfr mun mbe men mov msp mwb mwe mwi mac mre mkn mth x1 x2 (x3 + 1) _ _ hP hD hS ls (lv_sub hl [1, 2, 3, 0] rfl) h
        · have h := g_t c2 h
          refine lv_aload_n hx hb (kdr dgX3_areApart_0 2 2 rfl rfl) rfl (lv_at hl 0 rfl) ?_
          refine lv_iload_n hx hb (kdr dgX3_areApart_0 2 3 rfl rfl) rfl (lv_at hl 2 rfl) ?_
          refine lv_iload_n hx hb (kdr dgX3_areApart_0 2 4 rfl rfl) rfl (lv_at hl 3 rfl) ?_
          obtain ⟨r3, g3, h⟩ := g_b h
          refine kq_i (wMo cJ cZ b mce mfr mun mbe men mov msp mwb mwe mwi mac mre mkn mth) (fun qP qD qF => va_runV (As := [.int x2, .int x3]) (rest := []) ⟨hx, hb, hml, hown, hts⟩ (c_X3_wishesMeet l dC dI cB cI cJ cZ b _ mce mfr mun mbe men mov msp mwb mwe mwi mac mre mkn mth x2 x3 r3 g3) (kcwV hts kw_1403 kv_X3_wishesMeet rfl rfl ⟨(Nat.le_of_ble_eq_true rfl), (Nat.le_of_ble_eq_true rfl)⟩) (kpV (A := A) qP hK qD hG (krecv_5 (q0 := 0) hK hP rfl)) rfl rfl hl.1 rfl (lv_room (Nat.le_of_ble_eq_true rfl)) (kdr dgX3_areApart_0 2 5 rfl rfl) ⟨(Nat.le_of_ble_eq_true rfl), (Nat.le_of_ble_eq_true rfl)⟩) hP hD hS hA kFr_Mo (fun H locs hP hD hS br3 => ?_)
          refine lv_if_eq (tgt := 41) hx hb (kdr dgX3_areApart_0 2 6 rfl rfl) (by decide) (fun c4 => ?_) (fun c4 => ?_)
          · have h := g_t c4 h
            refine lv_iinc (v := x3 + 1) (lv' := (kvI 3 (x3 + 1) (kvA 0 (b 0) (kvI 1 x1 (kvI 2 x2 kvE))))) hx hb (kdr dgX3_areApart_0 2 9 rfl rfl) hl (k := 3) rfl rfl (by decide) rfl (fun ls hl => ?_)
            refine lv_goto (tgt := 12) hx hb (kdr dgX3_areApart_0 3 0 rfl rfl) (by decide) ?_
            exact ih mce mfr mun mbe men mov msp mwb mwe mwi mac mre mkn mth x1 x2 (x3 + 1) _ _ hP hD hS ls (lv_sub hl [1, 2, 3, 0] rfl) h
          · have h := g_f c4 h
            refine lv_iconst (v := 0) hx hb (kdr dgX3_areApart_0 2 7 rfl rfl) (by decide) ?_
            have h := Option.some.inj h
            subst h
            exact kret_i (v := 0) hx hb hr rfl hlocks hS hP (kdr dgX3_areApart_0 2 8 rfl rfl)
  have J2 : ∀ (n : Nat), ∀ (mce : Nat → Int64) (mfr : Int64) (mun : Int64) (mbe : Nat → Int64) (men : Nat → Int64) (mov : Nat → Int32) (msp : Int32) (mwb : Nat → Int64) (mwe : Nat → Int64) (mwi : Int32) (mac : Int32) (mre : Int32) (mkn : Int32) (mth : Int32) (x1 : Int32) (x2 : Int32) (H : Heap) (locs : List Loc), va_P (dC, dI) vwCl (wMo cJ cZ b mce mfr mun mbe men mov msp mwb mwe mwi mac mre mkn mth) H → va_D A (wMo cJ cZ b mce mfr mun mbe men mov msp mwb mwe mwi mac mre mkn mth) → va_S A s.heap H locs → ∀ (ls : Array Slot), lv_has ls 4 (kvA 0 (b 0) (kvI 1 x1 (kvI 2 x2 kvE))) → f_X3_areApart_2 n mwb mwe mwi x1 x2 = some res → W p l e (headSpec wsX3_areApart (kRm 2 0 0 49)).room s m ([.ref (b 0), .int p0] : List Value).toArray below meth c H locs 0 0 (MQ below (kI (dC, dI) .boolean (res) (wMo cJ cZ b mce mfr mun mbe men mov msp mwb mwe mwi mac mre mkn mth) A) ([.ref (b 0), .int p0] : List Value).toArray s 0 0 A) (F0 m 2 ls []) := by
    intro n
    induction n with
    | zero =>
      intro mce mfr mun mbe men mov msp mwb mwe mwi mac mre mkn mth x1 x2 H locs hP hD hS ls hl h
      have h := f_X3_areApart_2_0.symm.trans h
      cases h
    | succ n ih =>
      intro mce mfr mun mbe men mov msp mwb mwe mwi mac mre mkn mth x1 x2 H locs hP hD hS ls hl h
      have h := f_X3_areApart_2_s.symm.trans h
      refine lv_iload_n hx hb (kdr dgX3_areApart_0 0 2 rfl rfl) rfl (lv_at hl 2 rfl) ?_
      refine lv_aload_n hx hb (kdr dgX3_areApart_0 0 3 rfl rfl) rfl (lv_at hl 0 rfl) ?_
      refine va_get (D := (dC, dI)) (ci := 5) (v := .int mwi) (C := RX3) (T := TX3) (N := 14) hx hb hts hiX3 hown hK hP 0 rfl rfl 9 (by decide) hw0 (fun _ h9 => h9) rfl (kdr dgX3_areApart_0 0 4 rfl rfl) ?_
      refine lv_icmp_ge (tgt := 53) hx hb (kdr dgX3_areApart_0 0 5 rfl rfl) (by decide) (fun c1 => ?_) (fun c1 => ?_)
      · have h := g_t c1 h
        refine lv_iconst (v := 1) hx hb (kdr dgX3_areApart_0 3 3 rfl rfl) (by decide) ?_
        have h := Option.some.inj h
        subst h
        exact kret_i (v := 1) hx hb hr rfl hlocks hS hP (kdr dgX3_areApart_0 3 4 rfl rfl)
      · have h := g_f c1 h
        refine lv_iconst (v := 0) hx hb (kdr dgX3_areApart_0 0 6 rfl rfl) (by decide) ?_
        refine lv_istore_n (lv' := (kvI 3 0 (kvA 0 (b 0) (kvI 1 x1 (kvI 2 x2 kvE))))) hx hb (kdr dgX3_areApart_0 0 7 rfl rfl) rfl hl (by decide) rfl (fun ls hl => ?_)
        exact J12 (f_X3_areApart_2 n) ih 24 mce mfr mun mbe men mov msp mwb mwe mwi mac mre mkn mth x1 x2 0 _ _ hP hD hS ls (lv_sub hl [1, 2, 3, 0] rfl) h
  have h := f_X3_areApart_e.symm.trans hf
  refine lv_iconst (v := 0) hx hb (kdr dgX3_areApart_0 0 0 rfl rfl) (by decide) ?_
  refine lv_istore_n (lv' := (kvI 2 0 (kvA 0 (b 0) (kvI 1 p0 kvE)))) hx hb (kdr dgX3_areApart_0 0 1 rfl rfl) rfl hl (by decide) rfl (fun ls hl => ?_)
  exact J2 24 mce mfr mun mbe men mov msp mwb mwe mwi mac mre mkn mth p0 0 _ _ hP hD hS ls (lv_sub hl [1, 2, 0] rfl) h
noncomputable abbrev wsX3_chosenNow : List Cond := kWs yX3_chosenNow cX3_chosenNow 4 (some .int)
noncomputable def f_X3_chosenNow_6 (K2 : (Nat → Int64) → (Nat → Int64) → (Int32) → (Int32) → Option (Int32)) : Nat → (Nat → Int64) → (Nat → Int64) → (Int32) → (Int32) → (Int32) → (Int32) → Option (Int32)
  | 0, _, _, _, _, _, _ => none
  | n + 1, mwb, mwe, mwi, x1, x2, x3 =>
    if mwi ≤ x3 then
      if 0 ≤ x2 then
        K2 mwb mwe mwi (x1 ||| (1 <<< (x2 &&& 31)))
      else
        some x1
    else
      if ((x1 >>> (x3 &&& 31)) &&& 1) = 0 then
        (f_X3_areApart mwb mwe mwi (x1 ||| (1 <<< (x3 &&& 31)))).bind fun r3 =>
        if r3 = 0 then
          f_X3_chosenNow_6 K2 n mwb mwe mwi x1 x2 (x3 + 1)
        else
          if x2 < 0 then
            f_X3_chosenNow_6 K2 n mwb mwe mwi x1 x3 (x3 + 1)
          else
            if ix x3 8 then
              if ix x2 8 then
                if (mwe x2.toNatClampNeg) ≤ (mwe x3.toNatClampNeg) then
                  f_X3_chosenNow_6 K2 n mwb mwe mwi x1 x2 (x3 + 1)
                else
                  f_X3_chosenNow_6 K2 n mwb mwe mwi x1 x3 (x3 + 1)
              else none
            else none
      else
        f_X3_chosenNow_6 K2 n mwb mwe mwi x1 x2 (x3 + 1)
theorem f_X3_chosenNow_6_0 {K2 : (Nat → Int64) → (Nat → Int64) → (Int32) → (Int32) → Option (Int32)} {mwb : Nat → Int64} {mwe : Nat → Int64} {mwi : Int32} {x1 : Int32} {x2 : Int32} {x3 : Int32} : f_X3_chosenNow_6 K2 0 mwb mwe mwi x1 x2 x3 = none := rfl
theorem f_X3_chosenNow_6_s {K2 : (Nat → Int64) → (Nat → Int64) → (Int32) → (Int32) → Option (Int32)} {n : Nat} {mwb : Nat → Int64} {mwe : Nat → Int64} {mwi : Int32} {x1 : Int32} {x2 : Int32} {x3 : Int32} : f_X3_chosenNow_6 K2 (n + 1) mwb mwe mwi x1 x2 x3 =
  if mwi ≤ x3 then
    if 0 ≤ x2 then
      K2 mwb mwe mwi (x1 ||| (1 <<< (x2 &&& 31)))
    else
      some x1
  else
    if ((x1 >>> (x3 &&& 31)) &&& 1) = 0 then
      (f_X3_areApart mwb mwe mwi (x1 ||| (1 <<< (x3 &&& 31)))).bind fun r3 =>
      if r3 = 0 then
        f_X3_chosenNow_6 K2 n mwb mwe mwi x1 x2 (x3 + 1)
      else
        if x2 < 0 then
          f_X3_chosenNow_6 K2 n mwb mwe mwi x1 x3 (x3 + 1)
        else
          if ix x3 8 then
            if ix x2 8 then
              if (mwe x2.toNatClampNeg) ≤ (mwe x3.toNatClampNeg) then
                f_X3_chosenNow_6 K2 n mwb mwe mwi x1 x2 (x3 + 1)
              else
                f_X3_chosenNow_6 K2 n mwb mwe mwi x1 x3 (x3 + 1)
            else none
          else none
    else
      f_X3_chosenNow_6 K2 n mwb mwe mwi x1 x2 (x3 + 1) := rfl
noncomputable def f_X3_chosenNow_2 : Nat → (Nat → Int64) → (Nat → Int64) → (Int32) → (Int32) → Option (Int32)
  | 0, _, _, _, _ => none
  | n + 1, mwb, mwe, mwi, x1 =>
    f_X3_chosenNow_6 (f_X3_chosenNow_2 n) 24 mwb mwe mwi x1 (-1) 0
theorem f_X3_chosenNow_2_0 {mwb : Nat → Int64} {mwe : Nat → Int64} {mwi : Int32} {x1 : Int32} : f_X3_chosenNow_2 0 mwb mwe mwi x1 = none := rfl
theorem f_X3_chosenNow_2_s {n : Nat} {mwb : Nat → Int64} {mwe : Nat → Int64} {mwi : Int32} {x1 : Int32} : f_X3_chosenNow_2 (n + 1) mwb mwe mwi x1 =
  f_X3_chosenNow_6 (f_X3_chosenNow_2 n) 24 mwb mwe mwi x1 (-1) 0 := rfl
noncomputable def f_X3_chosenNow (mwb : Nat → Int64) (mwe : Nat → Int64) (mwi : Int32) : Option (Int32) :=
  f_X3_chosenNow_2 24 mwb mwe mwi 0
theorem f_X3_chosenNow_e {mwb : Nat → Int64} {mwe : Nat → Int64} {mwi : Int32} : f_X3_chosenNow mwb mwe mwi = 
  f_X3_chosenNow_2 24 mwb mwe mwi 0 := rfl
set_option maxHeartbeats 4000000 in
set_option maxRecDepth 100000 in
theorem c_X3_chosenNow (l : Launch) (dC : Nat → ClassId) (dI : Nat → Nat → Nat) (cB cI cJ cZ : ClassId) (b : Nat → Nat) (sz : Nat) (mce : Nat → Int64) (mfr : Int64) (mun : Int64) (mbe : Nat → Int64) (men : Nat → Int64) (mov : Nat → Int32) (msp : Int32) (mwb : Nat → Int64) (mwe : Nat → Int64) (mwi : Int32) (mac : Int32) (mre : Int32) (mkn : Int32) (mth : Int32) (res : Int32) (hf : f_X3_chosenNow mwb mwe mwi = some res) : kMi l yX3_chosenNow wsX3_chosenNow (kRm 3 0 0 72) dC dI cB cI cJ cZ [.ref (b 0)] sz (wMo cJ cZ b mce mfr mun mbe men mov msp mwb mwe mwi mac mre mkn mth) .int (res) (wMo cJ cZ b mce mfr mun mbe men mov msp mwb mwe mwi mac mre mkn mth) 0 0 := by
  refine kmet_i (y := yX3_chosenNow) (cc := cX3_chosenNow) (maxL := 4) (ret := (some .int)) RX3 (kvA 0 (b 0) kvE) kpl_X3 rfl rfl (Nat.le_of_ble_eq_true rfl) rfl (fun p e s m below meth c A ls hx hb hr hml hts hown hlocks hP hK hG hD hA hS hl => ?_)
  have hw0 := hts (.fieldLink RX3 88 "SpanbookerModel" "wishes" "I") (List.mem_cons_of_mem _ kw_1081)
  have hw1 := hts (.fieldLink RX3 32 "SpanbookerModel" "wishEnds" "[J") (List.mem_cons_of_mem _ kw_1080)
  have hiX3 : ∀ w ∈ u_ws RX3 TX3 14, w ∈ wsX3_chosenNow := fun w h => List.mem_cons_of_mem _ (ku_X3 w h)
  have J6 : ∀ (K2 : (Nat → Int64) → (Nat → Int64) → (Int32) → (Int32) → Option (Int32)), (∀ (mce : Nat → Int64) (mfr : Int64) (mun : Int64) (mbe : Nat → Int64) (men : Nat → Int64) (mov : Nat → Int32) (msp : Int32) (mwb : Nat → Int64) (mwe : Nat → Int64) (mwi : Int32) (mac : Int32) (mre : Int32) (mkn : Int32) (mth : Int32) (x1 : Int32) (H : Heap) (locs : List Loc), va_P (dC, dI) vwCl (wMo cJ cZ b mce mfr mun mbe men mov msp mwb mwe mwi mac mre mkn mth) H → va_D A (wMo cJ cZ b mce mfr mun mbe men mov msp mwb mwe mwi mac mre mkn mth) → va_S A s.heap H locs → ∀ (ls : Array Slot), lv_has ls 4 (kvA 0 (b 0) (kvI 1 x1 kvE)) → K2 mwb mwe mwi x1 = some res → W p l e (headSpec wsX3_chosenNow (kRm 3 0 0 72)).room s m ([.ref (b 0)] : List Value).toArray below meth c H locs 0 0 (MQ below (kI (dC, dI) .int (res) (wMo cJ cZ b mce mfr mun mbe men mov msp mwb mwe mwi mac mre mkn mth) A) ([.ref (b 0)] : List Value).toArray s 0 0 A) (F0 m 2 ls [])) → ∀ (n : Nat), ∀ (mce : Nat → Int64) (mfr : Int64) (mun : Int64) (mbe : Nat → Int64) (men : Nat → Int64) (mov : Nat → Int32) (msp : Int32) (mwb : Nat → Int64) (mwe : Nat → Int64) (mwi : Int32) (mac : Int32) (mre : Int32) (mkn : Int32) (mth : Int32) (x1 : Int32) (x2 : Int32) (x3 : Int32) (H : Heap) (locs : List Loc), va_P (dC, dI) vwCl (wMo cJ cZ b mce mfr mun mbe men mov msp mwb mwe mwi mac mre mkn mth) H → va_D A (wMo cJ cZ b mce mfr mun mbe men mov msp mwb mwe mwi mac mre mkn mth) → va_S A s.heap H locs → ∀ (ls : Array Slot), lv_has ls 4 (kvA 0 (b 0) (kvI 1 x1 (kvI 2 x2 (kvI 3 x3 kvE)))) → f_X3_chosenNow_6 K2 n mwb mwe mwi x1 x2 x3 = some res → W p l e (headSpec wsX3_chosenNow (kRm 3 0 0 72)).room s m ([.ref (b 0)] : List Value).toArray below meth c H locs 0 0 (MQ below (kI (dC, dI) .int (res) (wMo cJ cZ b mce mfr mun mbe men mov msp mwb mwe mwi mac mre mkn mth) A) ([.ref (b 0)] : List Value).toArray s 0 0 A) (F0 m 6 ls []) := by
    intro K2 hK2 n
    induction n with
    | zero =>
      intro mce mfr mun mbe men mov msp mwb mwe mwi mac mre mkn mth x1 x2 x3 H locs hP hD hS ls hl h
      have h := f_X3_chosenNow_6_0.symm.trans h
      cases h
    | succ n ih =>
      intro mce mfr mun mbe men mov msp mwb mwe mwi mac mre mkn mth x1 x2 x3 H locs hP hD hS ls hl h
      have h := f_X3_chosenNow_6_s.symm.trans h
      refine lv_iload_n hx hb (kdr dgX3_chosenNow_0 0 6 rfl rfl) rfl (lv_at hl 3 rfl) ?_
      refine lv_aload_n hx hb (kdr dgX3_chosenNow_0 0 7 rfl rfl) rfl (lv_at hl 0 rfl) ?_
      refine va_get (D := (dC, dI)) (ci := 5) (v := .int mwi) (C := RX3) (T := TX3) (N := 14) hx hb hts hiX3 hown hK hP 0 rfl rfl 9 (by decide) hw0 (fun _ h9 => h9) rfl (kdr dgX3_chosenNow_0 0 8 rfl rfl) ?_
      refine lv_icmp_ge (tgt := 62) hx hb (kdr dgX3_chosenNow_0 0 9 rfl rfl) (by decide) (fun c1 => ?_) (fun c1 => ?_)
      · have h := g_t c1 h
        refine lv_iload_n hx hb (kdr dgX3_chosenNow_0 4 0 rfl rfl) rfl (lv_at hl 2 rfl) ?_
        refine lv_if_ge (tgt := 68) hx hb (kdr dgX3_chosenNow_0 4 1 rfl rfl) (by decide) (fun c2 => ?_) (fun c2 => ?_)
        · have h := g_t c2 h
          refine lv_iload_n hx hb (kdr dgX3_chosenNow_0 4 4 rfl rfl) rfl (lv_at hl 1 rfl) ?_
          refine lv_iconst (v := 1) hx hb (kdr dgX3_chosenNow_0 4 5 rfl rfl) (by decide) ?_
          refine lv_iload_n hx hb (kdr dgX3_chosenNow_0 4 6 rfl rfl) rfl (lv_at hl 2 rfl) ?_
          refine lv_ishl hx hb (kdr dgX3_chosenNow_0 4 7 rfl rfl) ?_
          refine lv_ior hx hb (kdr dgX3_chosenNow_0 4 8 rfl rfl) ?_
          refine lv_istore_n (lv' := (kvI 1 (x1 ||| (1 <<< (x2 &&& 31))) (kvA 0 (b 0) (kvI 2 x2 (kvI 3 x3 kvE))))) hx hb (kdr dgX3_chosenNow_0 4 9 rfl rfl) rfl hl (by decide) rfl (fun ls hl => ?_)
          refine lv_goto (tgt := 2) hx hb (kdr dgX3_chosenNow_0 5 0 rfl rfl) (by decide) ?_
          exact hK2 mce mfr mun mbe men mov msp mwb mwe mwi mac mre mkn mth (x1 ||| (1 <<< (x2 &&& 31))) _ _ hP hD hS ls (lv_sub hl [1, 0] rfl) h
        · have h := g_f c2 h
          refine lv_iload_n hx hb (kdr dgX3_chosenNow_0 4 2 rfl rfl) rfl (lv_at hl 1 rfl) ?_
          have h := Option.some.inj h
          subst h
          exact kret_i (v := x1) hx hb hr rfl hlocks hS hP (kdr dgX3_chosenNow_0 4 3 rfl rfl)
      · have h := g_f c1 h
        refine lv_iload_n hx hb (kdr dgX3_chosenNow_0 1 0 rfl rfl) rfl (lv_at hl 1 rfl) ?_
        refine lv_iload_n hx hb (kdr dgX3_chosenNow_0 1 1 rfl rfl) rfl (lv_at hl 3 rfl) ?_
        refine lv_ishr hx hb (kdr dgX3_chosenNow_0 1 2 rfl rfl) ?_
        refine lv_iconst (v := 1) hx hb (kdr dgX3_chosenNow_0 1 3 rfl rfl) (by decide) ?_
        refine lv_iand hx hb (kdr dgX3_chosenNow_0 1 4 rfl rfl) ?_
        refine lv_if_ne (tgt := 56) hx hb (kdr dgX3_chosenNow_0 1 5 rfl rfl) (by decide) (fun c2 => ?_) (fun c2 => ?_)
        · have h := g_f c2 h
          refine lv_iinc (v := x3 + 1) (lv' := (kvI 3 (x3 + 1) (kvA 0 (b 0) (kvI 1 x1 (kvI 2 x2 kvE))))) hx hb (kdr dgX3_chosenNow_0 3 8 rfl rfl) hl (k := 3) rfl rfl (by decide) rfl (fun ls hl => ?_)
          refine lv_goto (tgt := 6) hx hb (kdr dgX3_chosenNow_0 3 9 rfl rfl) (by decide) ?_
          exact ih mce mfr mun mbe men mov msp mwb mwe mwi mac mre mkn mth x1 x2 (x3 + 1) _ _ hP hD hS ls (lv_sub hl [1, 2, 3, 0] rfl) h
        · have h := g_t c2 h
          refine lv_aload_n hx hb (kdr dgX3_chosenNow_0 1 6 rfl rfl) rfl (lv_at hl 0 rfl) ?_
          refine lv_iload_n hx hb (kdr dgX3_chosenNow_0 1 7 rfl rfl) rfl (lv_at hl 1 rfl) ?_
          refine lv_iconst (v := 1) hx hb (kdr dgX3_chosenNow_0 1 8 rfl rfl) (by decide) ?_
          refine lv_iload_n hx hb (kdr dgX3_chosenNow_0 1 9 rfl rfl) rfl (lv_at hl 3 rfl) ?_
          refine lv_ishl hx hb (kdr dgX3_chosenNow_0 2 0 rfl rfl) ?_
          refine lv_ior hx hb (kdr dgX3_chosenNow_0 2 1 rfl rfl) ?_
          obtain ⟨r3, g3, h⟩ := g_b h
          refine kq_i (wMo cJ cZ b mce mfr mun mbe men mov msp mwb mwe mwi mac mre mkn mth) (fun qP qD qF => va_runV (As := [.int (x1 ||| (1 <<< (x3 &&& 31)))]) (rest := []) ⟨hx, hb, hml, hown, hts⟩ (c_X3_areApart l dC dI cB cI cJ cZ b _ mce mfr mun mbe men mov msp mwb mwe mwi mac mre mkn mth (x1 ||| (1 <<< (x3 &&& 31))) r3 g3) (kcwV hts kw_1399 kv_X3_areApart rfl rfl ⟨(Nat.le_of_ble_eq_true rfl), (Nat.le_of_ble_eq_true rfl)⟩) (kpV (A := A) qP hK qD hG (krecv_5 (q0 := 0) hK hP rfl)) rfl rfl hl.1 rfl (lv_room (Nat.le_of_ble_eq_true rfl)) (kdr dgX3_chosenNow_0 2 2 rfl rfl) ⟨(Nat.le_of_ble_eq_true rfl), (Nat.le_of_ble_eq_true rfl)⟩) hP hD hS hA kFr_Mo (fun H locs hP hD hS br3 => ?_)
          refine lv_if_eq (tgt := 56) hx hb (kdr dgX3_chosenNow_0 2 3 rfl rfl) (by decide) (fun c4 => ?_) (fun c4 => ?_)
          · have h := g_t c4 h
            refine lv_iinc (v := x3 + 1) (lv' := (kvI 3 (x3 + 1) (kvA 0 (b 0) (kvI 1 x1 (kvI 2 x2 kvE))))) hx hb (kdr dgX3_chosenNow_0 3 8 rfl rfl) hl (k := 3) rfl rfl (by decide) rfl (fun ls hl => ?_)
            refine lv_goto (tgt := 6) hx hb (kdr dgX3_chosenNow_0 3 9 rfl rfl) (by decide) ?_
            exact ih mce mfr mun mbe men mov msp mwb mwe mwi mac mre mkn mth x1 x2 (x3 + 1) _ _ hP hD hS ls (lv_sub hl [1, 2, 3, 0] rfl) h
          · have h := g_f c4 h
            refine lv_iload_n hx hb (kdr dgX3_chosenNow_0 2 4 rfl rfl) rfl (lv_at hl 2 rfl) ?_
            refine lv_if_lt (tgt := 54) hx hb (kdr dgX3_chosenNow_0 2 5 rfl rfl) (by decide) (fun c5 => ?_) (fun c5 => ?_)
            · have h := g_t c5 h
              refine lv_iload_n hx hb (kdr dgX3_chosenNow_0 3 6 rfl rfl) rfl (lv_at hl 3 rfl) ?_
              refine lv_istore_n (lv' := (kvI 2 x3 (kvA 0 (b 0) (kvI 1 x1 (kvI 3 x3 kvE))))) hx hb (kdr dgX3_chosenNow_0 3 7 rfl rfl) rfl hl (by decide) rfl (fun ls hl => ?_)
              refine lv_iinc (v := x3 + 1) (lv' := (kvI 3 (x3 + 1) (kvI 2 x3 (kvA 0 (b 0) (kvI 1 x1 kvE))))) hx hb (kdr dgX3_chosenNow_0 3 8 rfl rfl) hl (k := 3) rfl rfl (by decide) rfl (fun ls hl => ?_)
              refine lv_goto (tgt := 6) hx hb (kdr dgX3_chosenNow_0 3 9 rfl rfl) (by decide) ?_
              exact ih mce mfr mun mbe men mov msp mwb mwe mwi mac mre mkn mth x1 x3 (x3 + 1) _ _ hP hD hS ls (lv_sub hl [2, 3, 1, 0] rfl) h
            · have h := g_f c5 h
              refine lv_aload_n hx hb (kdr dgX3_chosenNow_0 2 6 rfl rfl) rfl (lv_at hl 0 rfl) ?_
              refine va_get (D := (dC, dI)) (ci := 5) (v := .ref (b 6)) (C := RX3) (T := TX3) (N := 14) hx hb hts hiX3 hown hK hP 0 rfl rfl 8 (by decide) hw1 (fun _ h9 => h9) rfl (kdr dgX3_chosenNow_0 2 7 rfl rfl) ?_
              refine lv_iload_n hx hb (kdr dgX3_chosenNow_0 2 8 rfl rfl) rfl (lv_at hl 3 rfl) ?_
              obtain ⟨z5, h⟩ := g_if h
              refine va_lald hx hb hK hP 6 2 rfl rfl (ix_in z5) (kdr dgX3_chosenNow_0 2 9 rfl rfl) ?_
              refine lv_aload_n hx hb (kdr dgX3_chosenNow_0 3 0 rfl rfl) rfl (lv_at hl 0 rfl) ?_
              refine va_get (D := (dC, dI)) (ci := 5) (v := .ref (b 6)) (C := RX3) (T := TX3) (N := 14) hx hb hts hiX3 hown hK hP 0 rfl rfl 8 (by decide) hw1 (fun _ h9 => h9) rfl (kdr dgX3_chosenNow_0 3 1 rfl rfl) ?_
              refine lv_iload_n hx hb (kdr dgX3_chosenNow_0 3 2 rfl rfl) rfl (lv_at hl 2 rfl) ?_
              obtain ⟨z6, h⟩ := g_if h
              refine va_lald hx hb hK hP 6 2 rfl rfl (ix_in z6) (kdr dgX3_chosenNow_0 3 3 rfl rfl) ?_
              refine kl_ge (pc := 50) (tgt := 56) hx hb (kdr dgX3_chosenNow_0 3 4 rfl rfl) (kdr dgX3_chosenNow_0 3 5 rfl rfl) (by decide) (fun c8 => ?_) (fun c8 => ?_)
              · have h := g_t c8 h
                refine lv_iinc (v := x3 + 1) (lv' := (kvI 3 (x3 + 1) (kvA 0 (b 0) (kvI 1 x1 (kvI 2 x2 kvE))))) hx hb (kdr dgX3_chosenNow_0 3 8 rfl rfl) hl (k := 3) rfl rfl (by decide) rfl (fun ls hl => ?_)
                refine lv_goto (tgt := 6) hx hb (kdr dgX3_chosenNow_0 3 9 rfl rfl) (by decide) ?_
                exact ih mce mfr mun mbe men mov msp mwb mwe mwi mac mre mkn mth x1 x2 (x3 + 1) _ _ hP hD hS ls (lv_sub hl [1, 2, 3, 0] rfl) h
              · have h := g_f c8 h
                refine lv_iload_n hx hb (kdr dgX3_chosenNow_0 3 6 rfl rfl) rfl (lv_at hl 3 rfl) ?_
                refine lv_istore_n (lv' := (kvI 2 x3 (kvA 0 (b 0) (kvI 1 x1 (kvI 3 x3 kvE))))) hx hb (kdr dgX3_chosenNow_0 3 7 rfl rfl) rfl hl (by decide) rfl (fun ls hl => ?_)
                refine lv_iinc (v := x3 + 1) (lv' := (kvI 3 (x3 + 1) (kvI 2 x3 (kvA 0 (b 0) (kvI 1 x1 kvE))))) hx hb (kdr dgX3_chosenNow_0 3 8 rfl rfl) hl (k := 3) rfl rfl (by decide) rfl (fun ls hl => ?_)
                refine lv_goto (tgt := 6) hx hb (kdr dgX3_chosenNow_0 3 9 rfl rfl) (by decide) ?_
                exact ih mce mfr mun mbe men mov msp mwb mwe mwi mac mre mkn mth x1 x3 (x3 + 1) _ _ hP hD hS ls (lv_sub hl [2, 3, 1, 0] rfl) h
  have J2 : ∀ (n : Nat), ∀ (mce : Nat → Int64) (mfr : Int64) (mun : Int64) (mbe : Nat → Int64) (men : Nat → Int64) (mov : Nat → Int32) (msp : Int32) (mwb : Nat → Int64) (mwe : Nat → Int64) (mwi : Int32) (mac : Int32) (mre : Int32) (mkn : Int32) (mth : Int32) (x1 : Int32) (H : Heap) (locs : List Loc), va_P (dC, dI) vwCl (wMo cJ cZ b mce mfr mun mbe men mov msp mwb mwe mwi mac mre mkn mth) H → va_D A (wMo cJ cZ b mce mfr mun mbe men mov msp mwb mwe mwi mac mre mkn mth) → va_S A s.heap H locs → ∀ (ls : Array Slot), lv_has ls 4 (kvA 0 (b 0) (kvI 1 x1 kvE)) → f_X3_chosenNow_2 n mwb mwe mwi x1 = some res → W p l e (headSpec wsX3_chosenNow (kRm 3 0 0 72)).room s m ([.ref (b 0)] : List Value).toArray below meth c H locs 0 0 (MQ below (kI (dC, dI) .int (res) (wMo cJ cZ b mce mfr mun mbe men mov msp mwb mwe mwi mac mre mkn mth) A) ([.ref (b 0)] : List Value).toArray s 0 0 A) (F0 m 2 ls []) := by
    intro n
    induction n with
    | zero =>
      intro mce mfr mun mbe men mov msp mwb mwe mwi mac mre mkn mth x1 H locs hP hD hS ls hl h
      have h := f_X3_chosenNow_2_0.symm.trans h
      cases h
    | succ n ih =>
      intro mce mfr mun mbe men mov msp mwb mwe mwi mac mre mkn mth x1 H locs hP hD hS ls hl h
      have h := f_X3_chosenNow_2_s.symm.trans h
      refine lv_iconst (v := (-1)) hx hb (kdr dgX3_chosenNow_0 0 2 rfl rfl) (by decide) ?_
      refine lv_istore_n (lv' := (kvI 2 (-1) (kvA 0 (b 0) (kvI 1 x1 kvE)))) hx hb (kdr dgX3_chosenNow_0 0 3 rfl rfl) rfl hl (by decide) rfl (fun ls hl => ?_)
      refine lv_iconst (v := 0) hx hb (kdr dgX3_chosenNow_0 0 4 rfl rfl) (by decide) ?_
      refine lv_istore_n (lv' := (kvI 3 0 (kvI 2 (-1) (kvA 0 (b 0) (kvI 1 x1 kvE))))) hx hb (kdr dgX3_chosenNow_0 0 5 rfl rfl) rfl hl (by decide) rfl (fun ls hl => ?_)
      exact J6 (f_X3_chosenNow_2 n) ih 24 mce mfr mun mbe men mov msp mwb mwe mwi mac mre mkn mth x1 (-1) 0 _ _ hP hD hS ls (lv_sub hl [2, 3, 1, 0] rfl) h
  have h := f_X3_chosenNow_e.symm.trans hf
  refine lv_iconst (v := 0) hx hb (kdr dgX3_chosenNow_0 0 0 rfl rfl) (by decide) ?_
  refine lv_istore_n (lv' := (kvI 1 0 (kvA 0 (b 0) kvE))) hx hb (kdr dgX3_chosenNow_0 0 1 rfl rfl) rfl hl (by decide) rfl (fun ls hl => ?_)
  exact J2 24 mce mfr mun mbe men mov msp mwb mwe mwi mac mre mkn mth 0 _ _ hP hD hS ls (lv_sub hl [1, 0] rfl) h
noncomputable abbrev wsX3_ones : List Cond := kWs yX3_ones cX3_ones 3 (some .int)
noncomputable def f_X3_ones_4 : Nat → (Int32) → (Int32) → (Int32) → Option (Int32)
  | 0, _, _, _ => none
  | n + 1, x0, x1, x2 =>
    if 31 ≤ x2 then
      some x1
    else
      f_X3_ones_4 n x0 (x1 + ((x0 >>> (x2 &&& 31)) &&& 1)) (x2 + 1)
theorem f_X3_ones_4_0 {x0 : Int32} {x1 : Int32} {x2 : Int32} : f_X3_ones_4 0 x0 x1 x2 = none := rfl
theorem f_X3_ones_4_s {n : Nat} {x0 : Int32} {x1 : Int32} {x2 : Int32} : f_X3_ones_4 (n + 1) x0 x1 x2 =
  if 31 ≤ x2 then
    some x1
  else
    f_X3_ones_4 n x0 (x1 + ((x0 >>> (x2 &&& 31)) &&& 1)) (x2 + 1) := rfl
noncomputable def f_X3_ones (p0 : Int32) : Option (Int32) :=
  f_X3_ones_4 40 p0 0 0
theorem f_X3_ones_e {p0 : Int32} : f_X3_ones p0 = 
  f_X3_ones_4 40 p0 0 0 := rfl
set_option maxHeartbeats 4000000 in
set_option maxRecDepth 100000 in
theorem c_X3_ones (l : Launch) (dC : Nat → ClassId) (dI : Nat → Nat → Nat) (cB cI cJ cZ : ClassId) (sz : Nat) (p0 : Int32) (res : Int32) (hf : f_X3_ones p0 = some res) : kMi l yX3_ones wsX3_ones (kRm 0 0 0 0) dC dI cB cI cJ cZ [.int p0] sz [] .int (res) [] 0 0 := by
  refine kmet_i (y := yX3_ones) (cc := cX3_ones) (maxL := 3) (ret := (some .int)) RX3 (kvI 0 p0 kvE) kpl_X3 rfl rfl (Nat.le_of_ble_eq_true rfl) rfl (fun p e s m below meth c A ls hx hb hr hml hts hown hlocks hP hK hG hD hA hS hl => ?_)
  have J4 : ∀ (n : Nat), ∀ (x0 : Int32) (x1 : Int32) (x2 : Int32) (H : Heap) (locs : List Loc), va_P (dC, dI) vwCl [] H → va_D A [] → va_S A s.heap H locs → ∀ (ls : Array Slot), lv_has ls 3 (kvI 0 x0 (kvI 1 x1 (kvI 2 x2 kvE))) → f_X3_ones_4 n x0 x1 x2 = some res → W p l e (headSpec wsX3_ones (kRm 0 0 0 0)).room s m ([.int p0] : List Value).toArray below meth c H locs 0 0 (MQ below (kI (dC, dI) .int (res) [] A) ([.int p0] : List Value).toArray s 0 0 A) (F0 m 4 ls []) := by
    intro n
    induction n with
    | zero =>
      intro x0 x1 x2 H locs hP hD hS ls hl h
      have h := f_X3_ones_4_0.symm.trans h
      cases h
    | succ n ih =>
      intro x0 x1 x2 H locs hP hD hS ls hl h
      have h := f_X3_ones_4_s.symm.trans h
      refine lv_iload_n hx hb (kdr dgX3_ones_0 0 4 rfl rfl) rfl (lv_at hl 2 rfl) ?_
      refine lv_bipush (v := 31) hx hb (kdr dgX3_ones_0 0 5 rfl rfl) (by decide) ?_
      refine lv_icmp_ge (tgt := 24) hx hb (kdr dgX3_ones_0 0 6 rfl rfl) (by decide) (fun c1 => ?_) (fun c1 => ?_)
      · have h := g_t c1 h
        refine lv_iload_n hx hb (kdr dgX3_ones_0 1 7 rfl rfl) rfl (lv_at hl 1 rfl) ?_
        have h := Option.some.inj h
        subst h
        exact kret_i (v := x1) hx hb hr rfl hlocks hS hP (kdr dgX3_ones_0 1 8 rfl rfl)
      · have h := g_f c1 h
        refine lv_iload_n hx hb (kdr dgX3_ones_0 0 7 rfl rfl) rfl (lv_at hl 1 rfl) ?_
        refine lv_iload_n hx hb (kdr dgX3_ones_0 0 8 rfl rfl) rfl (lv_at hl 0 rfl) ?_
        refine lv_iload_n hx hb (kdr dgX3_ones_0 0 9 rfl rfl) rfl (lv_at hl 2 rfl) ?_
        refine lv_ishr hx hb (kdr dgX3_ones_0 1 0 rfl rfl) ?_
        refine lv_iconst (v := 1) hx hb (kdr dgX3_ones_0 1 1 rfl rfl) (by decide) ?_
        refine lv_iand hx hb (kdr dgX3_ones_0 1 2 rfl rfl) ?_
        refine lv_iadd hx hb (kdr dgX3_ones_0 1 3 rfl rfl) ?_
        refine lv_istore_n (lv' := (kvI 1 (x1 + ((x0 >>> (x2 &&& 31)) &&& 1)) (kvI 0 x0 (kvI 2 x2 kvE)))) hx hb (kdr dgX3_ones_0 1 4 rfl rfl) rfl hl (by decide) rfl (fun ls hl => ?_)
        refine lv_iinc (v := x2 + 1) (lv' := (kvI 2 (x2 + 1) (kvI 1 (x1 + ((x0 >>> (x2 &&& 31)) &&& 1)) (kvI 0 x0 kvE)))) hx hb (kdr dgX3_ones_0 1 5 rfl rfl) hl (k := 2) rfl rfl (by decide) rfl (fun ls hl => ?_)
        refine lv_goto (tgt := 4) hx hb (kdr dgX3_ones_0 1 6 rfl rfl) (by decide) ?_
        exact ih x0 (x1 + ((x0 >>> (x2 &&& 31)) &&& 1)) (x2 + 1) _ _ hP hD hS ls (lv_sub hl [2, 1, 0] rfl) h
  have h := f_X3_ones_e.symm.trans hf
  refine lv_iconst (v := 0) hx hb (kdr dgX3_ones_0 0 0 rfl rfl) (by decide) ?_
  refine lv_istore_n (lv' := (kvI 1 0 (kvI 0 p0 kvE))) hx hb (kdr dgX3_ones_0 0 1 rfl rfl) rfl hl (by decide) rfl (fun ls hl => ?_)
  refine lv_iconst (v := 0) hx hb (kdr dgX3_ones_0 0 2 rfl rfl) (by decide) ?_
  refine lv_istore_n (lv' := (kvI 2 0 (kvI 1 0 (kvI 0 p0 kvE)))) hx hb (kdr dgX3_ones_0 0 3 rfl rfl) rfl hl (by decide) rfl (fun ls hl => ?_)
  exact J4 40 p0 0 0 _ _ hP hD hS ls (lv_sub hl [2, 1, 0] rfl) h
noncomputable abbrev wsX3_mostOfAll : List Cond := kWs yX3_mostOfAll cX3_mostOfAll 3 (some .int)
noncomputable def f_X3_mostOfAll_4 : Nat → (Nat → Int64) → (Nat → Int64) → (Int32) → (Int32) → (Int32) → Option (Int32)
  | 0, _, _, _, _, _ => none
  | n + 1, mwb, mwe, mwi, x1, x2 =>
    if (1 <<< (mwi &&& 31)) ≤ x2 then
      some x1
    else
      (f_X3_areApart mwb mwe mwi x2).bind fun r2 =>
      if r2 = 0 then
        f_X3_mostOfAll_4 n mwb mwe mwi x1 (x2 + 1)
      else
        (f_X3_ones x2).bind fun r4 =>
        f_X3_mostOfAll_4 n mwb mwe mwi (if x1 < r4 then r4 else x1) (x2 + 1)
theorem f_X3_mostOfAll_4_0 {mwb : Nat → Int64} {mwe : Nat → Int64} {mwi : Int32} {x1 : Int32} {x2 : Int32} : f_X3_mostOfAll_4 0 mwb mwe mwi x1 x2 = none := rfl
theorem f_X3_mostOfAll_4_s {n : Nat} {mwb : Nat → Int64} {mwe : Nat → Int64} {mwi : Int32} {x1 : Int32} {x2 : Int32} : f_X3_mostOfAll_4 (n + 1) mwb mwe mwi x1 x2 =
  if (1 <<< (mwi &&& 31)) ≤ x2 then
    some x1
  else
    (f_X3_areApart mwb mwe mwi x2).bind fun r2 =>
    if r2 = 0 then
      f_X3_mostOfAll_4 n mwb mwe mwi x1 (x2 + 1)
    else
      (f_X3_ones x2).bind fun r4 =>
      f_X3_mostOfAll_4 n mwb mwe mwi (if x1 < r4 then r4 else x1) (x2 + 1) := rfl
noncomputable def f_X3_mostOfAll (mwb : Nat → Int64) (mwe : Nat → Int64) (mwi : Int32) : Option (Int32) :=
  f_X3_mostOfAll_4 300 mwb mwe mwi 0 0
theorem f_X3_mostOfAll_e {mwb : Nat → Int64} {mwe : Nat → Int64} {mwi : Int32} : f_X3_mostOfAll mwb mwe mwi = 
  f_X3_mostOfAll_4 300 mwb mwe mwi 0 0 := rfl
set_option maxHeartbeats 4000000 in
set_option maxRecDepth 100000 in
theorem c_X3_mostOfAll (l : Launch) (dC : Nat → ClassId) (dI : Nat → Nat → Nat) (cB cI cJ cZ : ClassId) (b : Nat → Nat) (sz : Nat) (mce : Nat → Int64) (mfr : Int64) (mun : Int64) (mbe : Nat → Int64) (men : Nat → Int64) (mov : Nat → Int32) (msp : Int32) (mwb : Nat → Int64) (mwe : Nat → Int64) (mwi : Int32) (mac : Int32) (mre : Int32) (mkn : Int32) (mth : Int32) (res : Int32) (hf : f_X3_mostOfAll mwb mwe mwi = some res) : kMi l yX3_mostOfAll wsX3_mostOfAll (kRm 3 0 0 72) dC dI cB cI cJ cZ [.ref (b 0)] sz (wMo cJ cZ b mce mfr mun mbe men mov msp mwb mwe mwi mac mre mkn mth) .int (res) (wMo cJ cZ b mce mfr mun mbe men mov msp mwb mwe mwi mac mre mkn mth) 0 0 := by
  refine kmet_i (y := yX3_mostOfAll) (cc := cX3_mostOfAll) (maxL := 3) (ret := (some .int)) RX3 (kvA 0 (b 0) kvE) kpl_X3 rfl rfl (Nat.le_of_ble_eq_true rfl) rfl (fun p e s m below meth c A ls hx hb hr hml hts hown hlocks hP hK hG hD hA hS hl => ?_)
  have hw0 := hts (.fieldLink RX3 88 "SpanbookerModel" "wishes" "I") (List.mem_cons_of_mem _ kw_1081)
  have hw1 := hts (.methodLink RX3 74 Lib.Math.max.name) (List.mem_cons_of_mem _ kw_1351)
  have hw2 := hts (.static Lib.Math.max.name) (List.mem_cons_of_mem _ kw_176)
  have hw3 := hts (.initialized "java/lang/Math") (List.mem_cons_of_mem _ kw_66)
  have hw4 := hts (.code Lib.Math.max.name Lib.Math.max.code 2 (some .int)) (List.mem_cons_of_mem _ kw_177)
  have hiX3 : ∀ w ∈ u_ws RX3 TX3 14, w ∈ wsX3_mostOfAll := fun w h => List.mem_cons_of_mem _ (ku_X3 w h)
  have J4 : ∀ (n : Nat), ∀ (mce : Nat → Int64) (mfr : Int64) (mun : Int64) (mbe : Nat → Int64) (men : Nat → Int64) (mov : Nat → Int32) (msp : Int32) (mwb : Nat → Int64) (mwe : Nat → Int64) (mwi : Int32) (mac : Int32) (mre : Int32) (mkn : Int32) (mth : Int32) (x1 : Int32) (x2 : Int32) (H : Heap) (locs : List Loc), va_P (dC, dI) vwCl (wMo cJ cZ b mce mfr mun mbe men mov msp mwb mwe mwi mac mre mkn mth) H → va_D A (wMo cJ cZ b mce mfr mun mbe men mov msp mwb mwe mwi mac mre mkn mth) → va_S A s.heap H locs → ∀ (ls : Array Slot), lv_has ls 3 (kvA 0 (b 0) (kvI 1 x1 (kvI 2 x2 kvE))) → f_X3_mostOfAll_4 n mwb mwe mwi x1 x2 = some res → W p l e (headSpec wsX3_mostOfAll (kRm 3 0 0 72)).room s m ([.ref (b 0)] : List Value).toArray below meth c H locs 0 0 (MQ below (kI (dC, dI) .int (res) (wMo cJ cZ b mce mfr mun mbe men mov msp mwb mwe mwi mac mre mkn mth) A) ([.ref (b 0)] : List Value).toArray s 0 0 A) (F0 m 4 ls []) := by
    intro n
    induction n with
    | zero =>
      intro mce mfr mun mbe men mov msp mwb mwe mwi mac mre mkn mth x1 x2 H locs hP hD hS ls hl h
      have h := f_X3_mostOfAll_4_0.symm.trans h
      cases h
    | succ n ih =>
      intro mce mfr mun mbe men mov msp mwb mwe mwi mac mre mkn mth x1 x2 H locs hP hD hS ls hl h
      have h := f_X3_mostOfAll_4_s.symm.trans h
      refine lv_iload_n hx hb (kdr dgX3_mostOfAll_0 0 4 rfl rfl) rfl (lv_at hl 2 rfl) ?_
      refine lv_iconst (v := 1) hx hb (kdr dgX3_mostOfAll_0 0 5 rfl rfl) (by decide) ?_
      refine lv_aload_n hx hb (kdr dgX3_mostOfAll_0 0 6 rfl rfl) rfl (lv_at hl 0 rfl) ?_
      refine va_get (D := (dC, dI)) (ci := 5) (v := .int mwi) (C := RX3) (T := TX3) (N := 14) hx hb hts hiX3 hown hK hP 0 rfl rfl 9 (by decide) hw0 (fun _ h9 => h9) rfl (kdr dgX3_mostOfAll_0 0 7 rfl rfl) ?_
      refine lv_ishl hx hb (kdr dgX3_mostOfAll_0 0 8 rfl rfl) ?_
      refine lv_icmp_ge (tgt := 37) hx hb (kdr dgX3_mostOfAll_0 0 9 rfl rfl) (by decide) (fun c1 => ?_) (fun c1 => ?_)
      · have h := g_t c1 h
        refine lv_iload_n hx hb (kdr dgX3_mostOfAll_0 2 1 rfl rfl) rfl (lv_at hl 1 rfl) ?_
        have h := Option.some.inj h
        subst h
        exact kret_i (v := x1) hx hb hr rfl hlocks hS hP (kdr dgX3_mostOfAll_0 2 2 rfl rfl)
      · have h := g_f c1 h
        refine lv_aload_n hx hb (kdr dgX3_mostOfAll_0 1 0 rfl rfl) rfl (lv_at hl 0 rfl) ?_
        refine lv_iload_n hx hb (kdr dgX3_mostOfAll_0 1 1 rfl rfl) rfl (lv_at hl 2 rfl) ?_
        obtain ⟨r2, g2, h⟩ := g_b h
        refine kq_i (wMo cJ cZ b mce mfr mun mbe men mov msp mwb mwe mwi mac mre mkn mth) (fun qP qD qF => va_runV (As := [.int x2]) (rest := []) ⟨hx, hb, hml, hown, hts⟩ (c_X3_areApart l dC dI cB cI cJ cZ b _ mce mfr mun mbe men mov msp mwb mwe mwi mac mre mkn mth x2 r2 g2) (kcwV hts kw_1399 kv_X3_areApart rfl rfl ⟨(Nat.le_of_ble_eq_true rfl), (Nat.le_of_ble_eq_true rfl)⟩) (kpV (A := A) qP hK qD hG (krecv_5 (q0 := 0) hK hP rfl)) rfl rfl hl.1 rfl (lv_room (Nat.le_of_ble_eq_true rfl)) (kdr dgX3_mostOfAll_0 1 2 rfl rfl) ⟨(Nat.le_of_ble_eq_true rfl), (Nat.le_of_ble_eq_true rfl)⟩) hP hD hS hA kFr_Mo (fun H locs hP hD hS br2 => ?_)
        refine lv_if_eq (tgt := 31) hx hb (kdr dgX3_mostOfAll_0 1 3 rfl rfl) (by decide) (fun c3 => ?_) (fun c3 => ?_)
        · have h := g_t c3 h
          refine lv_iinc (v := x2 + 1) (lv' := (kvI 2 (x2 + 1) (kvA 0 (b 0) (kvI 1 x1 kvE)))) hx hb (kdr dgX3_mostOfAll_0 1 9 rfl rfl) hl (k := 2) rfl rfl (by decide) rfl (fun ls hl => ?_)
          refine lv_goto (tgt := 4) hx hb (kdr dgX3_mostOfAll_0 2 0 rfl rfl) (by decide) ?_
          exact ih mce mfr mun mbe men mov msp mwb mwe mwi mac mre mkn mth x1 (x2 + 1) _ _ hP hD hS ls (lv_sub hl [1, 2, 0] rfl) h
        · have h := g_f c3 h
          refine lv_iload_n hx hb (kdr dgX3_mostOfAll_0 1 4 rfl rfl) rfl (lv_at hl 1 rfl) ?_
          refine lv_iload_n hx hb (kdr dgX3_mostOfAll_0 1 5 rfl rfl) rfl (lv_at hl 2 rfl) ?_
          obtain ⟨r4, g4, h⟩ := g_b h
          refine kq_i (wMo cJ cZ b mce mfr mun mbe men mov msp mwb mwe mwi mac mre mkn mth) (fun qP qD qF => va_runS (As := [.int x2]) (rest := [.int x1]) ⟨hx, hb, hml, hown, hts⟩ (c_X3_ones l dC dI cB cI cJ cZ  _  x2 r4 g4) (kcwS hts kw_1419 kv_X3_ones rfl rfl ⟨(Nat.le_of_ble_eq_true rfl), (Nat.le_of_ble_eq_true rfl)⟩) (kpS (A := A) (kPnil) hK ((kDnil (A := A))) hG) rfl rfl hl.1 rfl (lv_room (Nat.le_of_ble_eq_true rfl)) (kdr dgX3_mostOfAll_0 1 6 rfl rfl) ⟨(Nat.le_of_ble_eq_true rfl), (Nat.le_of_ble_eq_true rfl)⟩) hP hD hS hA kFr_n (fun H locs hP hD hS br4 => ?_)
          refine va_mmax hx hb (hml.trans hl.1.symm) hown hw1 hw2 hw3 hw4 (Nat.le_of_ble_eq_true rfl) (Nat.le_of_ble_eq_true rfl) (Nat.le_of_ble_eq_true rfl) (Nat.le_of_ble_eq_true rfl) (kdr dgX3_mostOfAll_0 1 7 rfl rfl) ?_
          refine lv_istore_n (lv' := (kvI 1 (if x1 < r4 then r4 else x1) (kvA 0 (b 0) (kvI 2 x2 kvE)))) hx hb (kdr dgX3_mostOfAll_0 1 8 rfl rfl) rfl hl (by decide) rfl (fun ls hl => ?_)
          refine lv_iinc (v := x2 + 1) (lv' := (kvI 2 (x2 + 1) (kvI 1 (if x1 < r4 then r4 else x1) (kvA 0 (b 0) kvE)))) hx hb (kdr dgX3_mostOfAll_0 1 9 rfl rfl) hl (k := 2) rfl rfl (by decide) rfl (fun ls hl => ?_)
          refine lv_goto (tgt := 4) hx hb (kdr dgX3_mostOfAll_0 2 0 rfl rfl) (by decide) ?_
          exact ih mce mfr mun mbe men mov msp mwb mwe mwi mac mre mkn mth (if x1 < r4 then r4 else x1) (x2 + 1) _ _ hP hD hS ls (lv_sub hl [2, 1, 0] rfl) h
  have h := f_X3_mostOfAll_e.symm.trans hf
  refine lv_iconst (v := 0) hx hb (kdr dgX3_mostOfAll_0 0 0 rfl rfl) (by decide) ?_
  refine lv_istore_n (lv' := (kvI 1 0 (kvA 0 (b 0) kvE))) hx hb (kdr dgX3_mostOfAll_0 0 1 rfl rfl) rfl hl (by decide) rfl (fun ls hl => ?_)
  refine lv_iconst (v := 0) hx hb (kdr dgX3_mostOfAll_0 0 2 rfl rfl) (by decide) ?_
  refine lv_istore_n (lv' := (kvI 2 0 (kvI 1 0 (kvA 0 (b 0) kvE)))) hx hb (kdr dgX3_mostOfAll_0 0 3 rfl rfl) rfl hl (by decide) rfl (fun ls hl => ?_)
  exact J4 300 mce mfr mun mbe men mov msp mwb mwe mwi mac mre mkn mth 0 0 _ _ hP hD hS ls (lv_sub hl [2, 1, 0] rfl) h
noncomputable abbrev wsX3_nextWish : List Cond := kWs yX3_nextWish cX3_nextWish 4 (some .int)
noncomputable def f_X3_nextWish_4 (n0 : Nat) : Nat → (Nat → Int64) → (Int32) → (Nat → Int32) → (Int32) → (Int32) → Option (Int32)
  | 0, _, _, _, _, _ => none
  | n + 1, mwb, mwi, v0, x2, x3 =>
    if mwi ≤ x3 then
      some x2
    else
      if ix x3 n0 then
        if 0 ≤ (v0 x3.toNatClampNeg) then
          f_X3_nextWish_4 n0 n mwb mwi v0 x2 (x3 + 1)
        else
          if x2 < 0 then
            f_X3_nextWish_4 n0 n mwb mwi v0 x3 (x3 + 1)
          else
            if ix x3 8 then
              if ix x2 8 then
                if (mwb x2.toNatClampNeg) ≤ (mwb x3.toNatClampNeg) then
                  f_X3_nextWish_4 n0 n mwb mwi v0 x2 (x3 + 1)
                else
                  f_X3_nextWish_4 n0 n mwb mwi v0 x3 (x3 + 1)
              else none
            else none
      else none
theorem f_X3_nextWish_4_0 {n0 : Nat} {mwb : Nat → Int64} {mwi : Int32} {v0 : Nat → Int32} {x2 : Int32} {x3 : Int32} : f_X3_nextWish_4 n0 0 mwb mwi v0 x2 x3 = none := rfl
theorem f_X3_nextWish_4_s {n0 : Nat} {n : Nat} {mwb : Nat → Int64} {mwi : Int32} {v0 : Nat → Int32} {x2 : Int32} {x3 : Int32} : f_X3_nextWish_4 n0 (n + 1) mwb mwi v0 x2 x3 =
  if mwi ≤ x3 then
    some x2
  else
    if ix x3 n0 then
      if 0 ≤ (v0 x3.toNatClampNeg) then
        f_X3_nextWish_4 n0 n mwb mwi v0 x2 (x3 + 1)
      else
        if x2 < 0 then
          f_X3_nextWish_4 n0 n mwb mwi v0 x3 (x3 + 1)
        else
          if ix x3 8 then
            if ix x2 8 then
              if (mwb x2.toNatClampNeg) ≤ (mwb x3.toNatClampNeg) then
                f_X3_nextWish_4 n0 n mwb mwi v0 x2 (x3 + 1)
              else
                f_X3_nextWish_4 n0 n mwb mwi v0 x3 (x3 + 1)
            else none
          else none
    else none := rfl
noncomputable def f_X3_nextWish (n0 : Nat) (mwb : Nat → Int64) (mwi : Int32) (v0 : Nat → Int32) : Option (Int32) :=
  f_X3_nextWish_4 n0 24 mwb mwi v0 (-1) 0
theorem f_X3_nextWish_e {n0 : Nat} {mwb : Nat → Int64} {mwi : Int32} {v0 : Nat → Int32} : f_X3_nextWish n0 mwb mwi v0 = 
  f_X3_nextWish_4 n0 24 mwb mwi v0 (-1) 0 := rfl
set_option maxHeartbeats 4000000 in
set_option maxRecDepth 100000 in
theorem c_X3_nextWish (l : Launch) (dC : Nat → ClassId) (dI : Nat → Nat → Nat) (cB cI cJ cZ : ClassId) (b : Nat → Nat) (q0 : Nat) (n0 : Nat) (sz : Nat) (mce : Nat → Int64) (mfr : Int64) (mun : Int64) (mbe : Nat → Int64) (men : Nat → Int64) (mov : Nat → Int32) (msp : Int32) (mwb : Nat → Int64) (mwe : Nat → Int64) (mwi : Int32) (mac : Int32) (mre : Int32) (mkn : Int32) (mth : Int32) (v0 : Nat → Int32) (res : Int32) (hf : f_X3_nextWish n0 mwb mwi v0 = some res) : kMi l yX3_nextWish wsX3_nextWish (kRm 0 0 0 0) dC dI cB cI cJ cZ [.ref (b 0), .ref q0] sz ((wMo cJ cZ b mce mfr mun mbe men mov msp mwb mwe mwi mac mre mkn mth) ++ [(q0, .inl (cI, n0, .inl v0))]) .int (res) ((wMo cJ cZ b mce mfr mun mbe men mov msp mwb mwe mwi mac mre mkn mth) ++ [(q0, .inl (cI, n0, .inl v0))]) 0 0 := by
  refine kmet_i (y := yX3_nextWish) (cc := cX3_nextWish) (maxL := 4) (ret := (some .int)) RX3 (kvA 0 (b 0) (kvA 1 q0 kvE)) kpl_X3 rfl rfl (Nat.le_of_ble_eq_true rfl) rfl (fun p e s m below meth c A ls hx hb hr hml hts hown hlocks hP hK hG hD hA hS hl => ?_)
  have hw0 := hts (.fieldLink RX3 88 "SpanbookerModel" "wishes" "I") (List.mem_cons_of_mem _ kw_1081)
  have hw1 := hts (.fieldLink RX3 29 "SpanbookerModel" "wishBegins" "[J") (List.mem_cons_of_mem _ kw_1079)
  have hiX3 : ∀ w ∈ u_ws RX3 TX3 14, w ∈ wsX3_nextWish := fun w h => List.mem_cons_of_mem _ (ku_X3 w h)
  have J4 : ∀ (n : Nat), ∀ (mce : Nat → Int64) (mfr : Int64) (mun : Int64) (mbe : Nat → Int64) (men : Nat → Int64) (mov : Nat → Int32) (msp : Int32) (mwb : Nat → Int64) (mwe : Nat → Int64) (mwi : Int32) (mac : Int32) (mre : Int32) (mkn : Int32) (mth : Int32) (v0 : Nat → Int32) (x2 : Int32) (x3 : Int32) (H : Heap) (locs : List Loc), va_P (dC, dI) vwCl ((wMo cJ cZ b mce mfr mun mbe men mov msp mwb mwe mwi mac mre mkn mth) ++ [(q0, .inl (cI, n0, .inl v0))]) H → va_D A ((wMo cJ cZ b mce mfr mun mbe men mov msp mwb mwe mwi mac mre mkn mth) ++ [(q0, .inl (cI, n0, .inl v0))]) → va_S A s.heap H locs → ∀ (ls : Array Slot), lv_has ls 4 (kvA 0 (b 0) (kvA 1 q0 (kvI 2 x2 (kvI 3 x3 kvE)))) → f_X3_nextWish_4 n0 n mwb mwi v0 x2 x3 = some res → W p l e (headSpec wsX3_nextWish (kRm 0 0 0 0)).room s m ([.ref (b 0), .ref q0] : List Value).toArray below meth c H locs 0 0 (MQ below (kI (dC, dI) .int (res) ((wMo cJ cZ b mce mfr mun mbe men mov msp mwb mwe mwi mac mre mkn mth) ++ [(q0, .inl (cI, n0, .inl v0))]) A) ([.ref (b 0), .ref q0] : List Value).toArray s 0 0 A) (F0 m 4 ls []) := by
    intro n
    induction n with
    | zero =>
      intro mce mfr mun mbe men mov msp mwb mwe mwi mac mre mkn mth v0 x2 x3 H locs hP hD hS ls hl h
      have h := f_X3_nextWish_4_0.symm.trans h
      cases h
    | succ n ih =>
      intro mce mfr mun mbe men mov msp mwb mwe mwi mac mre mkn mth v0 x2 x3 H locs hP hD hS ls hl h
      have h := f_X3_nextWish_4_s.symm.trans h
      refine lv_iload_n hx hb (kdr dgX3_nextWish_0 0 4 rfl rfl) rfl (lv_at hl 3 rfl) ?_
      refine lv_aload_n hx hb (kdr dgX3_nextWish_0 0 5 rfl rfl) rfl (lv_at hl 0 rfl) ?_
      refine va_get (D := (dC, dI)) (ci := 5) (v := .int mwi) (C := RX3) (T := TX3) (N := 14) hx hb hts hiX3 hown hK hP 0 rfl rfl 9 (by decide) hw0 (fun _ h9 => h9) rfl (kdr dgX3_nextWish_0 0 6 rfl rfl) ?_
      refine lv_icmp_ge (tgt := 46) hx hb (kdr dgX3_nextWish_0 0 7 rfl rfl) (by decide) (fun c1 => ?_) (fun c1 => ?_)
      · have h := g_t c1 h
        refine lv_iload_n hx hb (kdr dgX3_nextWish_0 2 8 rfl rfl) rfl (lv_at hl 2 rfl) ?_
        have h := Option.some.inj h
        subst h
        exact kret_i (v := x2) hx hb hr rfl hlocks hS hP (kdr dgX3_nextWish_0 2 9 rfl rfl)
      · have h := g_f c1 h
        refine lv_aload_n hx hb (kdr dgX3_nextWish_0 0 8 rfl rfl) rfl (lv_at hl 1 rfl) ?_
        refine lv_iload_n hx hb (kdr dgX3_nextWish_0 0 9 rfl rfl) rfl (lv_at hl 3 rfl) ?_
        obtain ⟨z1, h⟩ := g_if h
        refine va_iald hx hb hK hP 7 1 rfl rfl (ix_in z1) (kdr dgX3_nextWish_0 1 0 rfl rfl) ?_
        refine lv_if_ge (tgt := 40) hx hb (kdr dgX3_nextWish_0 1 1 rfl rfl) (by decide) (fun c3 => ?_) (fun c3 => ?_)
        · have h := g_t c3 h
          refine lv_iinc (v := x3 + 1) (lv' := (kvI 3 (x3 + 1) (kvA 0 (b 0) (kvA 1 q0 (kvI 2 x2 kvE))))) hx hb (kdr dgX3_nextWish_0 2 6 rfl rfl) hl (k := 3) rfl rfl (by decide) rfl (fun ls hl => ?_)
          refine lv_goto (tgt := 4) hx hb (kdr dgX3_nextWish_0 2 7 rfl rfl) (by decide) ?_
          exact ih mce mfr mun mbe men mov msp mwb mwe mwi mac mre mkn mth v0 x2 (x3 + 1) _ _ hP hD hS ls (lv_sub hl [1, 2, 3, 0] rfl) h
        · have h := g_f c3 h
          refine lv_iload_n hx hb (kdr dgX3_nextWish_0 1 2 rfl rfl) rfl (lv_at hl 2 rfl) ?_
          refine lv_if_lt (tgt := 38) hx hb (kdr dgX3_nextWish_0 1 3 rfl rfl) (by decide) (fun c4 => ?_) (fun c4 => ?_)
          · have h := g_t c4 h
            refine lv_iload_n hx hb (kdr dgX3_nextWish_0 2 4 rfl rfl) rfl (lv_at hl 3 rfl) ?_
            refine lv_istore_n (lv' := (kvI 2 x3 (kvA 0 (b 0) (kvA 1 q0 (kvI 3 x3 kvE))))) hx hb (kdr dgX3_nextWish_0 2 5 rfl rfl) rfl hl (by decide) rfl (fun ls hl => ?_)
            refine lv_iinc (v := x3 + 1) (lv' := (kvI 3 (x3 + 1) (kvI 2 x3 (kvA 0 (b 0) (kvA 1 q0 kvE))))) hx hb (kdr dgX3_nextWish_0 2 6 rfl rfl) hl (k := 3) rfl rfl (by decide) rfl (fun ls hl => ?_)
            refine lv_goto (tgt := 4) hx hb (kdr dgX3_nextWish_0 2 7 rfl rfl) (by decide) ?_
            exact ih mce mfr mun mbe men mov msp mwb mwe mwi mac mre mkn mth v0 x3 (x3 + 1) _ _ hP hD hS ls (lv_sub hl [2, 3, 1, 0] rfl) h
          · have h := g_f c4 h
            refine lv_aload_n hx hb (kdr dgX3_nextWish_0 1 4 rfl rfl) rfl (lv_at hl 0 rfl) ?_
            refine va_get (D := (dC, dI)) (ci := 5) (v := .ref (b 5)) (C := RX3) (T := TX3) (N := 14) hx hb hts hiX3 hown hK hP 0 rfl rfl 7 (by decide) hw1 (fun _ h9 => h9) rfl (kdr dgX3_nextWish_0 1 5 rfl rfl) ?_
            refine lv_iload_n hx hb (kdr dgX3_nextWish_0 1 6 rfl rfl) rfl (lv_at hl 3 rfl) ?_
            obtain ⟨z4, h⟩ := g_if h
            refine va_lald hx hb hK hP 5 2 rfl rfl (ix_in z4) (kdr dgX3_nextWish_0 1 7 rfl rfl) ?_
            refine lv_aload_n hx hb (kdr dgX3_nextWish_0 1 8 rfl rfl) rfl (lv_at hl 0 rfl) ?_
            refine va_get (D := (dC, dI)) (ci := 5) (v := .ref (b 5)) (C := RX3) (T := TX3) (N := 14) hx hb hts hiX3 hown hK hP 0 rfl rfl 7 (by decide) hw1 (fun _ h9 => h9) rfl (kdr dgX3_nextWish_0 1 9 rfl rfl) ?_
            refine lv_iload_n hx hb (kdr dgX3_nextWish_0 2 0 rfl rfl) rfl (lv_at hl 2 rfl) ?_
            obtain ⟨z5, h⟩ := g_if h
            refine va_lald hx hb hK hP 5 2 rfl rfl (ix_in z5) (kdr dgX3_nextWish_0 2 1 rfl rfl) ?_
            refine kl_ge (pc := 34) (tgt := 40) hx hb (kdr dgX3_nextWish_0 2 2 rfl rfl) (kdr dgX3_nextWish_0 2 3 rfl rfl) (by decide) (fun c7 => ?_) (fun c7 => ?_)
            · have h := g_t c7 h
              refine lv_iinc (v := x3 + 1) (lv' := (kvI 3 (x3 + 1) (kvA 0 (b 0) (kvA 1 q0 (kvI 2 x2 kvE))))) hx hb (kdr dgX3_nextWish_0 2 6 rfl rfl) hl (k := 3) rfl rfl (by decide) rfl (fun ls hl => ?_)
              refine lv_goto (tgt := 4) hx hb (kdr dgX3_nextWish_0 2 7 rfl rfl) (by decide) ?_
              exact ih mce mfr mun mbe men mov msp mwb mwe mwi mac mre mkn mth v0 x2 (x3 + 1) _ _ hP hD hS ls (lv_sub hl [1, 2, 3, 0] rfl) h
            · have h := g_f c7 h
              refine lv_iload_n hx hb (kdr dgX3_nextWish_0 2 4 rfl rfl) rfl (lv_at hl 3 rfl) ?_
              refine lv_istore_n (lv' := (kvI 2 x3 (kvA 0 (b 0) (kvA 1 q0 (kvI 3 x3 kvE))))) hx hb (kdr dgX3_nextWish_0 2 5 rfl rfl) rfl hl (by decide) rfl (fun ls hl => ?_)
              refine lv_iinc (v := x3 + 1) (lv' := (kvI 3 (x3 + 1) (kvI 2 x3 (kvA 0 (b 0) (kvA 1 q0 kvE))))) hx hb (kdr dgX3_nextWish_0 2 6 rfl rfl) hl (k := 3) rfl rfl (by decide) rfl (fun ls hl => ?_)
              refine lv_goto (tgt := 4) hx hb (kdr dgX3_nextWish_0 2 7 rfl rfl) (by decide) ?_
              exact ih mce mfr mun mbe men mov msp mwb mwe mwi mac mre mkn mth v0 x3 (x3 + 1) _ _ hP hD hS ls (lv_sub hl [2, 3, 1, 0] rfl) h
  have h := f_X3_nextWish_e.symm.trans hf
  refine lv_iconst (v := (-1)) hx hb (kdr dgX3_nextWish_0 0 0 rfl rfl) (by decide) ?_
  refine lv_istore_n (lv' := (kvI 2 (-1) (kvA 0 (b 0) (kvA 1 q0 kvE)))) hx hb (kdr dgX3_nextWish_0 0 1 rfl rfl) rfl hl (by decide) rfl (fun ls hl => ?_)
  refine lv_iconst (v := 0) hx hb (kdr dgX3_nextWish_0 0 2 rfl rfl) (by decide) ?_
  refine lv_istore_n (lv' := (kvI 3 0 (kvI 2 (-1) (kvA 0 (b 0) (kvA 1 q0 kvE))))) hx hb (kdr dgX3_nextWish_0 0 3 rfl rfl) rfl hl (by decide) rfl (fun ls hl => ?_)
  exact J4 24 mce mfr mun mbe men mov msp mwb mwe mwi mac mre mkn mth v0 (-1) 0 _ _ hP hD hS ls (lv_sub hl [2, 3, 1, 0] rfl) h
noncomputable abbrev wsX3_roomsNow : List Cond := kWs yX3_roomsNow cX3_roomsNow 5 (some (.array .int))
noncomputable def f_X3_roomsNow_42 (K33 : (Nat → Int64) → (Nat → Int64) → (Int32) → (Nat → Int32) → (Int32) → Option (Nat → Int32)) : Nat → (Nat → Int64) → (Nat → Int64) → (Int32) → (Nat → Int32) → (Int32) → (Int32) → (Int32) → Option (Nat → Int32)
  | 0, _, _, _, _, _, _, _ => none
  | n + 1, mwb, mwe, mwi, ext0, x2, x3, x4 =>
    if mwi ≤ x4 then
      if ix x2 mwi.toNatClampNeg then
        (f_X3_nextWish mwi.toNatClampNeg mwb mwi (upd ext0 x2.toNatClampNeg x3)).bind fun r3 =>
        K33 mwb mwe mwi (upd ext0 x2.toNatClampNeg x3) r3
      else none
    else
      if ix x4 mwi.toNatClampNeg then
        if (ext0 x4.toNatClampNeg) = x3 then
          (f_X3_wishesMeet mwb mwe x2 x4).bind fun r4 =>
          if r4 = 0 then
            f_X3_roomsNow_42 K33 n mwb mwe mwi ext0 x2 x3 (x4 + 1)
          else
            f_X3_roomsNow_42 K33 n mwb mwe mwi ext0 x2 (x3 + 1) ((-1) + 1)
        else
          f_X3_roomsNow_42 K33 n mwb mwe mwi ext0 x2 x3 (x4 + 1)
      else none
theorem f_X3_roomsNow_42_0 {K33 : (Nat → Int64) → (Nat → Int64) → (Int32) → (Nat → Int32) → (Int32) → Option (Nat → Int32)} {mwb : Nat → Int64} {mwe : Nat → Int64} {mwi : Int32} {ext0 : Nat → Int32} {x2 : Int32} {x3 : Int32} {x4 : Int32} : f_X3_roomsNow_42 K33 0 mwb mwe mwi ext0 x2 x3 x4 = none := rfl
theorem f_X3_roomsNow_42_s {K33 : (Nat → Int64) → (Nat → Int64) → (Int32) → (Nat → Int32) → (Int32) → Option (Nat → Int32)} {n : Nat} {mwb : Nat → Int64} {mwe : Nat → Int64} {mwi : Int32} {ext0 : Nat → Int32} {x2 : Int32} {x3 : Int32} {x4 : Int32} : f_X3_roomsNow_42 K33 (n + 1) mwb mwe mwi ext0 x2 x3 x4 =
  if mwi ≤ x4 then
    if ix x2 mwi.toNatClampNeg then
      (f_X3_nextWish mwi.toNatClampNeg mwb mwi (upd ext0 x2.toNatClampNeg x3)).bind fun r3 =>
      K33 mwb mwe mwi (upd ext0 x2.toNatClampNeg x3) r3
    else none
  else
    if ix x4 mwi.toNatClampNeg then
      if (ext0 x4.toNatClampNeg) = x3 then
        (f_X3_wishesMeet mwb mwe x2 x4).bind fun r4 =>
        if r4 = 0 then
          f_X3_roomsNow_42 K33 n mwb mwe mwi ext0 x2 x3 (x4 + 1)
        else
          f_X3_roomsNow_42 K33 n mwb mwe mwi ext0 x2 (x3 + 1) ((-1) + 1)
      else
        f_X3_roomsNow_42 K33 n mwb mwe mwi ext0 x2 x3 (x4 + 1)
    else none := rfl
noncomputable def f_X3_roomsNow_33 : Nat → (Nat → Int64) → (Nat → Int64) → (Int32) → (Nat → Int32) → (Int32) → Option (Nat → Int32)
  | 0, _, _, _, _, _ => none
  | n + 1, mwb, mwe, mwi, ext0, x2 =>
    if x2 < 0 then
      some ext0
    else
      f_X3_roomsNow_42 (f_X3_roomsNow_33 n) 120 mwb mwe mwi ext0 x2 0 0
theorem f_X3_roomsNow_33_0 {mwb : Nat → Int64} {mwe : Nat → Int64} {mwi : Int32} {ext0 : Nat → Int32} {x2 : Int32} : f_X3_roomsNow_33 0 mwb mwe mwi ext0 x2 = none := rfl
theorem f_X3_roomsNow_33_s {n : Nat} {mwb : Nat → Int64} {mwe : Nat → Int64} {mwi : Int32} {ext0 : Nat → Int32} {x2 : Int32} : f_X3_roomsNow_33 (n + 1) mwb mwe mwi ext0 x2 =
  if x2 < 0 then
    some ext0
  else
    f_X3_roomsNow_42 (f_X3_roomsNow_33 n) 120 mwb mwe mwi ext0 x2 0 0 := rfl
noncomputable def f_X3_roomsNow_9 : Nat → (Nat → Int64) → (Nat → Int64) → (Int32) → (Nat → Int32) → (Int32) → Option (Nat → Int32)
  | 0, _, _, _, _, _ => none
  | n + 1, mwb, mwe, mwi, ext0, x2 =>
    if mwi ≤ x2 then
      (f_X3_nextWish mwi.toNatClampNeg mwb mwi ext0).bind fun r2 =>
      f_X3_roomsNow_33 24 mwb mwe mwi ext0 r2
    else
      if ix x2 mwi.toNatClampNeg then
        f_X3_roomsNow_9 n mwb mwe mwi (upd ext0 x2.toNatClampNeg (-1)) (x2 + 1)
      else none
theorem f_X3_roomsNow_9_0 {mwb : Nat → Int64} {mwe : Nat → Int64} {mwi : Int32} {ext0 : Nat → Int32} {x2 : Int32} : f_X3_roomsNow_9 0 mwb mwe mwi ext0 x2 = none := rfl
theorem f_X3_roomsNow_9_s {n : Nat} {mwb : Nat → Int64} {mwe : Nat → Int64} {mwi : Int32} {ext0 : Nat → Int32} {x2 : Int32} : f_X3_roomsNow_9 (n + 1) mwb mwe mwi ext0 x2 =
  if mwi ≤ x2 then
    (f_X3_nextWish mwi.toNatClampNeg mwb mwi ext0).bind fun r2 =>
    f_X3_roomsNow_33 24 mwb mwe mwi ext0 r2
  else
    if ix x2 mwi.toNatClampNeg then
      f_X3_roomsNow_9 n mwb mwe mwi (upd ext0 x2.toNatClampNeg (-1)) (x2 + 1)
    else none := rfl
noncomputable def f_X3_roomsNow (mwb : Nat → Int64) (mwe : Nat → Int64) (mwi : Int32) : Option (Nat → Int32) :=
  if ix mwi 17 then
    f_X3_roomsNow_9 24 mwb mwe mwi (fun _ => 0) 0
  else none
theorem f_X3_roomsNow_e {mwb : Nat → Int64} {mwe : Nat → Int64} {mwi : Int32} : f_X3_roomsNow mwb mwe mwi = 
  if ix mwi 17 then
    f_X3_roomsNow_9 24 mwb mwe mwi (fun _ => 0) 0
  else none := rfl
set_option maxHeartbeats 4000000 in
set_option maxRecDepth 100000 in
theorem c_X3_roomsNow (l : Launch) (dC : Nat → ClassId) (dI : Nat → Nat → Nat) (cB cI cJ cZ : ClassId) (b : Nat → Nat) (sz : Nat) (mce : Nat → Int64) (mfr : Int64) (mun : Int64) (mbe : Nat → Int64) (men : Nat → Int64) (mov : Nat → Int32) (msp : Int32) (mwb : Nat → Int64) (mwe : Nat → Int64) (mwi : Int32) (mac : Int32) (mre : Int32) (mkn : Int32) (mth : Int32) (res : Nat → Int32) (hf : f_X3_roomsNow mwb mwe mwi = some res) : Met l yX3_roomsNow wsX3_roomsNow (kRm 2 1 16 49) (kPre (dC, dI) (kTy cB cI cJ cZ) [.ref (b 0)] sz (wMo cJ cZ b mce mfr mun mbe men mov msp mwb mwe mwi mac mre mkn mth)) (kR (dC, dI) (.inl (cI, mwi.toNatClampNeg, .inl (res))) (wMo cJ cZ b mce mfr mun mbe men mov msp mwb mwe mwi mac mre mkn mth) (va_A (wMo cJ cZ b mce mfr mun mbe men mov msp mwb mwe mwi mac mre mkn mth) sz)) 1 16 (va_A (wMo cJ cZ b mce mfr mun mbe men mov msp mwb mwe mwi mac mre mkn mth) sz) := by
  refine Met.ofW (cc := cX3_roomsNow) (maxL := 5) (ret := (some (.array .int))) (by decide) rfl ?_
  intro p e s m args below meth c s₁ B hml hv
  obtain ⟨rfl, hsz, hP, hK, hD0, hG⟩ := hv
  have hx := B.exec
  have hb := B.bytes
  have hr := B.returns
  have hts := atoms_spec (ws := wsX3_roomsNow) B.pre
  have hown : s.vm.findClass RX3 = some m.cls := findClass_of_methodNamed B.named
  have hlocks := B.notSynchronized
  subst hsz
  have hD := hD0.self (sz := s.heap.size)
  generalize hAe : va_A (wMo cJ cZ b mce mfr mun mbe men mov msp mwb mwe mwi mac mre mkn mth) s.heap.size = A at hD ⊢
  have hA : ∀ q : Nat, s.heap.size ≤ q → A q := fun q h => by rw [← hAe]; exact Or.inr h
  have hS : va_S A s.heap s.heap [] := va_S.rf
  clear hAe
  have hw0 := hts (.fieldLink RX3 88 "SpanbookerModel" "wishes" "I") (List.mem_cons_of_mem _ kw_1081)
  have hw1 := hts (.arrayClass .int) (List.mem_cons_of_mem _ kw_138)
  have hiX3 : ∀ w ∈ u_ws RX3 TX3 14, w ∈ wsX3_roomsNow := fun w h => List.mem_cons_of_mem _ (ku_X3 w h)
  have J42 : ∀ (K33 : (Nat → Int64) → (Nat → Int64) → (Int32) → (Nat → Int32) → (Int32) → Option (Nat → Int32)), (∀ (mce : Nat → Int64) (mfr : Int64) (mun : Int64) (mbe : Nat → Int64) (men : Nat → Int64) (mov : Nat → Int32) (msp : Int32) (mwb : Nat → Int64) (mwe : Nat → Int64) (mwi : Int32) (mac : Int32) (mre : Int32) (mkn : Int32) (mth : Int32) (ext0 : Nat → Int32) (x2 : Int32) (qn0 : Nat) (H : Heap) (locs : List Loc), va_P (dC, dI) vwCl ((wMo cJ cZ b mce mfr mun mbe men mov msp mwb mwe mwi mac mre mkn mth) ++ [(qn0, .inl (cI, mwi.toNatClampNeg, .inl ext0))]) H → va_D A ((wMo cJ cZ b mce mfr mun mbe men mov msp mwb mwe mwi mac mre mkn mth) ++ [(qn0, .inl (cI, mwi.toNatClampNeg, .inl ext0))]) → va_S A s.heap H locs → ∀ (ls : Array Slot), lv_has ls 5 (kvA 0 (b 0) (kvA 1 qn0 (kvI 2 x2 kvE))) → K33 mwb mwe mwi ext0 x2 = some res → W p l e (headSpec wsX3_roomsNow (kRm 2 1 16 49)).room s m ([.ref (b 0)] : List Value).toArray below meth c H locs 1 16 (MQ below (kR (dC, dI) (.inl (cI, mwi.toNatClampNeg, .inl (res))) (wMo cJ cZ b mce mfr mun mbe men mov msp mwb mwe mwi mac mre mkn mth) A) ([.ref (b 0)] : List Value).toArray s 1 16 A) (F0 m 33 ls [])) → ∀ (n : Nat), ∀ (mce : Nat → Int64) (mfr : Int64) (mun : Int64) (mbe : Nat → Int64) (men : Nat → Int64) (mov : Nat → Int32) (msp : Int32) (mwb : Nat → Int64) (mwe : Nat → Int64) (mwi : Int32) (mac : Int32) (mre : Int32) (mkn : Int32) (mth : Int32) (ext0 : Nat → Int32) (x2 : Int32) (x3 : Int32) (x4 : Int32) (qn0 : Nat) (H : Heap) (locs : List Loc), va_P (dC, dI) vwCl ((wMo cJ cZ b mce mfr mun mbe men mov msp mwb mwe mwi mac mre mkn mth) ++ [(qn0, .inl (cI, mwi.toNatClampNeg, .inl ext0))]) H → va_D A ((wMo cJ cZ b mce mfr mun mbe men mov msp mwb mwe mwi mac mre mkn mth) ++ [(qn0, .inl (cI, mwi.toNatClampNeg, .inl ext0))]) → va_S A s.heap H locs → ∀ (ls : Array Slot), lv_has ls 5 (kvA 0 (b 0) (kvA 1 qn0 (kvI 2 x2 (kvI 3 x3 (kvI 4 x4 kvE))))) → f_X3_roomsNow_42 K33 n mwb mwe mwi ext0 x2 x3 x4 = some res → W p l e (headSpec wsX3_roomsNow (kRm 2 1 16 49)).room s m ([.ref (b 0)] : List Value).toArray below meth c H locs 1 16 (MQ below (kR (dC, dI) (.inl (cI, mwi.toNatClampNeg, .inl (res))) (wMo cJ cZ b mce mfr mun mbe men mov msp mwb mwe mwi mac mre mkn mth) A) ([.ref (b 0)] : List Value).toArray s 1 16 A) (F0 m 42 ls []) := by
    intro K33 hK33 n
    induction n with
    | zero =>
      intro mce mfr mun mbe men mov msp mwb mwe mwi mac mre mkn mth ext0 x2 x3 x4 qn0 H locs hP hD hS ls hl h
      have h := f_X3_roomsNow_42_0.symm.trans h
      cases h
    | succ n ih =>
      intro mce mfr mun mbe men mov msp mwb mwe mwi mac mre mkn mth ext0 x2 x3 x4 qn0 H locs hP hD hS ls hl h
      have h := f_X3_roomsNow_42_s.symm.trans h
      refine lv_iload hx hb (kdr dgX3_roomsNow_6 2 3 rfl rfl) (lv_at hl 4 rfl) ?_
      refine lv_aload_n hx hb (kdr dgX3_roomsNow_6 2 4 rfl rfl) rfl (lv_at hl 0 rfl) ?_
      refine va_get (D := (dC, dI)) (ci := 5) (v := .int mwi) (C := RX3) (T := TX3) (N := 14) hx hb hts hiX3 hown hK hP 0 rfl rfl 9 (by decide) hw0 (fun _ h9 => h9) rfl (kdr dgX3_roomsNow_6 2 5 rfl rfl) ?_
      refine lv_icmp_ge (tgt := 81) hx hb (kdr dgX3_roomsNow_6 2 6 rfl rfl) (by decide) (fun c1 => ?_) (fun c1 => ?_)
      · have h := g_t c1 h
        refine lv_aload_n hx hb (kdr dgX3_roomsNow_6 4 2 rfl rfl) rfl (lv_at hl 1 rfl) ?_
        refine lv_iload_n hx hb (kdr dgX3_roomsNow_6 4 3 rfl rfl) rfl (lv_at hl 2 rfl) ?_
        refine lv_iload_n hx hb (kdr dgX3_roomsNow_6 4 4 rfl rfl) rfl (lv_at hl 3 rfl) ?_
        obtain ⟨z1, h⟩ := g_if h
        refine va_iast hx hb hK hP hD hS 7 1 rfl rfl (ix_in z1) (kdr dgX3_roomsNow_6 4 5 rfl rfl) (fun H locs hP hD hS => ?_)
        have hP : va_P (dC, dI) vwCl ((wMo cJ cZ b mce mfr mun mbe men mov msp mwb mwe mwi mac mre mkn mth) ++ [(qn0, .inl (cI, mwi.toNatClampNeg, .inl (upd ext0 x2.toNatClampNeg x3)))]) H := hP
        have hD : va_D A ((wMo cJ cZ b mce mfr mun mbe men mov msp mwb mwe mwi mac mre mkn mth) ++ [(qn0, .inl (cI, mwi.toNatClampNeg, .inl (upd ext0 x2.toNatClampNeg x3)))]) := hD
        refine lv_aload_n hx hb (kdr dgX3_roomsNow_6 4 6 rfl rfl) rfl (lv_at hl 0 rfl) ?_
        refine lv_aload_n hx hb (kdr dgX3_roomsNow_6 4 7 rfl rfl) rfl (lv_at hl 1 rfl) ?_
        obtain ⟨r3, g3, h⟩ := g_b h
        refine kq_i ((wMo cJ cZ b mce mfr mun mbe men mov msp mwb mwe mwi mac mre mkn mth) ++ [(qn0, .inl (cI, mwi.toNatClampNeg, .inl (upd ext0 x2.toNatClampNeg x3)))]) (fun qP qD qF => va_runV (As := [.ref qn0]) (rest := []) ⟨hx, hb, hml, hown, hts⟩ (c_X3_nextWish l dC dI cB cI cJ cZ b qn0 mwi.toNatClampNeg _ mce mfr mun mbe men mov msp mwb mwe mwi mac mre mkn mth (upd ext0 x2.toNatClampNeg x3)  r3 g3) (kcwV hts kw_1438 kv_X3_nextWish rfl rfl ⟨(Nat.le_of_ble_eq_true rfl), (Nat.le_of_ble_eq_true rfl)⟩) (kpV (A := A) qP hK qD hG (krecv_5 (q0 := 0) hK hP rfl)) rfl rfl hl.1 rfl (lv_room (Nat.le_of_ble_eq_true rfl)) (kdr dgX3_roomsNow_6 4 8 rfl rfl) ⟨(Nat.le_of_ble_eq_true rfl), (Nat.le_of_ble_eq_true rfl)⟩) hP hD hS hA (kFr_2 kFr_Mo kFr_o) (fun H locs hP hD hS br3 => ?_)
        refine lv_istore_n (lv' := (kvI 2 r3 (kvA 0 (b 0) (kvA 1 qn0 (kvI 3 x3 (kvI 4 x4 kvE)))))) hx hb (kdr dgX3_roomsNow_6 4 9 rfl rfl) rfl hl (by decide) rfl (fun ls hl => ?_)
        refine lv_goto (tgt := 33) hx hb (kdr dgX3_roomsNow_6 5 0 rfl rfl) (by decide) ?_
        exact hK33 mce mfr mun mbe men mov msp mwb mwe mwi mac mre mkn mth (upd ext0 x2.toNatClampNeg x3) r3 qn0 _ _ hP hD hS ls (lv_sub hl [1, 2, 0] rfl) h
      · have h := g_f c1 h
        refine lv_aload_n hx hb (kdr dgX3_roomsNow_6 2 7 rfl rfl) rfl (lv_at hl 1 rfl) ?_
        refine lv_iload hx hb (kdr dgX3_roomsNow_6 2 8 rfl rfl) (lv_at hl 4 rfl) ?_
        obtain ⟨z1, h⟩ := g_if h
        refine va_iald hx hb hK hP 7 1 rfl rfl (ix_in z1) (kdr dgX3_roomsNow_6 2 9 rfl rfl) ?_
        refine lv_iload_n hx hb (kdr dgX3_roomsNow_6 3 0 rfl rfl) rfl (lv_at hl 3 rfl) ?_
        refine lv_icmp_ne (tgt := 75) hx hb (kdr dgX3_roomsNow_6 3 1 rfl rfl) (by decide) (fun c3 => ?_) (fun c3 => ?_)
        · have h := g_f c3 h
          refine lv_iinc (v := x4 + 1) (lv' := (kvI 4 (x4 + 1) (kvA 0 (b 0) (kvA 1 qn0 (kvI 2 x2 (kvI 3 x3 kvE)))))) hx hb (kdr dgX3_roomsNow_6 4 0 rfl rfl) hl (k := 4) rfl rfl (by decide) rfl (fun ls hl => ?_)
          refine lv_goto (tgt := 42) hx hb (kdr dgX3_roomsNow_6 4 1 rfl rfl) (by decide) ?_
          exact ih mce mfr mun mbe men mov msp mwb mwe mwi mac mre mkn mth ext0 x2 x3 (x4 + 1) qn0 _ _ hP hD hS ls (lv_sub hl [1, 2, 3, 4, 0] rfl) h
        · have h := g_t c3 h
          refine lv_aload_n hx hb (kdr dgX3_roomsNow_6 3 2 rfl rfl) rfl (lv_at hl 0 rfl) ?_
          refine lv_iload_n hx hb (kdr dgX3_roomsNow_6 3 3 rfl rfl) rfl (lv_at hl 2 rfl) ?_
          refine lv_iload hx hb (kdr dgX3_roomsNow_6 3 4 rfl rfl) (lv_at hl 4 rfl) ?_
          obtain ⟨r4, g4, h⟩ := g_b h
          refine kq_i ((wMo cJ cZ b mce mfr mun mbe men mov msp mwb mwe mwi mac mre mkn mth) ++ [(qn0, .inl (cI, mwi.toNatClampNeg, .inl ext0))]) (fun qP qD qF => va_runV (As := [.int x2, .int x4]) (rest := []) ⟨hx, hb, hml, hown, hts⟩ (c_X3_wishesMeet l dC dI cB cI cJ cZ b _ mce mfr mun mbe men mov msp mwb mwe mwi mac mre mkn mth x2 x4 r4 g4) (kcwV hts kw_1403 kv_X3_wishesMeet rfl rfl ⟨(Nat.le_of_ble_eq_true rfl), (Nat.le_of_ble_eq_true rfl)⟩) (kpV (A := A) qP hK qD hG (krecv_5 (q0 := 0) hK hP rfl)) rfl rfl hl.1 rfl (lv_room (Nat.le_of_ble_eq_true rfl)) (kdr dgX3_roomsNow_6 3 5 rfl rfl) ⟨(Nat.le_of_ble_eq_true rfl), (Nat.le_of_ble_eq_true rfl)⟩) hP hD hS hA (kFr_l kFr_Mo) (fun H locs hP hD hS br4 => ?_)
          refine lv_if_eq (tgt := 75) hx hb (kdr dgX3_roomsNow_6 3 6 rfl rfl) (by decide) (fun c5 => ?_) (fun c5 => ?_)
          · have h := g_t c5 h
            refine lv_iinc (v := x4 + 1) (lv' := (kvI 4 (x4 + 1) (kvA 0 (b 0) (kvA 1 qn0 (kvI 2 x2 (kvI 3 x3 kvE)))))) hx hb (kdr dgX3_roomsNow_6 4 0 rfl rfl) hl (k := 4) rfl rfl (by decide) rfl (fun ls hl => ?_)
            refine lv_goto (tgt := 42) hx hb (kdr dgX3_roomsNow_6 4 1 rfl rfl) (by decide) ?_
            exact ih mce mfr mun mbe men mov msp mwb mwe mwi mac mre mkn mth ext0 x2 x3 (x4 + 1) qn0 _ _ hP hD hS ls (lv_sub hl [1, 2, 3, 4, 0] rfl) h
          · have h := g_f c5 h
            refine lv_iinc (v := x3 + 1) (lv' := (kvI 3 (x3 + 1) (kvA 0 (b 0) (kvA 1 qn0 (kvI 2 x2 (kvI 4 x4 kvE)))))) hx hb (kdr dgX3_roomsNow_6 3 7 rfl rfl) hl (k := 3) rfl rfl (by decide) rfl (fun ls hl => ?_)
            refine lv_iconst (v := (-1)) hx hb (kdr dgX3_roomsNow_6 3 8 rfl rfl) (by decide) ?_
            refine lv_istore (lv' := (kvI 4 (-1) (kvI 3 (x3 + 1) (kvA 0 (b 0) (kvA 1 qn0 (kvI 2 x2 kvE)))))) hx hb (kdr dgX3_roomsNow_6 3 9 rfl rfl) hl (by decide) rfl (fun ls hl => ?_)
            refine lv_iinc (v := (-1) + 1) (lv' := (kvI 4 ((-1) + 1) (kvI 3 (x3 + 1) (kvA 0 (b 0) (kvA 1 qn0 (kvI 2 x2 kvE)))))) hx hb (kdr dgX3_roomsNow_6 4 0 rfl rfl) hl (k := 0) rfl rfl (by decide) rfl (fun ls hl => ?_)
            refine lv_goto (tgt := 42) hx hb (kdr dgX3_roomsNow_6 4 1 rfl rfl) (by decide) ?_
            exact ih mce mfr mun mbe men mov msp mwb mwe mwi mac mre mkn mth ext0 x2 (x3 + 1) ((-1) + 1) qn0 _ _ hP hD hS ls (lv_sub hl [2, 3, 4, 1, 0] rfl) h
  have J33 : ∀ (n : Nat), ∀ (mce : Nat → Int64) (mfr : Int64) (mun : Int64) (mbe : Nat → Int64) (men : Nat → Int64) (mov : Nat → Int32) (msp : Int32) (mwb : Nat → Int64) (mwe : Nat → Int64) (mwi : Int32) (mac : Int32) (mre : Int32) (mkn : Int32) (mth : Int32) (ext0 : Nat → Int32) (x2 : Int32) (qn0 : Nat) (H : Heap) (locs : List Loc), va_P (dC, dI) vwCl ((wMo cJ cZ b mce mfr mun mbe men mov msp mwb mwe mwi mac mre mkn mth) ++ [(qn0, .inl (cI, mwi.toNatClampNeg, .inl ext0))]) H → va_D A ((wMo cJ cZ b mce mfr mun mbe men mov msp mwb mwe mwi mac mre mkn mth) ++ [(qn0, .inl (cI, mwi.toNatClampNeg, .inl ext0))]) → va_S A s.heap H locs → ∀ (ls : Array Slot), lv_has ls 5 (kvA 0 (b 0) (kvA 1 qn0 (kvI 2 x2 kvE))) → f_X3_roomsNow_33 n mwb mwe mwi ext0 x2 = some res → W p l e (headSpec wsX3_roomsNow (kRm 2 1 16 49)).room s m ([.ref (b 0)] : List Value).toArray below meth c H locs 1 16 (MQ below (kR (dC, dI) (.inl (cI, mwi.toNatClampNeg, .inl (res))) (wMo cJ cZ b mce mfr mun mbe men mov msp mwb mwe mwi mac mre mkn mth) A) ([.ref (b 0)] : List Value).toArray s 1 16 A) (F0 m 33 ls []) := by
    intro n
    induction n with
    | zero =>
      intro mce mfr mun mbe men mov msp mwb mwe mwi mac mre mkn mth ext0 x2 qn0 H locs hP hD hS ls hl h
      have h := f_X3_roomsNow_33_0.symm.trans h
      cases h
    | succ n ih =>
      intro mce mfr mun mbe men mov msp mwb mwe mwi mac mre mkn mth ext0 x2 qn0 H locs hP hD hS ls hl h
      have h := f_X3_roomsNow_33_s.symm.trans h
      refine lv_iload_n hx hb (kdr dgX3_roomsNow_6 1 7 rfl rfl) rfl (lv_at hl 2 rfl) ?_
      refine lv_if_lt (tgt := 94) hx hb (kdr dgX3_roomsNow_6 1 8 rfl rfl) (by decide) (fun c1 => ?_) (fun c1 => ?_)
      · have h := g_t c1 h
        refine lv_aload_n hx hb (kdr dgX3_roomsNow_6 5 1 rfl rfl) rfl (lv_at hl 1 rfl) ?_
        have h := Option.some.inj h
        subst h
        refine W.widen (k := 1) (n := 16) (Nat.le_of_ble_eq_true rfl) (Nat.le_of_ble_eq_true rfl) ?_
        exact kret_r (q := qn0) hx hb hr (Or.inr ⟨_, rfl⟩) hlocks hS hP hD (kdr dgX3_roomsNow_6 5 2 rfl rfl)
      · have h := g_f c1 h
        refine lv_iconst (v := 0) hx hb (kdr dgX3_roomsNow_6 1 9 rfl rfl) (by decide) ?_
        refine lv_istore_n (lv' := (kvI 3 0 (kvA 0 (b 0) (kvA 1 qn0 (kvI 2 x2 kvE))))) hx hb (kdr dgX3_roomsNow_6 2 0 rfl rfl) rfl hl (by decide) rfl (fun ls hl => ?_)
        refine lv_iconst (v := 0) hx hb (kdr dgX3_roomsNow_6 2 1 rfl rfl) (by decide) ?_
        refine lv_istore (lv' := (kvI 4 0 (kvI 3 0 (kvA 0 (b 0) (kvA 1 qn0 (kvI 2 x2 kvE)))))) hx hb (kdr dgX3_roomsNow_6 2 2 rfl rfl) hl (by decide) rfl (fun ls hl => ?_)
        exact J42 (f_X3_roomsNow_33 n) ih 120 mce mfr mun mbe men mov msp mwb mwe mwi mac mre mkn mth ext0 x2 0 0 qn0 _ _ hP hD hS ls (lv_sub hl [2, 3, 4, 1, 0] rfl) h
  have J9 : ∀ (n : Nat), ∀ (mce : Nat → Int64) (mfr : Int64) (mun : Int64) (mbe : Nat → Int64) (men : Nat → Int64) (mov : Nat → Int32) (msp : Int32) (mwb : Nat → Int64) (mwe : Nat → Int64) (mwi : Int32) (mac : Int32) (mre : Int32) (mkn : Int32) (mth : Int32) (ext0 : Nat → Int32) (x2 : Int32) (qn0 : Nat) (H : Heap) (locs : List Loc), va_P (dC, dI) vwCl ((wMo cJ cZ b mce mfr mun mbe men mov msp mwb mwe mwi mac mre mkn mth) ++ [(qn0, .inl (cI, mwi.toNatClampNeg, .inl ext0))]) H → va_D A ((wMo cJ cZ b mce mfr mun mbe men mov msp mwb mwe mwi mac mre mkn mth) ++ [(qn0, .inl (cI, mwi.toNatClampNeg, .inl ext0))]) → va_S A s.heap H locs → ∀ (ls : Array Slot), lv_has ls 5 (kvA 0 (b 0) (kvA 1 qn0 (kvI 2 x2 kvE))) → f_X3_roomsNow_9 n mwb mwe mwi ext0 x2 = some res → W p l e (headSpec wsX3_roomsNow (kRm 2 1 16 49)).room s m ([.ref (b 0)] : List Value).toArray below meth c H locs 1 16 (MQ below (kR (dC, dI) (.inl (cI, mwi.toNatClampNeg, .inl (res))) (wMo cJ cZ b mce mfr mun mbe men mov msp mwb mwe mwi mac mre mkn mth) A) ([.ref (b 0)] : List Value).toArray s 1 16 A) (F0 m 9 ls []) := by
    intro n
    induction n with
    | zero =>
      intro mce mfr mun mbe men mov msp mwb mwe mwi mac mre mkn mth ext0 x2 qn0 H locs hP hD hS ls hl h
      have h := f_X3_roomsNow_9_0.symm.trans h
      cases h
    | succ n ih =>
      intro mce mfr mun mbe men mov msp mwb mwe mwi mac mre mkn mth ext0 x2 qn0 H locs hP hD hS ls hl h
      have h := f_X3_roomsNow_9_s.symm.trans h
      refine lv_iload_n hx hb (kdr dgX3_roomsNow_6 0 3 rfl rfl) rfl (lv_at hl 2 rfl) ?_
      refine lv_aload_n hx hb (kdr dgX3_roomsNow_6 0 4 rfl rfl) rfl (lv_at hl 0 rfl) ?_
      refine va_get (D := (dC, dI)) (ci := 5) (v := .int mwi) (C := RX3) (T := TX3) (N := 14) hx hb hts hiX3 hown hK hP 0 rfl rfl 9 (by decide) hw0 (fun _ h9 => h9) rfl (kdr dgX3_roomsNow_6 0 5 rfl rfl) ?_
      refine lv_icmp_ge (tgt := 27) hx hb (kdr dgX3_roomsNow_6 0 6 rfl rfl) (by decide) (fun c1 => ?_) (fun c1 => ?_)
      · have h := g_t c1 h
        refine lv_aload_n hx hb (kdr dgX3_roomsNow_6 1 3 rfl rfl) rfl (lv_at hl 0 rfl) ?_
        refine lv_aload_n hx hb (kdr dgX3_roomsNow_6 1 4 rfl rfl) rfl (lv_at hl 1 rfl) ?_
        obtain ⟨r2, g2, h⟩ := g_b h
        refine kq_i ((wMo cJ cZ b mce mfr mun mbe men mov msp mwb mwe mwi mac mre mkn mth) ++ [(qn0, .inl (cI, mwi.toNatClampNeg, .inl ext0))]) (fun qP qD qF => va_runV (As := [.ref qn0]) (rest := []) ⟨hx, hb, hml, hown, hts⟩ (c_X3_nextWish l dC dI cB cI cJ cZ b qn0 mwi.toNatClampNeg _ mce mfr mun mbe men mov msp mwb mwe mwi mac mre mkn mth ext0  r2 g2) (kcwV hts kw_1438 kv_X3_nextWish rfl rfl ⟨(Nat.le_of_ble_eq_true rfl), (Nat.le_of_ble_eq_true rfl)⟩) (kpV (A := A) qP hK qD hG (krecv_5 (q0 := 0) hK hP rfl)) rfl rfl hl.1 rfl (lv_room (Nat.le_of_ble_eq_true rfl)) (kdr dgX3_roomsNow_6 1 5 rfl rfl) ⟨(Nat.le_of_ble_eq_true rfl), (Nat.le_of_ble_eq_true rfl)⟩) hP hD hS hA (kFr_2 kFr_Mo kFr_o) (fun H locs hP hD hS br2 => ?_)
        refine lv_istore_n (lv' := (kvI 2 r2 (kvA 0 (b 0) (kvA 1 qn0 kvE)))) hx hb (kdr dgX3_roomsNow_6 1 6 rfl rfl) rfl hl (by decide) rfl (fun ls hl => ?_)
        exact J33 24 mce mfr mun mbe men mov msp mwb mwe mwi mac mre mkn mth ext0 r2 qn0 _ _ hP hD hS ls (lv_sub hl [1, 2, 0] rfl) h
      · have h := g_f c1 h
        refine lv_aload_n hx hb (kdr dgX3_roomsNow_6 0 7 rfl rfl) rfl (lv_at hl 1 rfl) ?_
        refine lv_iload_n hx hb (kdr dgX3_roomsNow_6 0 8 rfl rfl) rfl (lv_at hl 2 rfl) ?_
        refine lv_iconst (v := (-1)) hx hb (kdr dgX3_roomsNow_6 0 9 rfl rfl) (by decide) ?_
        obtain ⟨z1, h⟩ := g_if h
        refine va_iast hx hb hK hP hD hS 7 1 rfl rfl (ix_in z1) (kdr dgX3_roomsNow_6 1 0 rfl rfl) (fun H locs hP hD hS => ?_)
        have hP : va_P (dC, dI) vwCl ((wMo cJ cZ b mce mfr mun mbe men mov msp mwb mwe mwi mac mre mkn mth) ++ [(qn0, .inl (cI, mwi.toNatClampNeg, .inl (upd ext0 x2.toNatClampNeg (-1))))]) H := hP
        have hD : va_D A ((wMo cJ cZ b mce mfr mun mbe men mov msp mwb mwe mwi mac mre mkn mth) ++ [(qn0, .inl (cI, mwi.toNatClampNeg, .inl (upd ext0 x2.toNatClampNeg (-1))))]) := hD
        refine lv_iinc (v := x2 + 1) (lv' := (kvI 2 (x2 + 1) (kvA 0 (b 0) (kvA 1 qn0 kvE)))) hx hb (kdr dgX3_roomsNow_6 1 1 rfl rfl) hl (k := 2) rfl rfl (by decide) rfl (fun ls hl => ?_)
        refine lv_goto (tgt := 9) hx hb (kdr dgX3_roomsNow_6 1 2 rfl rfl) (by decide) ?_
        exact ih mce mfr mun mbe men mov msp mwb mwe mwi mac mre mkn mth (upd ext0 x2.toNatClampNeg (-1)) (x2 + 1) qn0 _ _ hP hD hS ls (lv_sub hl [1, 2, 0] rfl) h
  have hl := lv_entry ([.ref (b 0)]) (n := 5) (Nat.le_of_ble_eq_true rfl)
  rw [lg_entry_eq]
  generalize (lg_sl ([.ref (b 0)]) ++ List.replicate (5 - (lg_sl ([.ref (b 0)])).length) Slot.unset).toArray = ls at hl ⊢
  have hl : lv_has ls 5 (kvA 0 (b 0) kvE) := hl
  have h := f_X3_roomsNow_e.symm.trans hf
  refine lv_aload_n hx hb (kdr dgX3_roomsNow_0 0 0 rfl rfl) rfl (lv_at hl 0 rfl) ?_
  refine va_get (D := (dC, dI)) (ci := 5) (v := .int mwi) (C := RX3) (T := TX3) (N := 14) hx hb hts hiX3 hown hK hP 0 rfl rfl 9 (by decide) hw0 (fun _ h9 => h9) rfl (kdr dgX3_roomsNow_0 0 1 rfl rfl) ?_
  obtain ⟨z0, h⟩ := g_if h
  refine va_newa (atype := .int) (ty := .int) (a0 := (mwi.toNatClampNeg, .inl (fun _ => 0))) hx hb hw1 rfl hK hP hD hS hA (fun _ => rfl) (kn_pos z0) rfl (kn_by z0 (by decide)) (Nat.le_of_ble_eq_true rfl) (kn_slg z0 (Nat.le_of_ble_eq_true rfl)) dX3_roomsNow_4 (fun qn0 cA H hK9 hP hD hS => ?_)
  have e9 : cA = cI := k_cA hK9 1 rfl
  rw [e9] at hP hD
  have hP : va_P (dC, dI) vwCl ((wMo cJ cZ b mce mfr mun mbe men mov msp mwb mwe mwi mac mre mkn mth) ++ [(qn0, .inl (cI, mwi.toNatClampNeg, .inl (fun _ => 0)))]) H := hP
  have hD : va_D A ((wMo cJ cZ b mce mfr mun mbe men mov msp mwb mwe mwi mac mre mkn mth) ++ [(qn0, .inl (cI, mwi.toNatClampNeg, .inl (fun _ => 0)))]) := hD
  refine W.widen (k := 1) (n := 16) (Nat.le_of_ble_eq_true rfl) (kn_slg z0 (Nat.le_of_ble_eq_true rfl)) ?_
  refine lv_astore_n (lv' := (kvA 1 qn0 (kvA 0 (b 0) kvE))) hx hb (kdr dgX3_roomsNow_6 0 0 rfl rfl) rfl hl (by decide) rfl (fun ls hl => ?_)
  refine lv_iconst (v := 0) hx hb (kdr dgX3_roomsNow_6 0 1 rfl rfl) (by decide) ?_
  refine lv_istore_n (lv' := (kvI 2 0 (kvA 1 qn0 (kvA 0 (b 0) kvE)))) hx hb (kdr dgX3_roomsNow_6 0 2 rfl rfl) rfl hl (by decide) rfl (fun ls hl => ?_)
  exact J9 24 mce mfr mun mbe men mov msp mwb mwe mwi mac mre mkn mth (fun _ => 0) 0 qn0 _ _ hP hD hS ls (lv_sub hl [2, 1, 0] rfl) h
noncomputable abbrev wsX3_roomsOf : List Cond := kWs yX3_roomsOf cX3_roomsOf 6 (some .int)
noncomputable def f_X3_roomsOf_13 : Nat → (Int32) → (Nat → Int32) → (Int32) → (Int32) → (Int32) → Option (Int32)
  | 0, _, _, _, _, _ => none
  | n + 1, mwi, ext0, x1, x3, x4 =>
    if x3 ≤ x4 then
      some x1
    else
      if ix x4 mwi.toNatClampNeg then
        f_X3_roomsOf_13 n mwi ext0 (if x1 < ((ext0 x4.toNatClampNeg) + 1) then (ext0 x4.toNatClampNeg) + 1 else x1) x3 (x4 + 1)
      else none
theorem f_X3_roomsOf_13_0 {mwi : Int32} {ext0 : Nat → Int32} {x1 : Int32} {x3 : Int32} {x4 : Int32} : f_X3_roomsOf_13 0 mwi ext0 x1 x3 x4 = none := rfl
theorem f_X3_roomsOf_13_s {n : Nat} {mwi : Int32} {ext0 : Nat → Int32} {x1 : Int32} {x3 : Int32} {x4 : Int32} : f_X3_roomsOf_13 (n + 1) mwi ext0 x1 x3 x4 =
  if x3 ≤ x4 then
    some x1
  else
    if ix x4 mwi.toNatClampNeg then
      f_X3_roomsOf_13 n mwi ext0 (if x1 < ((ext0 x4.toNatClampNeg) + 1) then (ext0 x4.toNatClampNeg) + 1 else x1) x3 (x4 + 1)
    else none := rfl
noncomputable def f_X3_roomsOf (mwb : Nat → Int64) (mwe : Nat → Int64) (mwi : Int32) : Option (Int32) :=
  (f_X3_roomsNow mwb mwe mwi).bind fun r1 =>
  f_X3_roomsOf_13 24 mwi r1 0 (Int32.ofNat mwi.toNatClampNeg) 0
theorem f_X3_roomsOf_e {mwb : Nat → Int64} {mwe : Nat → Int64} {mwi : Int32} : f_X3_roomsOf mwb mwe mwi = 
  (f_X3_roomsNow mwb mwe mwi).bind fun r1 =>
  f_X3_roomsOf_13 24 mwi r1 0 (Int32.ofNat mwi.toNatClampNeg) 0 := rfl
set_option maxHeartbeats 4000000 in
set_option maxRecDepth 100000 in
theorem c_X3_roomsOf (l : Launch) (dC : Nat → ClassId) (dI : Nat → Nat → Nat) (cB cI cJ cZ : ClassId) (b : Nat → Nat) (sz : Nat) (mce : Nat → Int64) (mfr : Int64) (mun : Int64) (mbe : Nat → Int64) (men : Nat → Int64) (mov : Nat → Int32) (msp : Int32) (mwb : Nat → Int64) (mwe : Nat → Int64) (mwi : Int32) (mac : Int32) (mre : Int32) (mkn : Int32) (mth : Int32) (res : Int32) (hf : f_X3_roomsOf mwb mwe mwi = some res) : kMi l yX3_roomsOf wsX3_roomsOf (kRm 3 1 16 73) dC dI cB cI cJ cZ [.ref (b 0)] sz (wMo cJ cZ b mce mfr mun mbe men mov msp mwb mwe mwi mac mre mkn mth) .int (res) (wMo cJ cZ b mce mfr mun mbe men mov msp mwb mwe mwi mac mre mkn mth) 1 16 := by
  refine kmet_i (y := yX3_roomsOf) (cc := cX3_roomsOf) (maxL := 6) (ret := (some .int)) RX3 (kvA 0 (b 0) kvE) kpl_X3 rfl rfl (Nat.le_of_ble_eq_true rfl) rfl (fun p e s m below meth c A ls hx hb hr hml hts hown hlocks hP hK hG hD hA hS hl => ?_)
  have hw0 := hts (.methodLink RX3 74 Lib.Math.max.name) (List.mem_cons_of_mem _ kw_1351)
  have hw1 := hts (.static Lib.Math.max.name) (List.mem_cons_of_mem _ kw_176)
  have hw2 := hts (.initialized "java/lang/Math") (List.mem_cons_of_mem _ kw_66)
  have hw3 := hts (.code Lib.Math.max.name Lib.Math.max.code 2 (some .int)) (List.mem_cons_of_mem _ kw_177)
  have J13 : ∀ (n : Nat), ∀ (mce : Nat → Int64) (mfr : Int64) (mun : Int64) (mbe : Nat → Int64) (men : Nat → Int64) (mov : Nat → Int32) (msp : Int32) (mwb : Nat → Int64) (mwe : Nat → Int64) (mwi : Int32) (mac : Int32) (mre : Int32) (mkn : Int32) (mth : Int32) (ext0 : Nat → Int32) (x1 : Int32) (x3 : Int32) (x4 : Int32) (qn0 : Nat) (H : Heap) (locs : List Loc), va_P (dC, dI) vwCl ((wMo cJ cZ b mce mfr mun mbe men mov msp mwb mwe mwi mac mre mkn mth) ++ [(qn0, .inl (cI, mwi.toNatClampNeg, .inl ext0))]) H → va_D A ((wMo cJ cZ b mce mfr mun mbe men mov msp mwb mwe mwi mac mre mkn mth) ++ [(qn0, .inl (cI, mwi.toNatClampNeg, .inl ext0))]) → va_S A s.heap H locs → ∀ (ls : Array Slot), lv_has ls 6 (kvI 1 x1 (kvA 2 qn0 (kvI 3 x3 (kvI 4 x4 kvE)))) → f_X3_roomsOf_13 n mwi ext0 x1 x3 x4 = some res → W p l e (headSpec wsX3_roomsOf (kRm 3 1 16 73)).room s m ([.ref (b 0)] : List Value).toArray below meth c H locs 1 16 (MQ below (kI (dC, dI) .int (res) (wMo cJ cZ b mce mfr mun mbe men mov msp mwb mwe mwi mac mre mkn mth) A) ([.ref (b 0)] : List Value).toArray s 1 16 A) (F0 m 13 ls []) := by
    intro n
    induction n with
    | zero =>
      intro mce mfr mun mbe men mov msp mwb mwe mwi mac mre mkn mth ext0 x1 x3 x4 qn0 H locs hP hD hS ls hl h
      have h := f_X3_roomsOf_13_0.symm.trans h
      cases h
    | succ n ih =>
      intro mce mfr mun mbe men mov msp mwb mwe mwi mac mre mkn mth ext0 x1 x3 x4 qn0 H locs hP hD hS ls hl h
      have h := f_X3_roomsOf_13_s.symm.trans h
      refine lv_iload hx hb (kdr dgX3_roomsOf_0 1 0 rfl rfl) (lv_at hl 3 rfl) ?_
      refine lv_iload_n hx hb (kdr dgX3_roomsOf_0 1 1 rfl rfl) rfl (lv_at hl 2 rfl) ?_
      refine lv_icmp_ge (tgt := 40) hx hb (kdr dgX3_roomsOf_0 1 2 rfl rfl) (by decide) (fun c1 => ?_) (fun c1 => ?_)
      · have h := g_t c1 h
        refine lv_iload_n hx hb (kdr dgX3_roomsOf_0 2 5 rfl rfl) rfl (lv_at hl 0 rfl) ?_
        have hP := hP.sub (ws' := (wMo cJ cZ b mce mfr mun mbe men mov msp mwb mwe mwi mac mre mkn mth)) [0, 1, 2, 3, 4, 5, 6] rfl
        have h := Option.some.inj h
        subst h
        refine W.widen (k := 1) (n := 16) (Nat.le_of_ble_eq_true rfl) (Nat.le_of_ble_eq_true rfl) ?_
        exact kret_i (v := x1) hx hb hr rfl hlocks hS hP (kdr dgX3_roomsOf_0 2 6 rfl rfl)
      · have h := g_f c1 h
        refine lv_aload_n hx hb (kdr dgX3_roomsOf_0 1 3 rfl rfl) rfl (lv_at hl 1 rfl) ?_
        refine lv_iload hx hb (kdr dgX3_roomsOf_0 1 4 rfl rfl) (lv_at hl 3 rfl) ?_
        obtain ⟨z1, h⟩ := g_if h
        refine va_iald hx hb hK hP 7 1 rfl rfl (ix_in z1) (kdr dgX3_roomsOf_0 1 5 rfl rfl) ?_
        refine lv_istore (lv' := (kvI 5 (ext0 x4.toNatClampNeg) (kvI 1 x1 (kvA 2 qn0 (kvI 3 x3 (kvI 4 x4 kvE)))))) hx hb (kdr dgX3_roomsOf_0 1 6 rfl rfl) hl (by decide) rfl (fun ls hl => ?_)
        refine lv_iload_n hx hb (kdr dgX3_roomsOf_0 1 7 rfl rfl) rfl (lv_at hl 1 rfl) ?_
        refine lv_iload hx hb (kdr dgX3_roomsOf_0 1 8 rfl rfl) (lv_at hl 0 rfl) ?_
        refine lv_iconst (v := 1) hx hb (kdr dgX3_roomsOf_0 1 9 rfl rfl) (by decide) ?_
        refine lv_iadd hx hb (kdr dgX3_roomsOf_0 2 0 rfl rfl) ?_
        refine va_mmax hx hb (hml.trans hl.1.symm) hown hw0 hw1 hw2 hw3 (Nat.le_of_ble_eq_true rfl) (Nat.le_of_ble_eq_true rfl) (Nat.le_of_ble_eq_true rfl) (Nat.le_of_ble_eq_true rfl) (kdr dgX3_roomsOf_0 2 1 rfl rfl) ?_
        refine lv_istore_n (lv' := (kvI 1 (if x1 < ((ext0 x4.toNatClampNeg) + 1) then (ext0 x4.toNatClampNeg) + 1 else x1) (kvI 5 (ext0 x4.toNatClampNeg) (kvA 2 qn0 (kvI 3 x3 (kvI 4 x4 kvE)))))) hx hb (kdr dgX3_roomsOf_0 2 2 rfl rfl) rfl hl (by decide) rfl (fun ls hl => ?_)
        refine lv_iinc (v := x4 + 1) (lv' := (kvI 4 (x4 + 1) (kvI 1 (if x1 < ((ext0 x4.toNatClampNeg) + 1) then (ext0 x4.toNatClampNeg) + 1 else x1) (kvI 5 (ext0 x4.toNatClampNeg) (kvA 2 qn0 (kvI 3 x3 kvE)))))) hx hb (kdr dgX3_roomsOf_0 2 3 rfl rfl) hl (k := 4) rfl rfl (by decide) rfl (fun ls hl => ?_)
        refine lv_goto (tgt := 13) hx hb (kdr dgX3_roomsOf_0 2 4 rfl rfl) (by decide) ?_
        exact ih mce mfr mun mbe men mov msp mwb mwe mwi mac mre mkn mth ext0 (if x1 < ((ext0 x4.toNatClampNeg) + 1) then (ext0 x4.toNatClampNeg) + 1 else x1) x3 (x4 + 1) qn0 _ _ hP hD hS ls (lv_sub hl [1, 3, 4, 0] rfl) h
  have h := f_X3_roomsOf_e.symm.trans hf
  refine lv_iconst (v := 0) hx hb (kdr dgX3_roomsOf_0 0 0 rfl rfl) (by decide) ?_
  refine lv_istore_n (lv' := (kvI 1 0 (kvA 0 (b 0) kvE))) hx hb (kdr dgX3_roomsOf_0 0 1 rfl rfl) rfl hl (by decide) rfl (fun ls hl => ?_)
  refine lv_aload_n hx hb (kdr dgX3_roomsOf_0 0 2 rfl rfl) rfl (lv_at hl 1 rfl) ?_
  obtain ⟨r1, g1, h⟩ := g_b h
  refine kcall_r (wMo cJ cZ b mce mfr mun mbe men mov msp mwb mwe mwi mac mre mkn mth) (va_runV (As := []) (rest := []) ⟨hx, hb, hml, hown, hts⟩ (c_X3_roomsNow l dC dI cB cI cJ cZ b _ mce mfr mun mbe men mov msp mwb mwe mwi mac mre mkn mth  r1 g1) (kcwV hts kw_1434 kv_X3_roomsNow rfl rfl ⟨(Nat.le_of_ble_eq_true rfl), (Nat.le_of_ble_eq_true rfl)⟩) (kpV (A := A) (hP.sub [0, 1, 2, 3, 4, 5, 6] rfl) hK (hD.sub [0, 1, 2, 3, 4, 5, 6] (by decide) rfl) hG (krecv_5 (q0 := 0) hK hP rfl)) rfl rfl hl.1 rfl (lv_room (Nat.le_of_ble_eq_true rfl)) (kdr dgX3_roomsOf_0 0 3 rfl rfl) ⟨(Nat.le_of_ble_eq_true rfl), (Nat.le_of_ble_eq_true rfl)⟩) hP hD hS hA [0, 1, 2, 3, 4, 5, 6] [] rfl rfl [] rfl rfl rfl (by decide) rfl rfl (fun qn0 H locs hP hD hS => ?_)
  have hP : va_P (dC, dI) vwCl ((wMo cJ cZ b mce mfr mun mbe men mov msp mwb mwe mwi mac mre mkn mth) ++ [(qn0, .inl (cI, mwi.toNatClampNeg, .inl r1))]) H := hP
  have hD : va_D A ((wMo cJ cZ b mce mfr mun mbe men mov msp mwb mwe mwi mac mre mkn mth) ++ [(qn0, .inl (cI, mwi.toNatClampNeg, .inl r1))]) := hD
  refine lv_astore_n (lv' := (kvA 2 qn0 (kvI 1 0 (kvA 0 (b 0) kvE)))) hx hb (kdr dgX3_roomsOf_0 0 4 rfl rfl) rfl hl (by decide) rfl (fun ls hl => ?_)
  refine lv_aload_n hx hb (kdr dgX3_roomsOf_0 0 5 rfl rfl) rfl (lv_at hl 0 rfl) ?_
  refine va_alen (v := Int32.ofNat mwi.toNatClampNeg) hx hb hK hP 7 1 rfl rfl rfl (kdr dgX3_roomsOf_0 0 6 rfl rfl) ?_
  refine lv_istore_n (lv' := (kvI 3 (Int32.ofNat mwi.toNatClampNeg) (kvA 2 qn0 (kvI 1 0 (kvA 0 (b 0) kvE))))) hx hb (kdr dgX3_roomsOf_0 0 7 rfl rfl) rfl hl (by decide) rfl (fun ls hl => ?_)
  refine lv_iconst (v := 0) hx hb (kdr dgX3_roomsOf_0 0 8 rfl rfl) (by decide) ?_
  refine lv_istore (lv' := (kvI 4 0 (kvI 3 (Int32.ofNat mwi.toNatClampNeg) (kvA 2 qn0 (kvI 1 0 (kvA 0 (b 0) kvE)))))) hx hb (kdr dgX3_roomsOf_0 0 9 rfl rfl) hl (by decide) rfl (fun ls hl => ?_)
  exact J13 24 mce mfr mun mbe men mov msp mwb mwe mwi mac mre mkn mth r1 0 (Int32.ofNat mwi.toNatClampNeg) 0 qn0 _ _ hP hD hS ls (lv_sub hl [3, 2, 1, 0] rfl) h
noncomputable abbrev wsX3_is : List Cond := kWs yX3_is cX3_is 1 (some .boolean)
noncomputable def f_X3_is (p0 : Int32) : Option (Int32) :=
  if p0 < 0 then
    some 0
  else
    if 4 ≤ p0 then
      some 0
    else
      some 1
theorem f_X3_is_e {p0 : Int32} : f_X3_is p0 = 
  if p0 < 0 then
    some 0
  else
    if 4 ≤ p0 then
      some 0
    else
      some 1 := rfl
set_option maxHeartbeats 4000000 in
set_option maxRecDepth 100000 in
theorem c_X3_is (l : Launch) (dC : Nat → ClassId) (dI : Nat → Nat → Nat) (cB cI cJ cZ : ClassId) (sz : Nat) (p0 : Int32) (res : Int32) (hf : f_X3_is p0 = some res) : kMi l yX3_is wsX3_is (kRm 0 0 0 0) dC dI cB cI cJ cZ [.int p0] sz [] .boolean (res) [] 0 0 := by
  refine kmet_i (y := yX3_is) (cc := cX3_is) (maxL := 1) (ret := (some .boolean)) RX3 (kvI 0 p0 kvE) kpl_X3 rfl rfl (Nat.le_of_ble_eq_true rfl) rfl (fun p e s m below meth c A ls hx hb hr hml hts hown hlocks hP hK hG hD hA hS hl => ?_)
  have h := f_X3_is_e.symm.trans hf
  refine lv_iload_n hx hb (kdr dgX3_is_0 0 0 rfl rfl) rfl (lv_at hl 0 rfl) ?_
  refine lv_if_lt (tgt := 13) hx hb (kdr dgX3_is_0 0 1 rfl rfl) (by decide) (fun c1 => ?_) (fun c1 => ?_)
  · have h := g_t c1 h
    refine lv_iconst (v := 0) hx hb (kdr dgX3_is_0 0 7 rfl rfl) (by decide) ?_
    have h := Option.some.inj h
    subst h
    exact kret_i (v := 0) hx hb hr rfl hlocks hS hP (kdr dgX3_is_0 0 8 rfl rfl)
  · have h := g_f c1 h
    refine lv_iload_n hx hb (kdr dgX3_is_0 0 2 rfl rfl) rfl (lv_at hl 0 rfl) ?_
    refine lv_iconst (v := 4) hx hb (kdr dgX3_is_0 0 3 rfl rfl) (by decide) ?_
    refine lv_icmp_ge (tgt := 13) hx hb (kdr dgX3_is_0 0 4 rfl rfl) (by decide) (fun c2 => ?_) (fun c2 => ?_)
    · have h := g_t c2 h
      refine lv_iconst (v := 0) hx hb (kdr dgX3_is_0 0 7 rfl rfl) (by decide) ?_
      have h := Option.some.inj h
      subst h
      exact kret_i (v := 0) hx hb hr rfl hlocks hS hP (kdr dgX3_is_0 0 8 rfl rfl)
    · have h := g_f c2 h
      refine lv_iconst (v := 1) hx hb (kdr dgX3_is_0 0 5 rfl rfl) (by decide) ?_
      refine lv_goto (tgt := 14) hx hb (kdr dgX3_is_0 0 6 rfl rfl) (by decide) ?_
      have h := Option.some.inj h
      subst h
      exact kret_i (v := 1) hx hb hr rfl hlocks hS hP (kdr dgX3_is_0 0 8 rfl rfl)
noncomputable abbrev wsX3_isSpan : List Cond := kWs yX3_isSpan cX3_isSpan 2 (some .boolean)
noncomputable def f_X3_isSpan (msp : Int32) (p0 : Int32) : Option (Int32) :=
  if p0 < 0 then
    some 0
  else
    if msp ≤ p0 then
      some 0
    else
      some 1
theorem f_X3_isSpan_e {msp : Int32} {p0 : Int32} : f_X3_isSpan msp p0 = 
  if p0 < 0 then
    some 0
  else
    if msp ≤ p0 then
      some 0
    else
      some 1 := rfl
set_option maxHeartbeats 4000000 in
set_option maxRecDepth 100000 in
theorem c_X3_isSpan (l : Launch) (dC : Nat → ClassId) (dI : Nat → Nat → Nat) (cB cI cJ cZ : ClassId) (b : Nat → Nat) (sz : Nat) (mce : Nat → Int64) (mfr : Int64) (mun : Int64) (mbe : Nat → Int64) (men : Nat → Int64) (mov : Nat → Int32) (msp : Int32) (mwb : Nat → Int64) (mwe : Nat → Int64) (mwi : Int32) (mac : Int32) (mre : Int32) (mkn : Int32) (mth : Int32) (p0 : Int32) (res : Int32) (hf : f_X3_isSpan msp p0 = some res) : kMi l yX3_isSpan wsX3_isSpan (kRm 0 0 0 0) dC dI cB cI cJ cZ [.ref (b 0), .int p0] sz (wMo cJ cZ b mce mfr mun mbe men mov msp mwb mwe mwi mac mre mkn mth) .boolean (res) (wMo cJ cZ b mce mfr mun mbe men mov msp mwb mwe mwi mac mre mkn mth) 0 0 := by
  refine kmet_i (y := yX3_isSpan) (cc := cX3_isSpan) (maxL := 2) (ret := (some .boolean)) RX3 (kvA 0 (b 0) (kvI 1 p0 kvE)) kpl_X3 rfl rfl (Nat.le_of_ble_eq_true rfl) rfl (fun p e s m below meth c A ls hx hb hr hml hts hown hlocks hP hK hG hD hA hS hl => ?_)
  have hw0 := hts (.fieldLink RX3 56 "SpanbookerModel" "spans" "I") (List.mem_cons_of_mem _ kw_1078)
  have hiX3 : ∀ w ∈ u_ws RX3 TX3 14, w ∈ wsX3_isSpan := fun w h => List.mem_cons_of_mem _ (ku_X3 w h)
  have h := f_X3_isSpan_e.symm.trans hf
  refine lv_iload_n hx hb (kdr dgX3_isSpan_0 0 0 rfl rfl) rfl (lv_at hl 1 rfl) ?_
  refine lv_if_lt (tgt := 16) hx hb (kdr dgX3_isSpan_0 0 1 rfl rfl) (by decide) (fun c1 => ?_) (fun c1 => ?_)
  · have h := g_t c1 h
    refine lv_iconst (v := 0) hx hb (kdr dgX3_isSpan_0 0 8 rfl rfl) (by decide) ?_
    have h := Option.some.inj h
    subst h
    exact kret_i (v := 0) hx hb hr rfl hlocks hS hP (kdr dgX3_isSpan_0 0 9 rfl rfl)
  · have h := g_f c1 h
    refine lv_iload_n hx hb (kdr dgX3_isSpan_0 0 2 rfl rfl) rfl (lv_at hl 1 rfl) ?_
    refine lv_aload_n hx hb (kdr dgX3_isSpan_0 0 3 rfl rfl) rfl (lv_at hl 0 rfl) ?_
    refine va_get (D := (dC, dI)) (ci := 5) (v := .int msp) (C := RX3) (T := TX3) (N := 14) hx hb hts hiX3 hown hK hP 0 rfl rfl 6 (by decide) hw0 (fun _ h9 => h9) rfl (kdr dgX3_isSpan_0 0 4 rfl rfl) ?_
    refine lv_icmp_ge (tgt := 16) hx hb (kdr dgX3_isSpan_0 0 5 rfl rfl) (by decide) (fun c2 => ?_) (fun c2 => ?_)
    · have h := g_t c2 h
      refine lv_iconst (v := 0) hx hb (kdr dgX3_isSpan_0 0 8 rfl rfl) (by decide) ?_
      have h := Option.some.inj h
      subst h
      exact kret_i (v := 0) hx hb hr rfl hlocks hS hP (kdr dgX3_isSpan_0 0 9 rfl rfl)
    · have h := g_f c2 h
      refine lv_iconst (v := 1) hx hb (kdr dgX3_isSpan_0 0 6 rfl rfl) (by decide) ?_
      refine lv_goto (tgt := 17) hx hb (kdr dgX3_isSpan_0 0 7 rfl rfl) (by decide) ?_
      have h := Option.some.inj h
      subst h
      exact kret_i (v := 1) hx hb hr rfl hlocks hS hP (kdr dgX3_isSpan_0 0 9 rfl rfl)
noncomputable abbrev wsX3_isWish : List Cond := kWs yX3_isWish cX3_isWish 2 (some .boolean)
noncomputable def f_X3_isWish (mwi : Int32) (p0 : Int32) : Option (Int32) :=
  if p0 < 0 then
    some 0
  else
    if mwi ≤ p0 then
      some 0
    else
      some 1
theorem f_X3_isWish_e {mwi : Int32} {p0 : Int32} : f_X3_isWish mwi p0 = 
  if p0 < 0 then
    some 0
  else
    if mwi ≤ p0 then
      some 0
    else
      some 1 := rfl
set_option maxHeartbeats 4000000 in
set_option maxRecDepth 100000 in
theorem c_X3_isWish (l : Launch) (dC : Nat → ClassId) (dI : Nat → Nat → Nat) (cB cI cJ cZ : ClassId) (b : Nat → Nat) (sz : Nat) (mce : Nat → Int64) (mfr : Int64) (mun : Int64) (mbe : Nat → Int64) (men : Nat → Int64) (mov : Nat → Int32) (msp : Int32) (mwb : Nat → Int64) (mwe : Nat → Int64) (mwi : Int32) (mac : Int32) (mre : Int32) (mkn : Int32) (mth : Int32) (p0 : Int32) (res : Int32) (hf : f_X3_isWish mwi p0 = some res) : kMi l yX3_isWish wsX3_isWish (kRm 0 0 0 0) dC dI cB cI cJ cZ [.ref (b 0), .int p0] sz (wMo cJ cZ b mce mfr mun mbe men mov msp mwb mwe mwi mac mre mkn mth) .boolean (res) (wMo cJ cZ b mce mfr mun mbe men mov msp mwb mwe mwi mac mre mkn mth) 0 0 := by
  refine kmet_i (y := yX3_isWish) (cc := cX3_isWish) (maxL := 2) (ret := (some .boolean)) RX3 (kvA 0 (b 0) (kvI 1 p0 kvE)) kpl_X3 rfl rfl (Nat.le_of_ble_eq_true rfl) rfl (fun p e s m below meth c A ls hx hb hr hml hts hown hlocks hP hK hG hD hA hS hl => ?_)
  have hw0 := hts (.fieldLink RX3 88 "SpanbookerModel" "wishes" "I") (List.mem_cons_of_mem _ kw_1081)
  have hiX3 : ∀ w ∈ u_ws RX3 TX3 14, w ∈ wsX3_isWish := fun w h => List.mem_cons_of_mem _ (ku_X3 w h)
  have h := f_X3_isWish_e.symm.trans hf
  refine lv_iload_n hx hb (kdr dgX3_isWish_0 0 0 rfl rfl) rfl (lv_at hl 1 rfl) ?_
  refine lv_if_lt (tgt := 16) hx hb (kdr dgX3_isWish_0 0 1 rfl rfl) (by decide) (fun c1 => ?_) (fun c1 => ?_)
  · have h := g_t c1 h
    refine lv_iconst (v := 0) hx hb (kdr dgX3_isWish_0 0 8 rfl rfl) (by decide) ?_
    have h := Option.some.inj h
    subst h
    exact kret_i (v := 0) hx hb hr rfl hlocks hS hP (kdr dgX3_isWish_0 0 9 rfl rfl)
  · have h := g_f c1 h
    refine lv_iload_n hx hb (kdr dgX3_isWish_0 0 2 rfl rfl) rfl (lv_at hl 1 rfl) ?_
    refine lv_aload_n hx hb (kdr dgX3_isWish_0 0 3 rfl rfl) rfl (lv_at hl 0 rfl) ?_
    refine va_get (D := (dC, dI)) (ci := 5) (v := .int mwi) (C := RX3) (T := TX3) (N := 14) hx hb hts hiX3 hown hK hP 0 rfl rfl 9 (by decide) hw0 (fun _ h9 => h9) rfl (kdr dgX3_isWish_0 0 4 rfl rfl) ?_
    refine lv_icmp_ge (tgt := 16) hx hb (kdr dgX3_isWish_0 0 5 rfl rfl) (by decide) (fun c2 => ?_) (fun c2 => ?_)
    · have h := g_t c2 h
      refine lv_iconst (v := 0) hx hb (kdr dgX3_isWish_0 0 8 rfl rfl) (by decide) ?_
      have h := Option.some.inj h
      subst h
      exact kret_i (v := 0) hx hb hr rfl hlocks hS hP (kdr dgX3_isWish_0 0 9 rfl rfl)
    · have h := g_f c2 h
      refine lv_iconst (v := 1) hx hb (kdr dgX3_isWish_0 0 6 rfl rfl) (by decide) ?_
      refine lv_goto (tgt := 17) hx hb (kdr dgX3_isWish_0 0 7 rfl rfl) (by decide) ?_
      have h := Option.some.inj h
      subst h
      exact kret_i (v := 1) hx hb hr rfl hlocks hS hP (kdr dgX3_isWish_0 0 9 rfl rfl)
noncomputable abbrev wsX3_isNoUnit : List Cond := kWs yX3_isNoUnit cX3_isNoUnit 2 (some .boolean)
noncomputable def f_X3_isNoUnit (p0 : Int32) (p1 : Int32) : Option (Int32) :=
  if p0 < 0 then
    some 1
  else
    if 2 < p0 then
      some 1
    else
      if p1 < (-2000000000) then
        some 1
      else
        if p1 ≤ 2000000000 then
          some 0
        else
          some 1
theorem f_X3_isNoUnit_e {p0 : Int32} {p1 : Int32} : f_X3_isNoUnit p0 p1 = 
  if p0 < 0 then
    some 1
  else
    if 2 < p0 then
      some 1
    else
      if p1 < (-2000000000) then
        some 1
      else
        if p1 ≤ 2000000000 then
          some 0
        else
          some 1 := rfl
set_option maxHeartbeats 4000000 in
set_option maxRecDepth 100000 in
theorem c_X3_isNoUnit (l : Launch) (dC : Nat → ClassId) (dI : Nat → Nat → Nat) (cB cI cJ cZ : ClassId) (sz : Nat) (p0 : Int32) (p1 : Int32) (res : Int32) (hf : f_X3_isNoUnit p0 p1 = some res) : kMi l yX3_isNoUnit wsX3_isNoUnit (kRm 0 0 0 0) dC dI cB cI cJ cZ [.int p0, .int p1] sz [] .boolean (res) [] 0 0 := by
  refine kmet_i (y := yX3_isNoUnit) (cc := cX3_isNoUnit) (maxL := 2) (ret := (some .boolean)) RX3 (kvI 0 p0 (kvI 1 p1 kvE)) kpl_X3 rfl rfl (Nat.le_of_ble_eq_true rfl) rfl (fun p e s m below meth c A ls hx hb hr hml hts hown hlocks hP hK hG hD hA hS hl => ?_)
  have hw0 := hts (.constant RX3 111 (-2000000000)) (List.mem_cons_of_mem _ kw_1124)
  have hw1 := hts (.constant RX3 112 (2000000000)) (List.mem_cons_of_mem _ kw_1125)
  have h := f_X3_isNoUnit_e.symm.trans hf
  refine lv_iload_n hx hb (kdr dgX3_isNoUnit_0 0 0 rfl rfl) rfl (lv_at hl 0 rfl) ?_
  refine lv_if_lt (tgt := 21) hx hb (kdr dgX3_isNoUnit_0 0 1 rfl rfl) (by decide) (fun c1 => ?_) (fun c1 => ?_)
  · have h := g_t c1 h
    refine lv_iconst (v := 1) hx hb (kdr dgX3_isNoUnit_0 1 1 rfl rfl) (by decide) ?_
    refine lv_goto (tgt := 26) hx hb (kdr dgX3_isNoUnit_0 1 2 rfl rfl) (by decide) ?_
    have h := Option.some.inj h
    subst h
    exact kret_i (v := 1) hx hb hr rfl hlocks hS hP (kdr dgX3_isNoUnit_0 1 4 rfl rfl)
  · have h := g_f c1 h
    refine lv_iload_n hx hb (kdr dgX3_isNoUnit_0 0 2 rfl rfl) rfl (lv_at hl 0 rfl) ?_
    refine lv_iconst (v := 2) hx hb (kdr dgX3_isNoUnit_0 0 3 rfl rfl) (by decide) ?_
    refine lv_icmp_gt (tgt := 21) hx hb (kdr dgX3_isNoUnit_0 0 4 rfl rfl) (by decide) (fun c2 => ?_) (fun c2 => ?_)
    · have h := g_t c2 h
      refine lv_iconst (v := 1) hx hb (kdr dgX3_isNoUnit_0 1 1 rfl rfl) (by decide) ?_
      refine lv_goto (tgt := 26) hx hb (kdr dgX3_isNoUnit_0 1 2 rfl rfl) (by decide) ?_
      have h := Option.some.inj h
      subst h
      exact kret_i (v := 1) hx hb hr rfl hlocks hS hP (kdr dgX3_isNoUnit_0 1 4 rfl rfl)
    · have h := g_f c2 h
      refine lv_iload_n hx hb (kdr dgX3_isNoUnit_0 0 5 rfl rfl) rfl (lv_at hl 1 rfl) ?_
      refine lv_ldc (v := (-2000000000)) hx hb hown hw0 (kdr dgX3_isNoUnit_0 0 6 rfl rfl) ?_
      refine lv_icmp_lt (tgt := 21) hx hb (kdr dgX3_isNoUnit_0 0 7 rfl rfl) (by decide) (fun c3 => ?_) (fun c3 => ?_)
      · have h := g_t c3 h
        refine lv_iconst (v := 1) hx hb (kdr dgX3_isNoUnit_0 1 1 rfl rfl) (by decide) ?_
        refine lv_goto (tgt := 26) hx hb (kdr dgX3_isNoUnit_0 1 2 rfl rfl) (by decide) ?_
        have h := Option.some.inj h
        subst h
        exact kret_i (v := 1) hx hb hr rfl hlocks hS hP (kdr dgX3_isNoUnit_0 1 4 rfl rfl)
      · have h := g_f c3 h
        refine lv_iload_n hx hb (kdr dgX3_isNoUnit_0 0 8 rfl rfl) rfl (lv_at hl 1 rfl) ?_
        refine lv_ldc (v := (2000000000)) hx hb hown hw1 (kdr dgX3_isNoUnit_0 0 9 rfl rfl) ?_
        refine lv_icmp_le (tgt := 25) hx hb (kdr dgX3_isNoUnit_0 1 0 rfl rfl) (by decide) (fun c4 => ?_) (fun c4 => ?_)
        · have h := g_t c4 h
          refine lv_iconst (v := 0) hx hb (kdr dgX3_isNoUnit_0 1 3 rfl rfl) (by decide) ?_
          have h := Option.some.inj h
          subst h
          exact kret_i (v := 0) hx hb hr rfl hlocks hS hP (kdr dgX3_isNoUnit_0 1 4 rfl rfl)
        · have h := g_f c4 h
          refine lv_iconst (v := 1) hx hb (kdr dgX3_isNoUnit_0 1 1 rfl rfl) (by decide) ?_
          refine lv_goto (tgt := 26) hx hb (kdr dgX3_isNoUnit_0 1 2 rfl rfl) (by decide) ?_
          have h := Option.some.inj h
          subst h
          exact kret_i (v := 1) hx hb hr rfl hlocks hS hP (kdr dgX3_isNoUnit_0 1 4 rfl rfl)
noncomputable abbrev wsX3_isThrown : List Cond := kWs yX3_isThrown cX3_isThrown 3 (some .boolean)
noncomputable def f_X3_isThrown (p0 : Int32) (p1 : Int32) : Option ((Int32) × (Int32)) :=
  if p0 = 0 then
    if p1 = 0 then
      if (0 : Int32) ≤ 0 then
        some (0, 0)
      else
        some (1, 0)
    else
      if (2 : Int32) ≤ 0 then
        some (0, 2)
      else
        some (1, 2)
  else
    if (1 : Int32) ≤ 0 then
      some (0, 1)
    else
      some (1, 1)
theorem f_X3_isThrown_e {p0 : Int32} {p1 : Int32} : f_X3_isThrown p0 p1 = 
  if p0 = 0 then
    if p1 = 0 then
      if (0 : Int32) ≤ 0 then
        some (0, 0)
      else
        some (1, 0)
    else
      if (2 : Int32) ≤ 0 then
        some (0, 2)
      else
        some (1, 2)
  else
    if (1 : Int32) ≤ 0 then
      some (0, 1)
    else
      some (1, 1) := rfl
set_option maxHeartbeats 4000000 in
set_option maxRecDepth 100000 in
theorem c_X3_isThrown (l : Launch) (dC : Nat → ClassId) (dI : Nat → Nat → Nat) (cB cI cJ cZ : ClassId) (b : Nat → Nat) (sz : Nat) (mce : Nat → Int64) (mfr : Int64) (mun : Int64) (mbe : Nat → Int64) (men : Nat → Int64) (mov : Nat → Int32) (msp : Int32) (mwb : Nat → Int64) (mwe : Nat → Int64) (mwi : Int32) (mac : Int32) (mre : Int32) (mkn : Int32) (mth : Int32) (p0 : Int32) (p1 : Int32) (res : (Int32) × (Int32)) (hf : f_X3_isThrown p0 p1 = some res) : kMi l yX3_isThrown wsX3_isThrown (kRm 0 0 0 0) dC dI cB cI cJ cZ [.ref (b 0), .int p0, .int p1] sz (wMo cJ cZ b mce mfr mun mbe men mov msp mwb mwe mwi mac mre mkn mth) .boolean (res.1) (wMo cJ cZ b mce mfr mun mbe men mov msp mwb mwe mwi mac mre mkn (res.2)) 0 0 := by
  refine kmet_i (y := yX3_isThrown) (cc := cX3_isThrown) (maxL := 3) (ret := (some .boolean)) RX3 (kvA 0 (b 0) (kvI 1 p0 (kvI 2 p1 kvE))) kpl_X3 rfl rfl (Nat.le_of_ble_eq_true rfl) rfl (fun p e s m below meth c A ls hx hb hr hml hts hown hlocks hP hK hG hD hA hS hl => ?_)
  have hw0 := hts (.fieldLink RX3 35 "SpanbookerModel" "thrown" "I") (List.mem_cons_of_mem _ kw_1085)
  have hiX3 : ∀ w ∈ u_ws RX3 TX3 14, w ∈ wsX3_isThrown := fun w h => List.mem_cons_of_mem _ (ku_X3 w h)
  have h := f_X3_isThrown_e.symm.trans hf
  refine lv_aload_n hx hb (kdr dgX3_isThrown_0 0 0 rfl rfl) rfl (lv_at hl 0 rfl) ?_
  refine lv_iload_n hx hb (kdr dgX3_isThrown_0 0 1 rfl rfl) rfl (lv_at hl 1 rfl) ?_
  refine lv_if_eq (tgt := 9) hx hb (kdr dgX3_isThrown_0 0 2 rfl rfl) (by decide) (fun c1 => ?_) (fun c1 => ?_)
  · have h := g_t c1 h
    refine lv_iload_n hx hb (kdr dgX3_isThrown_0 0 5 rfl rfl) rfl (lv_at hl 2 rfl) ?_
    refine lv_if_eq (tgt := 17) hx hb (kdr dgX3_isThrown_0 0 6 rfl rfl) (by decide) (fun c2 => ?_) (fun c2 => ?_)
    · have h := g_t c2 h
      refine lv_iconst (v := 0) hx hb (kdr dgX3_isThrown_0 0 9 rfl rfl) (by decide) ?_
      refine va_put (D := (dC, dI)) (ci := 5) (v := .int 0) (ty := .int) (C := RX3) (T := TX3) (N := 14) hx hb hts hiX3 tyX3 tyX3_ok nmX3 hown hK hP hD hS 0 rfl rfl 13 (by decide) hw0 (fun _ h9 => h9) rfl (by decide +kernel) rfl rfl (Nat.le_of_ble_eq_true rfl) (kdr dgX3_isThrown_0 1 0 rfl rfl) (fun H locs hP hD hS => ?_)
      have hP : va_P (dC, dI) vwCl (wMo cJ cZ b mce mfr mun mbe men mov msp mwb mwe mwi mac mre mkn 0) H := hP
      have hD : va_D A (wMo cJ cZ b mce mfr mun mbe men mov msp mwb mwe mwi mac mre mkn 0) := hD
      refine lv_aload_n hx hb (kdr dgX3_isThrown_0 1 1 rfl rfl) rfl (lv_at hl 0 rfl) ?_
      refine va_get (D := (dC, dI)) (ci := 5) (v := .int 0) (C := RX3) (T := TX3) (N := 14) hx hb hts hiX3 hown hK hP 0 rfl rfl 13 (by decide) hw0 (fun _ h9 => h9) rfl (kdr dgX3_isThrown_0 1 2 rfl rfl) ?_
      refine lv_if_le (tgt := 32) hx hb (kdr dgX3_isThrown_0 1 3 rfl rfl) (by decide) (fun c3 => ?_) (fun c3 => ?_)
      · have h := g_t c3 h
        refine lv_iconst (v := 0) hx hb (kdr dgX3_isThrown_0 1 6 rfl rfl) (by decide) ?_
        have h := Option.some.inj h
        subst h
        exact kret_i (v := 0) hx hb hr rfl hlocks hS hP (kdr dgX3_isThrown_0 1 7 rfl rfl)
      · have h := g_f c3 h
        refine lv_iconst (v := 1) hx hb (kdr dgX3_isThrown_0 1 4 rfl rfl) (by decide) ?_
        refine lv_goto (tgt := 33) hx hb (kdr dgX3_isThrown_0 1 5 rfl rfl) (by decide) ?_
        have h := Option.some.inj h
        subst h
        exact kret_i (v := 1) hx hb hr rfl hlocks hS hP (kdr dgX3_isThrown_0 1 7 rfl rfl)
    · have h := g_f c2 h
      refine lv_iconst (v := 2) hx hb (kdr dgX3_isThrown_0 0 7 rfl rfl) (by decide) ?_
      refine lv_goto (tgt := 18) hx hb (kdr dgX3_isThrown_0 0 8 rfl rfl) (by decide) ?_
      refine va_put (D := (dC, dI)) (ci := 5) (v := .int 2) (ty := .int) (C := RX3) (T := TX3) (N := 14) hx hb hts hiX3 tyX3 tyX3_ok nmX3 hown hK hP hD hS 0 rfl rfl 13 (by decide) hw0 (fun _ h9 => h9) rfl (by decide +kernel) rfl rfl (Nat.le_of_ble_eq_true rfl) (kdr dgX3_isThrown_0 1 0 rfl rfl) (fun H locs hP hD hS => ?_)
      have hP : va_P (dC, dI) vwCl (wMo cJ cZ b mce mfr mun mbe men mov msp mwb mwe mwi mac mre mkn 2) H := hP
      have hD : va_D A (wMo cJ cZ b mce mfr mun mbe men mov msp mwb mwe mwi mac mre mkn 2) := hD
      refine lv_aload_n hx hb (kdr dgX3_isThrown_0 1 1 rfl rfl) rfl (lv_at hl 0 rfl) ?_
      refine va_get (D := (dC, dI)) (ci := 5) (v := .int 2) (C := RX3) (T := TX3) (N := 14) hx hb hts hiX3 hown hK hP 0 rfl rfl 13 (by decide) hw0 (fun _ h9 => h9) rfl (kdr dgX3_isThrown_0 1 2 rfl rfl) ?_
      refine lv_if_le (tgt := 32) hx hb (kdr dgX3_isThrown_0 1 3 rfl rfl) (by decide) (fun c3 => ?_) (fun c3 => ?_)
      · have h := g_t c3 h
        refine lv_iconst (v := 0) hx hb (kdr dgX3_isThrown_0 1 6 rfl rfl) (by decide) ?_
        have h := Option.some.inj h
        subst h
        exact kret_i (v := 0) hx hb hr rfl hlocks hS hP (kdr dgX3_isThrown_0 1 7 rfl rfl)
      · have h := g_f c3 h
        refine lv_iconst (v := 1) hx hb (kdr dgX3_isThrown_0 1 4 rfl rfl) (by decide) ?_
        refine lv_goto (tgt := 33) hx hb (kdr dgX3_isThrown_0 1 5 rfl rfl) (by decide) ?_
        have h := Option.some.inj h
        subst h
        exact kret_i (v := 1) hx hb hr rfl hlocks hS hP (kdr dgX3_isThrown_0 1 7 rfl rfl)
  · have h := g_f c1 h
    refine lv_iconst (v := 1) hx hb (kdr dgX3_isThrown_0 0 3 rfl rfl) (by decide) ?_
    refine lv_goto (tgt := 18) hx hb (kdr dgX3_isThrown_0 0 4 rfl rfl) (by decide) ?_
    refine va_put (D := (dC, dI)) (ci := 5) (v := .int 1) (ty := .int) (C := RX3) (T := TX3) (N := 14) hx hb hts hiX3 tyX3 tyX3_ok nmX3 hown hK hP hD hS 0 rfl rfl 13 (by decide) hw0 (fun _ h9 => h9) rfl (by decide +kernel) rfl rfl (Nat.le_of_ble_eq_true rfl) (kdr dgX3_isThrown_0 1 0 rfl rfl) (fun H locs hP hD hS => ?_)
    have hP : va_P (dC, dI) vwCl (wMo cJ cZ b mce mfr mun mbe men mov msp mwb mwe mwi mac mre mkn 1) H := hP
    have hD : va_D A (wMo cJ cZ b mce mfr mun mbe men mov msp mwb mwe mwi mac mre mkn 1) := hD
    refine lv_aload_n hx hb (kdr dgX3_isThrown_0 1 1 rfl rfl) rfl (lv_at hl 0 rfl) ?_
    refine va_get (D := (dC, dI)) (ci := 5) (v := .int 1) (C := RX3) (T := TX3) (N := 14) hx hb hts hiX3 hown hK hP 0 rfl rfl 13 (by decide) hw0 (fun _ h9 => h9) rfl (kdr dgX3_isThrown_0 1 2 rfl rfl) ?_
    refine lv_if_le (tgt := 32) hx hb (kdr dgX3_isThrown_0 1 3 rfl rfl) (by decide) (fun c2 => ?_) (fun c2 => ?_)
    · have h := g_t c2 h
      refine lv_iconst (v := 0) hx hb (kdr dgX3_isThrown_0 1 6 rfl rfl) (by decide) ?_
      have h := Option.some.inj h
      subst h
      exact kret_i (v := 0) hx hb hr rfl hlocks hS hP (kdr dgX3_isThrown_0 1 7 rfl rfl)
    · have h := g_f c2 h
      refine lv_iconst (v := 1) hx hb (kdr dgX3_isThrown_0 1 4 rfl rfl) (by decide) ?_
      refine lv_goto (tgt := 33) hx hb (kdr dgX3_isThrown_0 1 5 rfl rfl) (by decide) ?_
      have h := Option.some.inj h
      subst h
      exact kret_i (v := 1) hx hb hr rfl hlocks hS hP (kdr dgX3_isThrown_0 1 7 rfl rfl)
noncomputable abbrev wsX3_isThrown_ : List Cond := kWs yX3_isThrown_ cX3_isThrown_ 2 (some .boolean)
noncomputable def f_X3_isThrown_ (p0 : Int32) : Option ((Int32) × (Int32)) :=
  (f_X3_isThrown p0 0).bind fun r1 =>
  some (r1.1, r1.2)
theorem f_X3_isThrown__e {p0 : Int32} : f_X3_isThrown_ p0 = 
  (f_X3_isThrown p0 0).bind fun r1 =>
  some (r1.1, r1.2) := rfl
set_option maxHeartbeats 4000000 in
set_option maxRecDepth 100000 in
theorem c_X3_isThrown_ (l : Launch) (dC : Nat → ClassId) (dI : Nat → Nat → Nat) (cB cI cJ cZ : ClassId) (b : Nat → Nat) (sz : Nat) (mce : Nat → Int64) (mfr : Int64) (mun : Int64) (mbe : Nat → Int64) (men : Nat → Int64) (mov : Nat → Int32) (msp : Int32) (mwb : Nat → Int64) (mwe : Nat → Int64) (mwi : Int32) (mac : Int32) (mre : Int32) (mkn : Int32) (mth : Int32) (p0 : Int32) (res : (Int32) × (Int32)) (hf : f_X3_isThrown_ p0 = some res) : kMi l yX3_isThrown_ wsX3_isThrown_ (kRm 1 0 0 22) dC dI cB cI cJ cZ [.ref (b 0), .int p0] sz (wMo cJ cZ b mce mfr mun mbe men mov msp mwb mwe mwi mac mre mkn mth) .boolean (res.1) (wMo cJ cZ b mce mfr mun mbe men mov msp mwb mwe mwi mac mre mkn (res.2)) 0 0 := by
  refine kmet_i (y := yX3_isThrown_) (cc := cX3_isThrown_) (maxL := 2) (ret := (some .boolean)) RX3 (kvA 0 (b 0) (kvI 1 p0 kvE)) kpl_X3 rfl rfl (Nat.le_of_ble_eq_true rfl) rfl (fun p e s m below meth c A ls hx hb hr hml hts hown hlocks hP hK hG hD hA hS hl => ?_)
  have h := f_X3_isThrown__e.symm.trans hf
  refine lv_aload_n hx hb (kdr dgX3_isThrown__0 0 0 rfl rfl) rfl (lv_at hl 0 rfl) ?_
  refine lv_iload_n hx hb (kdr dgX3_isThrown__0 0 1 rfl rfl) rfl (lv_at hl 1 rfl) ?_
  refine lv_iconst (v := 0) hx hb (kdr dgX3_isThrown__0 0 2 rfl rfl) (by decide) ?_
  obtain ⟨r1, g1, h⟩ := g_b h
  refine kq_i (wMo cJ cZ b mce mfr mun mbe men mov msp mwb mwe mwi mac mre mkn r1.2) (fun qP qD qF => va_runV (As := [.int p0, .int 0]) (rest := []) ⟨hx, hb, hml, hown, hts⟩ (c_X3_isThrown l dC dI cB cI cJ cZ b _ mce mfr mun mbe men mov msp mwb mwe mwi mac mre mkn mth p0 0 r1 g1) (kcwV hts kw_1126 kv_X3_isThrown rfl rfl ⟨(Nat.le_of_ble_eq_true rfl), (Nat.le_of_ble_eq_true rfl)⟩) (kpV (A := A) qP hK qD hG (krecv_5 (q0 := 0) hK hP rfl)) rfl rfl hl.1 rfl (lv_room (Nat.le_of_ble_eq_true rfl)) (kdr dgX3_isThrown__0 0 3 rfl rfl) ⟨(Nat.le_of_ble_eq_true rfl), (Nat.le_of_ble_eq_true rfl)⟩) hP hD hS hA kFr_Mo (fun H locs hP hD hS br1 => ?_)
  have h := Option.some.inj h
  subst h
  exact kret_i (v := r1.1) hx hb hr br1 hlocks hS hP (kdr dgX3_isThrown__0 0 4 rfl rfl)
end
