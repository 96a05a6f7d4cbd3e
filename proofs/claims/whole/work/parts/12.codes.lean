theorem in_t1 {w : Cond} (h : w ∈ tables_1_1) : w ∈ lw_tbl := List.mem_append_right _ (List.mem_append_left _ h)
theorem in_t2 {w : Cond} (h : w ∈ tables_1_2) : w ∈ lw_tbl := List.mem_append_right _ (List.mem_append_right _ (List.mem_append_left _ h))
theorem in_t3 {w : Cond} (h : w ∈ tables_1_3) : w ∈ lw_tbl := List.mem_append_right _ (List.mem_append_right _ (List.mem_append_right _ (List.mem_append_left _ h)))
theorem in_t4 {w : Cond} (h : w ∈ tables_1_4) : w ∈ lw_tbl := List.mem_append_right _ (List.mem_append_right _ (List.mem_append_right _ (List.mem_append_right _ (List.mem_append_left _ h))))
theorem in_t5 {w : Cond} (h : w ∈ tables_1_5) : w ∈ lw_tbl := List.mem_append_right _ (List.mem_append_right _ (List.mem_append_right _ (List.mem_append_right _ (List.mem_append_right _ (List.mem_append_left _ h)))))
theorem in_t6 {w : Cond} (h : w ∈ tables_1_6) : w ∈ lw_tbl := List.mem_append_right _ (List.mem_append_right _ (List.mem_append_right _ (List.mem_append_right _ (List.mem_append_right _ (List.mem_append_right _ (List.mem_append_left _ h))))))
theorem in_t7 {w : Cond} (h : w ∈ tables_1_7) : w ∈ lw_tbl := List.mem_append_right _ (List.mem_append_right _ (List.mem_append_right _ (List.mem_append_right _ (List.mem_append_right _ (List.mem_append_right _ (List.mem_append_right _ (List.mem_append_left _ h)))))))
theorem in_t8 {w : Cond} (h : w ∈ tables_1_8) : w ∈ lw_tbl := List.mem_append_right _ (List.mem_append_right _ (List.mem_append_right _ (List.mem_append_right _ (List.mem_append_right _ (List.mem_append_right _ (List.mem_append_right _ (List.mem_append_right _ (List.mem_append_left _ h))))))))
theorem in_t9 {w : Cond} (h : w ∈ tables_1_9) : w ∈ lw_tbl := List.mem_append_right _ (List.mem_append_right _ (List.mem_append_right _ (List.mem_append_right _ (List.mem_append_right _ (List.mem_append_right _ (List.mem_append_right _ (List.mem_append_right _ (List.mem_append_right _ (h)))))))))
theorem yk1 : YK 1 := ⟨⟨inT (in_t5 (List.mem_of_getElem? (i := 72) rfl)) rfl, inT (in_t1 (List.mem_of_getElem? (i := 9) rfl)) rfl, (RN_ok 0 (by decide)).1, by decide⟩, fun h => absurd h (by decide), fun _ => ⟨inT (in_t5 (List.mem_of_getElem? (i := 70) rfl)) rfl, inT (in_t5 (List.mem_of_getElem? (i := 71) rfl)) rfl⟩, by decide, rfl, by decide +kernel, plainFor_of_name ((RN_ok 0 (by decide)).2 (by decide))⟩
theorem yk2 : YK 2 := ⟨⟨inT (in_t5 (List.mem_of_getElem? (i := 100) rfl)) rfl, inT (in_t1 (List.mem_of_getElem? (i := 9) rfl)) rfl, (RN_ok 0 (by decide)).1, by decide⟩, fun h => absurd h (by decide), fun _ => ⟨inT (in_t5 (List.mem_of_getElem? (i := 98) rfl)) rfl, inT (in_t5 (List.mem_of_getElem? (i := 99) rfl)) rfl⟩, by decide, rfl, by decide +kernel, plainFor_of_name ((RN_ok 0 (by decide)).2 (by decide))⟩
theorem yk3 : YK 3 := ⟨⟨inT (in_t5 (List.mem_of_getElem? (i := 104) rfl)) rfl, inT (in_t1 (List.mem_of_getElem? (i := 9) rfl)) rfl, (RN_ok 0 (by decide)).1, by decide⟩, fun _ => inT (in_t5 (List.mem_of_getElem? (i := 103) rfl)) rfl, fun h => absurd h (by decide), by decide, rfl, by decide +kernel, plainFor_of_name ((RN_ok 0 (by decide)).2 (by decide))⟩
theorem yk4 : YK 4 := ⟨⟨inT (in_t5 (List.mem_of_getElem? (i := 146) rfl)) rfl, inT (in_t1 (List.mem_of_getElem? (i := 9) rfl)) rfl, (RN_ok 0 (by decide)).1, by decide⟩, fun h => absurd h (by decide), fun _ => ⟨inT (in_t5 (List.mem_of_getElem? (i := 144) rfl)) rfl, inT (in_t5 (List.mem_of_getElem? (i := 145) rfl)) rfl⟩, by decide, rfl, by decide +kernel, plainFor_of_name ((RN_ok 0 (by decide)).2 (by decide))⟩
theorem yk5 : YK 5 := ⟨⟨inT (in_t5 (List.mem_of_getElem? (i := 154) rfl)) rfl, inT (in_t1 (List.mem_of_getElem? (i := 9) rfl)) rfl, (RN_ok 0 (by decide)).1, by decide⟩, fun h => absurd h (by decide), fun _ => ⟨inT (in_t5 (List.mem_of_getElem? (i := 152) rfl)) rfl, inT (in_t5 (List.mem_of_getElem? (i := 153) rfl)) rfl⟩, by decide, rfl, by decide +kernel, plainFor_of_name ((RN_ok 0 (by decide)).2 (by decide))⟩
theorem yk6 : YK 6 := ⟨⟨inT (in_t5 (List.mem_of_getElem? (i := 174) rfl)) rfl, inT (in_t1 (List.mem_of_getElem? (i := 9) rfl)) rfl, (RN_ok 0 (by decide)).1, by decide⟩, fun h => absurd h (by decide), fun _ => ⟨inT (in_t5 (List.mem_of_getElem? (i := 172) rfl)) rfl, inT (in_t5 (List.mem_of_getElem? (i := 173) rfl)) rfl⟩, by decide, rfl, by decide +kernel, plainFor_of_name ((RN_ok 0 (by decide)).2 (by decide))⟩
theorem yk7 : YK 7 := ⟨⟨inT (in_t5 (List.mem_of_getElem? (i := 178) rfl)) rfl, inT (in_t1 (List.mem_of_getElem? (i := 9) rfl)) rfl, (RN_ok 0 (by decide)).1, by decide⟩, fun h => absurd h (by decide), fun _ => ⟨inT (in_t5 (List.mem_of_getElem? (i := 177) rfl)) rfl, inT (List.mem_append_left _ (List.mem_of_getElem? (i := 33) rfl)) rfl⟩, by decide, rfl, by decide +kernel, plainFor_of_name ((RN_ok 0 (by decide)).2 (by decide))⟩
theorem yk8 : YK 8 := ⟨⟨inT (in_t5 (List.mem_of_getElem? (i := 191) rfl)) rfl, inT (in_t1 (List.mem_of_getElem? (i := 9) rfl)) rfl, (RN_ok 0 (by decide)).1, by decide⟩, fun h => absurd h (by decide), fun _ => ⟨inT (in_t5 (List.mem_of_getElem? (i := 190) rfl)) rfl, inT (List.mem_append_left _ (List.mem_of_getElem? (i := 34) rfl)) rfl⟩, by decide, rfl, by decide +kernel, plainFor_of_name ((RN_ok 0 (by decide)).2 (by decide))⟩
theorem yk9 : YK 9 := ⟨⟨inT (in_t5 (List.mem_of_getElem? (i := 196) rfl)) rfl, inT (in_t1 (List.mem_of_getElem? (i := 9) rfl)) rfl, (RN_ok 0 (by decide)).1, by decide⟩, fun h => absurd h (by decide), fun _ => ⟨inT (in_t5 (List.mem_of_getElem? (i := 195) rfl)) rfl, inT (List.mem_append_left _ (List.mem_of_getElem? (i := 35) rfl)) rfl⟩, by decide, rfl, by decide +kernel, plainFor_of_name ((RN_ok 0 (by decide)).2 (by decide))⟩
theorem yk10 : YK 10 := ⟨⟨inT (in_t6 (List.mem_of_getElem? (i := 27) rfl)) rfl, inT (in_t1 (List.mem_of_getElem? (i := 9) rfl)) rfl, (RN_ok 0 (by decide)).1, by decide⟩, fun h => absurd h (by decide), fun _ => ⟨inT (in_t6 (List.mem_of_getElem? (i := 25) rfl)) rfl, inT (in_t6 (List.mem_of_getElem? (i := 26) rfl)) rfl⟩, by decide, rfl, by decide +kernel, plainFor_of_name ((RN_ok 0 (by decide)).2 (by decide))⟩
theorem yk11 : YK 11 := ⟨⟨inT (in_t6 (List.mem_of_getElem? (i := 31) rfl)) rfl, inT (in_t1 (List.mem_of_getElem? (i := 9) rfl)) rfl, (RN_ok 0 (by decide)).1, by decide⟩, fun h => absurd h (by decide), fun _ => ⟨inT (in_t6 (List.mem_of_getElem? (i := 30) rfl)) rfl, inT (List.mem_append_left _ (List.mem_of_getElem? (i := 39) rfl)) rfl⟩, by decide, rfl, by decide +kernel, plainFor_of_name ((RN_ok 0 (by decide)).2 (by decide))⟩
theorem yk12 : YK 12 := ⟨⟨inT (in_t4 (List.mem_of_getElem? (i := 59) rfl)) rfl, inT (in_t1 (List.mem_of_getElem? (i := 15) rfl)) rfl, (RN_ok 1 (by decide)).1, by decide⟩, fun h => absurd h (by decide), fun _ => ⟨inT (in_t4 (List.mem_of_getElem? (i := 57) rfl)) rfl, inT (in_t4 (List.mem_of_getElem? (i := 58) rfl)) rfl⟩, by decide, rfl, by decide +kernel, plainFor_of_name ((RN_ok 1 (by decide)).2 (by decide))⟩
theorem yk13 : YK 13 := ⟨⟨inT (in_t6 (List.mem_of_getElem? (i := 134) rfl)) rfl, inT (in_t1 (List.mem_of_getElem? (i := 15) rfl)) rfl, (RN_ok 1 (by decide)).1, by decide⟩, fun h => absurd h (by decide), fun _ => ⟨inT (in_t6 (List.mem_of_getElem? (i := 132) rfl)) rfl, inT (in_t6 (List.mem_of_getElem? (i := 133) rfl)) rfl⟩, by decide, rfl, by decide +kernel, plainFor_of_name ((RN_ok 1 (by decide)).2 (by decide))⟩
theorem yk14 : YK 14 := ⟨⟨inT (in_t4 (List.mem_of_getElem? (i := 81) rfl)) rfl, inT (in_t1 (List.mem_of_getElem? (i := 15) rfl)) rfl, (RN_ok 1 (by decide)).1, by decide⟩, fun h => absurd h (by decide), fun _ => ⟨inT (in_t4 (List.mem_of_getElem? (i := 79) rfl)) rfl, inT (in_t4 (List.mem_of_getElem? (i := 80) rfl)) rfl⟩, by decide, rfl, by decide +kernel, plainFor_of_name ((RN_ok 1 (by decide)).2 (by decide))⟩
theorem yk15 : YK 15 := ⟨⟨inT (in_t4 (List.mem_of_getElem? (i := 71) rfl)) rfl, inT (in_t1 (List.mem_of_getElem? (i := 8) rfl)) rfl, (RN_ok 2 (by decide)).1, by decide⟩, fun h => absurd h (by decide), fun _ => ⟨inT (in_t4 (List.mem_of_getElem? (i := 69) rfl)) rfl, inT (in_t4 (List.mem_of_getElem? (i := 70) rfl)) rfl⟩, by decide, rfl, by decide +kernel, plainFor_of_name ((RN_ok 2 (by decide)).2 (by decide))⟩
theorem yk16 : YK 16 := ⟨⟨inT (in_t4 (List.mem_of_getElem? (i := 76) rfl)) rfl, inT (in_t1 (List.mem_of_getElem? (i := 8) rfl)) rfl, (RN_ok 2 (by decide)).1, by decide⟩, fun h => absurd h (by decide), fun _ => ⟨inT (in_t4 (List.mem_of_getElem? (i := 75) rfl)) rfl, inT (List.mem_append_left _ (List.mem_of_getElem? (i := 19) rfl)) rfl⟩, by decide, rfl, by decide +kernel, plainFor_of_name ((RN_ok 2 (by decide)).2 (by decide))⟩
theorem yk17 : YK 17 := ⟨⟨inT (in_t4 (List.mem_of_getElem? (i := 87) rfl)) rfl, inT (in_t1 (List.mem_of_getElem? (i := 8) rfl)) rfl, (RN_ok 2 (by decide)).1, by decide⟩, fun h => absurd h (by decide), fun _ => ⟨inT (in_t4 (List.mem_of_getElem? (i := 86) rfl)) rfl, inT (List.mem_append_left _ (List.mem_of_getElem? (i := 20) rfl)) rfl⟩, by decide, rfl, by decide +kernel, plainFor_of_name ((RN_ok 2 (by decide)).2 (by decide))⟩
theorem yk18 : YK 18 := ⟨⟨inT (in_t4 (List.mem_of_getElem? (i := 91) rfl)) rfl, inT (in_t1 (List.mem_of_getElem? (i := 8) rfl)) rfl, (RN_ok 2 (by decide)).1, by decide⟩, fun h => absurd h (by decide), fun _ => ⟨inT (in_t4 (List.mem_of_getElem? (i := 90) rfl)) rfl, inT (List.mem_append_left _ (List.mem_of_getElem? (i := 21) rfl)) rfl⟩, by decide, rfl, by decide +kernel, plainFor_of_name ((RN_ok 2 (by decide)).2 (by decide))⟩
theorem yk19 : YK 19 := ⟨⟨inT (in_t4 (List.mem_of_getElem? (i := 94) rfl)) rfl, inT (in_t1 (List.mem_of_getElem? (i := 8) rfl)) rfl, (RN_ok 2 (by decide)).1, by decide⟩, fun _ => inT (in_t4 (List.mem_of_getElem? (i := 93) rfl)) rfl, fun h => absurd h (by decide), by decide, rfl, by decide +kernel, plainFor_of_name ((RN_ok 2 (by decide)).2 (by decide))⟩
theorem yk20 : YK 20 := ⟨⟨inT (in_t4 (List.mem_of_getElem? (i := 109) rfl)) rfl, inT (in_t1 (List.mem_of_getElem? (i := 8) rfl)) rfl, (RN_ok 2 (by decide)).1, by decide⟩, fun h => absurd h (by decide), fun _ => ⟨inT (in_t4 (List.mem_of_getElem? (i := 108) rfl)) rfl, inT (List.mem_append_left _ (List.mem_of_getElem? (i := 24) rfl)) rfl⟩, by decide, rfl, by decide +kernel, plainFor_of_name ((RN_ok 2 (by decide)).2 (by decide))⟩
theorem yk21 : YK 21 := ⟨⟨inT (in_t4 (List.mem_of_getElem? (i := 103) rfl)) rfl, inT (in_t1 (List.mem_of_getElem? (i := 8) rfl)) rfl, (RN_ok 2 (by decide)).1, by decide⟩, fun h => absurd h (by decide), fun _ => ⟨inT (in_t4 (List.mem_of_getElem? (i := 102) rfl)) rfl, inT (List.mem_append_left _ (List.mem_of_getElem? (i := 23) rfl)) rfl⟩, by decide, rfl, by decide +kernel, plainFor_of_name ((RN_ok 2 (by decide)).2 (by decide))⟩
theorem yk22 : YK 22 := ⟨⟨inT (in_t4 (List.mem_of_getElem? (i := 98) rfl)) rfl, inT (in_t1 (List.mem_of_getElem? (i := 8) rfl)) rfl, (RN_ok 2 (by decide)).1, by decide⟩, fun h => absurd h (by decide), fun _ => ⟨inT (in_t4 (List.mem_of_getElem? (i := 97) rfl)) rfl, inT (List.mem_append_left _ (List.mem_of_getElem? (i := 22) rfl)) rfl⟩, by decide, rfl, by decide +kernel, plainFor_of_name ((RN_ok 2 (by decide)).2 (by decide))⟩
theorem yk23 : YK 23 := ⟨⟨inT (in_t3 (List.mem_of_getElem? (i := 195) rfl)) rfl, inT (in_t1 (List.mem_of_getElem? (i := 10) rfl)) rfl, (RN_ok 3 (by decide)).1, by decide⟩, fun h => absurd h (by decide), fun _ => ⟨inT (in_t3 (List.mem_of_getElem? (i := 193) rfl)) rfl, inT (in_t3 (List.mem_of_getElem? (i := 194) rfl)) rfl⟩, by decide, rfl, by decide +kernel, plainFor_of_name ((RN_ok 3 (by decide)).2 (by decide))⟩
theorem yk24 : YK 24 := ⟨⟨inT (in_t5 (List.mem_of_getElem? (i := 76) rfl)) rfl, inT (in_t1 (List.mem_of_getElem? (i := 10) rfl)) rfl, (RN_ok 3 (by decide)).1, by decide⟩, fun h => absurd h (by decide), fun _ => ⟨inT (in_t5 (List.mem_of_getElem? (i := 74) rfl)) rfl, inT (in_t5 (List.mem_of_getElem? (i := 75) rfl)) rfl⟩, by decide, rfl, by decide +kernel, plainFor_of_name ((RN_ok 3 (by decide)).2 (by decide))⟩
theorem yk25 : YK 25 := ⟨⟨inT (in_t4 (List.mem_of_getElem? (i := 47) rfl)) rfl, inT (in_t1 (List.mem_of_getElem? (i := 10) rfl)) rfl, (RN_ok 3 (by decide)).1, by decide⟩, fun h => absurd h (by decide), fun _ => ⟨inT (in_t4 (List.mem_of_getElem? (i := 45) rfl)) rfl, inT (in_t4 (List.mem_of_getElem? (i := 46) rfl)) rfl⟩, by decide, rfl, by decide +kernel, plainFor_of_name ((RN_ok 3 (by decide)).2 (by decide))⟩
theorem yk26 : YK 26 := ⟨⟨inT (in_t5 (List.mem_of_getElem? (i := 17) rfl)) rfl, inT (in_t1 (List.mem_of_getElem? (i := 10) rfl)) rfl, (RN_ok 3 (by decide)).1, by decide⟩, fun h => absurd h (by decide), fun _ => ⟨inT (in_t5 (List.mem_of_getElem? (i := 15) rfl)) rfl, inT (in_t5 (List.mem_of_getElem? (i := 16) rfl)) rfl⟩, by decide, rfl, by decide +kernel, plainFor_of_name ((RN_ok 3 (by decide)).2 (by decide))⟩
theorem yk27 : YK 27 := ⟨⟨inT (in_t4 (List.mem_of_getElem? (i := 194) rfl)) rfl, inT (in_t1 (List.mem_of_getElem? (i := 10) rfl)) rfl, (RN_ok 3 (by decide)).1, by decide⟩, fun h => absurd h (by decide), fun _ => ⟨inT (in_t4 (List.mem_of_getElem? (i := 193) rfl)) rfl, inT (List.mem_append_left _ (List.mem_of_getElem? (i := 29) rfl)) rfl⟩, by decide, rfl, by decide +kernel, plainFor_of_name ((RN_ok 3 (by decide)).2 (by decide))⟩
theorem yk28 : YK 28 := ⟨⟨inT (in_t4 (List.mem_of_getElem? (i := 198) rfl)) rfl, inT (in_t1 (List.mem_of_getElem? (i := 10) rfl)) rfl, (RN_ok 3 (by decide)).1, by decide⟩, fun h => absurd h (by decide), fun _ => ⟨inT (in_t4 (List.mem_of_getElem? (i := 197) rfl)) rfl, inT (List.mem_append_left _ (List.mem_of_getElem? (i := 30) rfl)) rfl⟩, by decide, rfl, by decide +kernel, plainFor_of_name ((RN_ok 3 (by decide)).2 (by decide))⟩
theorem yk29 : YK 29 := ⟨⟨inT (in_t4 (List.mem_of_getElem? (i := 190) rfl)) rfl, inT (in_t1 (List.mem_of_getElem? (i := 10) rfl)) rfl, (RN_ok 3 (by decide)).1, by decide⟩, fun h => absurd h (by decide), fun _ => ⟨inT (in_t4 (List.mem_of_getElem? (i := 188) rfl)) rfl, inT (in_t4 (List.mem_of_getElem? (i := 189) rfl)) rfl⟩, by decide, rfl, by decide +kernel, plainFor_of_name ((RN_ok 3 (by decide)).2 (by decide))⟩
theorem yk30 : YK 30 := ⟨⟨inT (in_t5 (List.mem_of_getElem? (i := 42) rfl)) rfl, inT (in_t1 (List.mem_of_getElem? (i := 10) rfl)) rfl, (RN_ok 3 (by decide)).1, by decide⟩, fun h => absurd h (by decide), fun _ => ⟨inT (in_t5 (List.mem_of_getElem? (i := 40) rfl)) rfl, inT (in_t5 (List.mem_of_getElem? (i := 41) rfl)) rfl⟩, by decide, rfl, by decide +kernel, plainFor_of_name ((RN_ok 3 (by decide)).2 (by decide))⟩
theorem yk31 : YK 31 := ⟨⟨inT (in_t5 (List.mem_of_getElem? (i := 58) rfl)) rfl, inT (in_t1 (List.mem_of_getElem? (i := 10) rfl)) rfl, (RN_ok 3 (by decide)).1, by decide⟩, fun h => absurd h (by decide), fun _ => ⟨inT (in_t5 (List.mem_of_getElem? (i := 56) rfl)) rfl, inT (in_t5 (List.mem_of_getElem? (i := 57) rfl)) rfl⟩, by decide, rfl, by decide +kernel, plainFor_of_name ((RN_ok 3 (by decide)).2 (by decide))⟩
theorem yk32 : YK 32 := ⟨⟨inT (in_t4 (List.mem_of_getElem? (i := 186) rfl)) rfl, inT (in_t1 (List.mem_of_getElem? (i := 10) rfl)) rfl, (RN_ok 3 (by decide)).1, by decide⟩, fun h => absurd h (by decide), fun _ => ⟨inT (in_t4 (List.mem_of_getElem? (i := 185) rfl)) rfl, inT (List.mem_append_left _ (List.mem_of_getElem? (i := 28) rfl)) rfl⟩, by decide, rfl, by decide +kernel, plainFor_of_name ((RN_ok 3 (by decide)).2 (by decide))⟩
theorem yk33 : YK 33 := ⟨⟨inT (in_t4 (List.mem_of_getElem? (i := 206) rfl)) rfl, inT (in_t1 (List.mem_of_getElem? (i := 10) rfl)) rfl, (RN_ok 3 (by decide)).1, by decide⟩, fun h => absurd h (by decide), fun _ => ⟨inT (in_t4 (List.mem_of_getElem? (i := 205) rfl)) rfl, inT (List.mem_append_left _ (List.mem_of_getElem? (i := 31) rfl)) rfl⟩, by decide, rfl, by decide +kernel, plainFor_of_name ((RN_ok 3 (by decide)).2 (by decide))⟩
theorem yk34 : YK 34 := ⟨⟨inT (in_t4 (List.mem_of_getElem? (i := 178) rfl)) rfl, inT (in_t1 (List.mem_of_getElem? (i := 10) rfl)) rfl, (RN_ok 3 (by decide)).1, by decide⟩, fun h => absurd h (by decide), fun _ => ⟨inT (in_t4 (List.mem_of_getElem? (i := 176) rfl)) rfl, inT (in_t4 (List.mem_of_getElem? (i := 177) rfl)) rfl⟩, by decide, rfl, by decide +kernel, plainFor_of_name ((RN_ok 3 (by decide)).2 (by decide))⟩
theorem yk35 : YK 35 := ⟨⟨inT (in_t4 (List.mem_of_getElem? (i := 182) rfl)) rfl, inT (in_t1 (List.mem_of_getElem? (i := 10) rfl)) rfl, (RN_ok 3 (by decide)).1, by decide⟩, fun h => absurd h (by decide), fun _ => ⟨inT (in_t4 (List.mem_of_getElem? (i := 180) rfl)) rfl, inT (in_t4 (List.mem_of_getElem? (i := 181) rfl)) rfl⟩, by decide, rfl, by decide +kernel, plainFor_of_name ((RN_ok 3 (by decide)).2 (by decide))⟩
theorem yk36 : YK 36 := ⟨⟨inT (in_t4 (List.mem_of_getElem? (i := 220) rfl)) rfl, inT (in_t1 (List.mem_of_getElem? (i := 10) rfl)) rfl, (RN_ok 3 (by decide)).1, by decide⟩, fun h => absurd h (by decide), fun _ => ⟨inT (in_t4 (List.mem_of_getElem? (i := 218) rfl)) rfl, inT (in_t4 (List.mem_of_getElem? (i := 219) rfl)) rfl⟩, by decide, rfl, by decide +kernel, plainFor_of_name ((RN_ok 3 (by decide)).2 (by decide))⟩
theorem yk37 : YK 37 := ⟨⟨inT (in_t5 (List.mem_of_getElem? (i := 117) rfl)) rfl, inT (in_t1 (List.mem_of_getElem? (i := 10) rfl)) rfl, (RN_ok 3 (by decide)).1, by decide⟩, fun h => absurd h (by decide), fun _ => ⟨inT (in_t5 (List.mem_of_getElem? (i := 115) rfl)) rfl, inT (in_t5 (List.mem_of_getElem? (i := 116) rfl)) rfl⟩, by decide, rfl, by decide +kernel, plainFor_of_name ((RN_ok 3 (by decide)).2 (by decide))⟩
theorem yk38 : YK 38 := ⟨⟨inT (in_t3 (List.mem_of_getElem? (i := 191) rfl)) rfl, inT (in_t1 (List.mem_of_getElem? (i := 7) rfl)) rfl, (RN_ok 4 (by decide)).1, by decide⟩, fun h => absurd h (by decide), fun _ => ⟨inT (in_t3 (List.mem_of_getElem? (i := 189) rfl)) rfl, inT (in_t3 (List.mem_of_getElem? (i := 190) rfl)) rfl⟩, by decide, rfl, by decide +kernel, plainFor_of_name ((RN_ok 4 (by decide)).2 (by decide))⟩
theorem yk39 : YK 39 := ⟨⟨inT (in_t3 (List.mem_of_getElem? (i := 203) rfl)) rfl, inT (in_t1 (List.mem_of_getElem? (i := 7) rfl)) rfl, (RN_ok 4 (by decide)).1, by decide⟩, fun h => absurd h (by decide), fun _ => ⟨inT (in_t3 (List.mem_of_getElem? (i := 202) rfl)) rfl, inT (List.mem_append_left _ (List.mem_of_getElem? (i := 9) rfl)) rfl⟩, by decide, rfl, by decide +kernel, plainFor_of_name ((RN_ok 4 (by decide)).2 (by decide))⟩
theorem yk40 : YK 40 := ⟨⟨inT (in_t3 (List.mem_of_getElem? (i := 207) rfl)) rfl, inT (in_t1 (List.mem_of_getElem? (i := 7) rfl)) rfl, (RN_ok 4 (by decide)).1, by decide⟩, fun h => absurd h (by decide), fun _ => ⟨inT (in_t3 (List.mem_of_getElem? (i := 206) rfl)) rfl, inT (List.mem_append_left _ (List.mem_of_getElem? (i := 10) rfl)) rfl⟩, by decide, rfl, by decide +kernel, plainFor_of_name ((RN_ok 4 (by decide)).2 (by decide))⟩
theorem yk41 : YK 41 := ⟨⟨inT (in_t3 (List.mem_of_getElem? (i := 226) rfl)) rfl, inT (in_t1 (List.mem_of_getElem? (i := 7) rfl)) rfl, (RN_ok 4 (by decide)).1, by decide⟩, fun h => absurd h (by decide), fun _ => ⟨inT (in_t3 (List.mem_of_getElem? (i := 225) rfl)) rfl, inT (List.mem_append_left _ (List.mem_of_getElem? (i := 11) rfl)) rfl⟩, by decide, rfl, by decide +kernel, plainFor_of_name ((RN_ok 4 (by decide)).2 (by decide))⟩
theorem yk42 : YK 42 := ⟨⟨inT (in_t3 (List.mem_of_getElem? (i := 230) rfl)) rfl, inT (in_t1 (List.mem_of_getElem? (i := 7) rfl)) rfl, (RN_ok 4 (by decide)).1, by decide⟩, fun h => absurd h (by decide), fun _ => ⟨inT (in_t3 (List.mem_of_getElem? (i := 229) rfl)) rfl, inT (List.mem_append_left _ (List.mem_of_getElem? (i := 12) rfl)) rfl⟩, by decide, rfl, by decide +kernel, plainFor_of_name ((RN_ok 4 (by decide)).2 (by decide))⟩
theorem yk43 : YK 43 := ⟨⟨inT (in_t4 (List.mem_of_getElem? (i := 18) rfl)) rfl, inT (in_t1 (List.mem_of_getElem? (i := 7) rfl)) rfl, (RN_ok 4 (by decide)).1, by decide⟩, fun h => absurd h (by decide), fun _ => ⟨inT (in_t4 (List.mem_of_getElem? (i := 17) rfl)) rfl, inT (List.mem_append_left _ (List.mem_of_getElem? (i := 14) rfl)) rfl⟩, by decide, rfl, by decide +kernel, plainFor_of_name ((RN_ok 4 (by decide)).2 (by decide))⟩
theorem yk44 : YK 44 := ⟨⟨inT (in_t3 (List.mem_of_getElem? (i := 234) rfl)) rfl, inT (in_t1 (List.mem_of_getElem? (i := 7) rfl)) rfl, (RN_ok 4 (by decide)).1, by decide⟩, fun h => absurd h (by decide), fun _ => ⟨inT (in_t3 (List.mem_of_getElem? (i := 233) rfl)) rfl, inT (List.mem_append_left _ (List.mem_of_getElem? (i := 13) rfl)) rfl⟩, by decide, rfl, by decide +kernel, plainFor_of_name ((RN_ok 4 (by decide)).2 (by decide))⟩
theorem yk45 : YK 45 := ⟨⟨inT (in_t4 (List.mem_of_getElem? (i := 33) rfl)) rfl, inT (in_t1 (List.mem_of_getElem? (i := 7) rfl)) rfl, (RN_ok 4 (by decide)).1, by decide⟩, fun h => absurd h (by decide), fun _ => ⟨inT (in_t4 (List.mem_of_getElem? (i := 32) rfl)) rfl, inT (List.mem_append_left _ (List.mem_of_getElem? (i := 15) rfl)) rfl⟩, by decide, rfl, by decide +kernel, plainFor_of_name ((RN_ok 4 (by decide)).2 (by decide))⟩
theorem yk46 : YK 46 := ⟨⟨inT (in_t4 (List.mem_of_getElem? (i := 43) rfl)) rfl, inT (in_t1 (List.mem_of_getElem? (i := 7) rfl)) rfl, (RN_ok 4 (by decide)).1, by decide⟩, fun h => absurd h (by decide), fun _ => ⟨inT (in_t4 (List.mem_of_getElem? (i := 42) rfl)) rfl, inT (List.mem_append_left _ (List.mem_of_getElem? (i := 16) rfl)) rfl⟩, by decide, rfl, by decide +kernel, plainFor_of_name ((RN_ok 4 (by decide)).2 (by decide))⟩
theorem yk47 : YK 47 := ⟨⟨inT (in_t4 (List.mem_of_getElem? (i := 51) rfl)) rfl, inT (in_t1 (List.mem_of_getElem? (i := 7) rfl)) rfl, (RN_ok 4 (by decide)).1, by decide⟩, fun h => absurd h (by decide), fun _ => ⟨inT (in_t4 (List.mem_of_getElem? (i := 50) rfl)) rfl, inT (List.mem_append_left _ (List.mem_of_getElem? (i := 17) rfl)) rfl⟩, by decide, rfl, by decide +kernel, plainFor_of_name ((RN_ok 4 (by decide)).2 (by decide))⟩
theorem yk48 : YK 48 := ⟨⟨inT (in_t6 (List.mem_of_getElem? (i := 83) rfl)) rfl, inT (in_t1 (List.mem_of_getElem? (i := 14) rfl)) rfl, (RN_ok 5 (by decide)).1, by decide⟩, fun h => absurd h (by decide), fun _ => ⟨inT (in_t6 (List.mem_of_getElem? (i := 81) rfl)) rfl, inT (in_t6 (List.mem_of_getElem? (i := 82) rfl)) rfl⟩, by decide, rfl, by decide +kernel, plainFor_of_name ((RN_ok 5 (by decide)).2 (by decide))⟩
theorem yk49 : YK 49 := ⟨⟨inT (in_t6 (List.mem_of_getElem? (i := 88) rfl)) rfl, inT (in_t1 (List.mem_of_getElem? (i := 14) rfl)) rfl, (RN_ok 5 (by decide)).1, by decide⟩, fun h => absurd h (by decide), fun _ => ⟨inT (in_t6 (List.mem_of_getElem? (i := 87) rfl)) rfl, inT (List.mem_append_left _ (List.mem_of_getElem? (i := 42) rfl)) rfl⟩, by decide, rfl, by decide +kernel, plainFor_of_name ((RN_ok 5 (by decide)).2 (by decide))⟩
theorem yk50 : YK 50 := ⟨⟨inT (in_t6 (List.mem_of_getElem? (i := 92) rfl)) rfl, inT (in_t1 (List.mem_of_getElem? (i := 14) rfl)) rfl, (RN_ok 5 (by decide)).1, by decide⟩, fun h => absurd h (by decide), fun _ => ⟨inT (in_t6 (List.mem_of_getElem? (i := 91) rfl)) rfl, inT (List.mem_append_left _ (List.mem_of_getElem? (i := 43) rfl)) rfl⟩, by decide, rfl, by decide +kernel, plainFor_of_name ((RN_ok 5 (by decide)).2 (by decide))⟩
theorem yk51 : YK 51 := ⟨⟨inT (in_t6 (List.mem_of_getElem? (i := 96) rfl)) rfl, inT (in_t1 (List.mem_of_getElem? (i := 14) rfl)) rfl, (RN_ok 5 (by decide)).1, by decide⟩, fun h => absurd h (by decide), fun _ => ⟨inT (in_t6 (List.mem_of_getElem? (i := 95) rfl)) rfl, inT (List.mem_append_left _ (List.mem_of_getElem? (i := 44) rfl)) rfl⟩, by decide, rfl, by decide +kernel, plainFor_of_name ((RN_ok 5 (by decide)).2 (by decide))⟩
theorem yk52 : YK 52 := ⟨⟨inT (in_t6 (List.mem_of_getElem? (i := 104) rfl)) rfl, inT (in_t1 (List.mem_of_getElem? (i := 14) rfl)) rfl, (RN_ok 5 (by decide)).1, by decide⟩, fun h => absurd h (by decide), fun _ => ⟨inT (in_t6 (List.mem_of_getElem? (i := 103) rfl)) rfl, inT (List.mem_append_left _ (List.mem_of_getElem? (i := 45) rfl)) rfl⟩, by decide, rfl, by decide +kernel, plainFor_of_name ((RN_ok 5 (by decide)).2 (by decide))⟩
theorem yk53 : YK 53 := ⟨⟨inT (in_t6 (List.mem_of_getElem? (i := 108) rfl)) rfl, inT (in_t1 (List.mem_of_getElem? (i := 14) rfl)) rfl, (RN_ok 5 (by decide)).1, by decide⟩, fun h => absurd h (by decide), fun _ => ⟨inT (in_t6 (List.mem_of_getElem? (i := 107) rfl)) rfl, inT (List.mem_append_left _ (List.mem_of_getElem? (i := 46) rfl)) rfl⟩, by decide, rfl, by decide +kernel, plainFor_of_name ((RN_ok 5 (by decide)).2 (by decide))⟩
theorem yk54 : YK 54 := ⟨⟨inT (in_t6 (List.mem_of_getElem? (i := 114) rfl)) rfl, inT (in_t1 (List.mem_of_getElem? (i := 14) rfl)) rfl, (RN_ok 5 (by decide)).1, by decide⟩, fun h => absurd h (by decide), fun _ => ⟨inT (in_t6 (List.mem_of_getElem? (i := 113) rfl)) rfl, inT (List.mem_append_left _ (List.mem_of_getElem? (i := 47) rfl)) rfl⟩, by decide, rfl, by decide +kernel, plainFor_of_name ((RN_ok 5 (by decide)).2 (by decide))⟩
theorem yk55 : YK 55 := ⟨⟨inT (in_t6 (List.mem_of_getElem? (i := 117) rfl)) rfl, inT (in_t1 (List.mem_of_getElem? (i := 14) rfl)) rfl, (RN_ok 5 (by decide)).1, by decide⟩, fun _ => inT (in_t6 (List.mem_of_getElem? (i := 116) rfl)) rfl, fun h => absurd h (by decide), by decide, rfl, by decide +kernel, plainFor_of_name ((RN_ok 5 (by decide)).2 (by decide))⟩
theorem yk56 : YK 56 := ⟨⟨inT (in_t3 (List.mem_of_getElem? (i := 199) rfl)) rfl, inT (in_t1 (List.mem_of_getElem? (i := 12) rfl)) rfl, (RN_ok 6 (by decide)).1, by decide⟩, fun h => absurd h (by decide), fun _ => ⟨inT (in_t3 (List.mem_of_getElem? (i := 197) rfl)) rfl, inT (in_t3 (List.mem_of_getElem? (i := 198) rfl)) rfl⟩, by decide, rfl, by decide +kernel, plainFor_of_name ((RN_ok 6 (by decide)).2 (by decide))⟩
theorem yk57 : YK 57 := ⟨⟨inT (in_t5 (List.mem_of_getElem? (i := 85) rfl)) rfl, inT (in_t1 (List.mem_of_getElem? (i := 12) rfl)) rfl, (RN_ok 6 (by decide)).1, by decide⟩, fun h => absurd h (by decide), fun _ => ⟨inT (in_t5 (List.mem_of_getElem? (i := 83) rfl)) rfl, inT (in_t5 (List.mem_of_getElem? (i := 84) rfl)) rfl⟩, by decide, rfl, by decide +kernel, plainFor_of_name ((RN_ok 6 (by decide)).2 (by decide))⟩
theorem yk58 : YK 58 := ⟨⟨inT (in_t4 (List.mem_of_getElem? (i := 22) rfl)) rfl, inT (in_t1 (List.mem_of_getElem? (i := 12) rfl)) rfl, (RN_ok 6 (by decide)).1, by decide⟩, fun h => absurd h (by decide), fun _ => ⟨inT (in_t4 (List.mem_of_getElem? (i := 20) rfl)) rfl, inT (in_t4 (List.mem_of_getElem? (i := 21) rfl)) rfl⟩, by decide, rfl, by decide +kernel, plainFor_of_name ((RN_ok 6 (by decide)).2 (by decide))⟩
theorem yk59 : YK 59 := ⟨⟨inT (in_t4 (List.mem_of_getElem? (i := 6) rfl)) rfl, inT (in_t1 (List.mem_of_getElem? (i := 12) rfl)) rfl, (RN_ok 6 (by decide)).1, by decide⟩, fun h => absurd h (by decide), fun _ => ⟨inT (in_t4 (List.mem_of_getElem? (i := 4) rfl)) rfl, inT (in_t4 (List.mem_of_getElem? (i := 5) rfl)) rfl⟩, by decide, rfl, by decide +kernel, plainFor_of_name ((RN_ok 6 (by decide)).2 (by decide))⟩
theorem yk60 : YK 60 := ⟨⟨inT (in_t4 (List.mem_of_getElem? (i := 150) rfl)) rfl, inT (in_t1 (List.mem_of_getElem? (i := 12) rfl)) rfl, (RN_ok 6 (by decide)).1, by decide⟩, fun h => absurd h (by decide), fun _ => ⟨inT (in_t4 (List.mem_of_getElem? (i := 148) rfl)) rfl, inT (in_t4 (List.mem_of_getElem? (i := 149) rfl)) rfl⟩, by decide, rfl, by decide +kernel, plainFor_of_name ((RN_ok 6 (by decide)).2 (by decide))⟩
theorem yk61 : YK 61 := ⟨⟨inT (in_t4 (List.mem_of_getElem? (i := 26) rfl)) rfl, inT (in_t1 (List.mem_of_getElem? (i := 12) rfl)) rfl, (RN_ok 6 (by decide)).1, by decide⟩, fun h => absurd h (by decide), fun _ => ⟨inT (in_t4 (List.mem_of_getElem? (i := 24) rfl)) rfl, inT (in_t4 (List.mem_of_getElem? (i := 25) rfl)) rfl⟩, by decide, rfl, by decide +kernel, plainFor_of_name ((RN_ok 6 (by decide)).2 (by decide))⟩
theorem yk62 : YK 62 := ⟨⟨inT (in_t4 (List.mem_of_getElem? (i := 55) rfl)) rfl, inT (in_t1 (List.mem_of_getElem? (i := 12) rfl)) rfl, (RN_ok 6 (by decide)).1, by decide⟩, fun h => absurd h (by decide), fun _ => ⟨inT (in_t4 (List.mem_of_getElem? (i := 53) rfl)) rfl, inT (in_t4 (List.mem_of_getElem? (i := 54) rfl)) rfl⟩, by decide, rfl, by decide +kernel, plainFor_of_name ((RN_ok 6 (by decide)).2 (by decide))⟩
theorem yk63 : YK 63 := ⟨⟨inT (in_t4 (List.mem_of_getElem? (i := 224) rfl)) rfl, inT (in_t1 (List.mem_of_getElem? (i := 12) rfl)) rfl, (RN_ok 6 (by decide)).1, by decide⟩, fun h => absurd h (by decide), fun _ => ⟨inT (in_t4 (List.mem_of_getElem? (i := 222) rfl)) rfl, inT (in_t4 (List.mem_of_getElem? (i := 223) rfl)) rfl⟩, by decide, rfl, by decide +kernel, plainFor_of_name ((RN_ok 6 (by decide)).2 (by decide))⟩
theorem yk64 : YK 64 := ⟨⟨inT (in_t5 (List.mem_of_getElem? (i := 182) rfl)) rfl, inT (in_t1 (List.mem_of_getElem? (i := 12) rfl)) rfl, (RN_ok 6 (by decide)).1, by decide⟩, fun h => absurd h (by decide), fun _ => ⟨inT (in_t5 (List.mem_of_getElem? (i := 180) rfl)) rfl, inT (in_t5 (List.mem_of_getElem? (i := 181) rfl)) rfl⟩, by decide, rfl, by decide +kernel, plainFor_of_name ((RN_ok 6 (by decide)).2 (by decide))⟩
theorem yk65 : YK 65 := ⟨⟨inT (in_t5 (List.mem_of_getElem? (i := 128) rfl)) rfl, inT (in_t1 (List.mem_of_getElem? (i := 12) rfl)) rfl, (RN_ok 6 (by decide)).1, by decide⟩, fun h => absurd h (by decide), fun _ => ⟨inT (in_t5 (List.mem_of_getElem? (i := 126) rfl)) rfl, inT (in_t5 (List.mem_of_getElem? (i := 127) rfl)) rfl⟩, by decide, rfl, by decide +kernel, plainFor_of_name ((RN_ok 6 (by decide)).2 (by decide))⟩
theorem yk66 : YK 66 := ⟨⟨inT (in_t6 (List.mem_of_getElem? (i := 49) rfl)) rfl, inT (in_t1 (List.mem_of_getElem? (i := 12) rfl)) rfl, (RN_ok 6 (by decide)).1, by decide⟩, fun _ => inT (in_t6 (List.mem_of_getElem? (i := 48) rfl)) rfl, fun h => absurd h (by decide), by decide, rfl, by decide +kernel, plainFor_of_name ((RN_ok 6 (by decide)).2 (by decide))⟩
theorem yk67 : YK 67 := ⟨⟨inT (in_t5 (List.mem_of_getElem? (i := 209) rfl)) rfl, inT (in_t1 (List.mem_of_getElem? (i := 13) rfl)) rfl, (RN_ok 7 (by decide)).1, by decide⟩, fun h => absurd h (by decide), fun _ => ⟨inT (in_t5 (List.mem_of_getElem? (i := 207) rfl)) rfl, inT (in_t5 (List.mem_of_getElem? (i := 208) rfl)) rfl⟩, by decide, rfl, by decide +kernel, plainFor_of_name ((RN_ok 7 (by decide)).2 (by decide))⟩
theorem yk68 : YK 68 := ⟨⟨inT (in_t5 (List.mem_of_getElem? (i := 213) rfl)) rfl, inT (in_t1 (List.mem_of_getElem? (i := 13) rfl)) rfl, (RN_ok 7 (by decide)).1, by decide⟩, fun h => absurd h (by decide), fun _ => ⟨inT (in_t5 (List.mem_of_getElem? (i := 212) rfl)) rfl, inT (List.mem_append_left _ (List.mem_of_getElem? (i := 36) rfl)) rfl⟩, by decide, rfl, by decide +kernel, plainFor_of_name ((RN_ok 7 (by decide)).2 (by decide))⟩
theorem yk69 : YK 69 := ⟨⟨inT (in_t5 (List.mem_of_getElem? (i := 228) rfl)) rfl, inT (in_t1 (List.mem_of_getElem? (i := 13) rfl)) rfl, (RN_ok 7 (by decide)).1, by decide⟩, fun h => absurd h (by decide), fun _ => ⟨inT (in_t5 (List.mem_of_getElem? (i := 226) rfl)) rfl, inT (in_t5 (List.mem_of_getElem? (i := 227) rfl)) rfl⟩, by decide, rfl, by decide +kernel, plainFor_of_name ((RN_ok 7 (by decide)).2 (by decide))⟩
theorem yk70 : YK 70 := ⟨⟨inT (in_t5 (List.mem_of_getElem? (i := 232) rfl)) rfl, inT (in_t1 (List.mem_of_getElem? (i := 13) rfl)) rfl, (RN_ok 7 (by decide)).1, by decide⟩, fun h => absurd h (by decide), fun _ => ⟨inT (in_t5 (List.mem_of_getElem? (i := 231) rfl)) rfl, inT (List.mem_append_left _ (List.mem_of_getElem? (i := 37) rfl)) rfl⟩, by decide, rfl, by decide +kernel, plainFor_of_name ((RN_ok 7 (by decide)).2 (by decide))⟩
theorem yk71 : YK 71 := ⟨⟨inT (in_t6 (List.mem_of_getElem? (i := 3) rfl)) rfl, inT (in_t1 (List.mem_of_getElem? (i := 13) rfl)) rfl, (RN_ok 7 (by decide)).1, by decide⟩, fun _ => inT (in_t6 (List.mem_of_getElem? (i := 2) rfl)) rfl, fun h => absurd h (by decide), by decide, rfl, by decide +kernel, plainFor_of_name ((RN_ok 7 (by decide)).2 (by decide))⟩
theorem yk72 : YK 72 := ⟨⟨inT (in_t6 (List.mem_of_getElem? (i := 10) rfl)) rfl, inT (in_t1 (List.mem_of_getElem? (i := 13) rfl)) rfl, (RN_ok 7 (by decide)).1, by decide⟩, fun _ => inT (in_t6 (List.mem_of_getElem? (i := 9) rfl)) rfl, fun h => absurd h (by decide), by decide, rfl, by decide +kernel, plainFor_of_name ((RN_ok 7 (by decide)).2 (by decide))⟩
theorem yk73 : YK 73 := ⟨⟨inT (in_t3 (List.mem_of_getElem? (i := 163) rfl)) rfl, inT (in_t1 (List.mem_of_getElem? (i := 2) rfl)) rfl, (RN_ok 8 (by decide)).1, by decide⟩, fun h => absurd h (by decide), fun _ => ⟨inT (in_t3 (List.mem_of_getElem? (i := 161) rfl)) rfl, inT (in_t3 (List.mem_of_getElem? (i := 162) rfl)) rfl⟩, by decide, rfl, by decide +kernel, plainFor_of_name ((RN_ok 8 (by decide)).2 (by decide))⟩
theorem yk74 : YK 74 := ⟨⟨inT (in_t3 (List.mem_of_getElem? (i := 171) rfl)) rfl, inT (in_t1 (List.mem_of_getElem? (i := 2) rfl)) rfl, (RN_ok 8 (by decide)).1, by decide⟩, fun h => absurd h (by decide), fun _ => ⟨inT (in_t3 (List.mem_of_getElem? (i := 169) rfl)) rfl, inT (in_t3 (List.mem_of_getElem? (i := 170) rfl)) rfl⟩, by decide, rfl, by decide +kernel, plainFor_of_name ((RN_ok 8 (by decide)).2 (by decide))⟩
theorem yk75 : YK 75 := ⟨⟨inT (in_t3 (List.mem_of_getElem? (i := 175) rfl)) rfl, inT (in_t1 (List.mem_of_getElem? (i := 2) rfl)) rfl, (RN_ok 8 (by decide)).1, by decide⟩, fun h => absurd h (by decide), fun _ => ⟨inT (in_t3 (List.mem_of_getElem? (i := 173) rfl)) rfl, inT (in_t3 (List.mem_of_getElem? (i := 174) rfl)) rfl⟩, by decide, rfl, by decide +kernel, plainFor_of_name ((RN_ok 8 (by decide)).2 (by decide))⟩
theorem yk76 : YK 76 := ⟨⟨inT (in_t3 (List.mem_of_getElem? (i := 179) rfl)) rfl, inT (in_t1 (List.mem_of_getElem? (i := 2) rfl)) rfl, (RN_ok 8 (by decide)).1, by decide⟩, fun h => absurd h (by decide), fun _ => ⟨inT (in_t3 (List.mem_of_getElem? (i := 178) rfl)) rfl, inT (List.mem_append_left _ (List.mem_of_getElem? (i := 6) rfl)) rfl⟩, by decide, rfl, by decide +kernel, plainFor_of_name ((RN_ok 8 (by decide)).2 (by decide))⟩
theorem yk77 : YK 77 := ⟨⟨inT (in_t3 (List.mem_of_getElem? (i := 183) rfl)) rfl, inT (in_t1 (List.mem_of_getElem? (i := 2) rfl)) rfl, (RN_ok 8 (by decide)).1, by decide⟩, fun h => absurd h (by decide), fun _ => ⟨inT (in_t3 (List.mem_of_getElem? (i := 182) rfl)) rfl, inT (List.mem_append_left _ (List.mem_of_getElem? (i := 7) rfl)) rfl⟩, by decide, rfl, by decide +kernel, plainFor_of_name ((RN_ok 8 (by decide)).2 (by decide))⟩
theorem yk78 : YK 78 := ⟨⟨inT (in_t3 (List.mem_of_getElem? (i := 187) rfl)) rfl, inT (in_t1 (List.mem_of_getElem? (i := 2) rfl)) rfl, (RN_ok 8 (by decide)).1, by decide⟩, fun h => absurd h (by decide), fun _ => ⟨inT (in_t3 (List.mem_of_getElem? (i := 186) rfl)) rfl, inT (List.mem_append_left _ (List.mem_of_getElem? (i := 8) rfl)) rfl⟩, by decide, rfl, by decide +kernel, plainFor_of_name ((RN_ok 8 (by decide)).2 (by decide))⟩
theorem yk79 : YK 79 := ⟨⟨inT (in_t3 (List.mem_of_getElem? (i := 211) rfl)) rfl, inT (in_t1 (List.mem_of_getElem? (i := 2) rfl)) rfl, (RN_ok 8 (by decide)).1, by decide⟩, fun h => absurd h (by decide), fun _ => ⟨inT (in_t3 (List.mem_of_getElem? (i := 209) rfl)) rfl, inT (in_t3 (List.mem_of_getElem? (i := 210) rfl)) rfl⟩, by decide, rfl, by decide +kernel, plainFor_of_name ((RN_ok 8 (by decide)).2 (by decide))⟩
theorem yk80 : YK 80 := ⟨⟨inT (in_t3 (List.mem_of_getElem? (i := 238) rfl)) rfl, inT (in_t1 (List.mem_of_getElem? (i := 2) rfl)) rfl, (RN_ok 8 (by decide)).1, by decide⟩, fun h => absurd h (by decide), fun _ => ⟨inT (in_t3 (List.mem_of_getElem? (i := 236) rfl)) rfl, inT (in_t3 (List.mem_of_getElem? (i := 237) rfl)) rfl⟩, by decide, rfl, by decide +kernel, plainFor_of_name ((RN_ok 8 (by decide)).2 (by decide))⟩
theorem yk81 : YK 81 := ⟨⟨inT (in_t4 (List.mem_of_getElem? (i := 10) rfl)) rfl, inT (in_t1 (List.mem_of_getElem? (i := 2) rfl)) rfl, (RN_ok 8 (by decide)).1, by decide⟩, fun h => absurd h (by decide), fun _ => ⟨inT (in_t4 (List.mem_of_getElem? (i := 8) rfl)) rfl, inT (in_t4 (List.mem_of_getElem? (i := 9) rfl)) rfl⟩, by decide, rfl, by decide +kernel, plainFor_of_name ((RN_ok 8 (by decide)).2 (by decide))⟩
theorem yk82 : YK 82 := ⟨⟨inT (in_t3 (List.mem_of_getElem? (i := 222) rfl)) rfl, inT (in_t1 (List.mem_of_getElem? (i := 2) rfl)) rfl, (RN_ok 8 (by decide)).1, by decide⟩, fun h => absurd h (by decide), fun _ => ⟨inT (in_t3 (List.mem_of_getElem? (i := 220) rfl)) rfl, inT (in_t3 (List.mem_of_getElem? (i := 221) rfl)) rfl⟩, by decide, rfl, by decide +kernel, plainFor_of_name ((RN_ok 8 (by decide)).2 (by decide))⟩
theorem yk83 : YK 83 := ⟨⟨inT (in_t4 (List.mem_of_getElem? (i := 37) rfl)) rfl, inT (in_t1 (List.mem_of_getElem? (i := 2) rfl)) rfl, (RN_ok 8 (by decide)).1, by decide⟩, fun h => absurd h (by decide), fun _ => ⟨inT (in_t4 (List.mem_of_getElem? (i := 35) rfl)) rfl, inT (in_t4 (List.mem_of_getElem? (i := 36) rfl)) rfl⟩, by decide, rfl, by decide +kernel, plainFor_of_name ((RN_ok 8 (by decide)).2 (by decide))⟩
theorem yk84 : YK 84 := ⟨⟨inT (in_t4 (List.mem_of_getElem? (i := 114) rfl)) rfl, inT (in_t1 (List.mem_of_getElem? (i := 2) rfl)) rfl, (RN_ok 8 (by decide)).1, by decide⟩, fun h => absurd h (by decide), fun _ => ⟨inT (in_t4 (List.mem_of_getElem? (i := 112) rfl)) rfl, inT (in_t4 (List.mem_of_getElem? (i := 113) rfl)) rfl⟩, by decide, rfl, by decide +kernel, plainFor_of_name ((RN_ok 8 (by decide)).2 (by decide))⟩
theorem yk85 : YK 85 := ⟨⟨inT (in_t3 (List.mem_of_getElem? (i := 216) rfl)) rfl, inT (in_t1 (List.mem_of_getElem? (i := 2) rfl)) rfl, (RN_ok 8 (by decide)).1, by decide⟩, fun h => absurd h (by decide), fun _ => ⟨inT (in_t3 (List.mem_of_getElem? (i := 214) rfl)) rfl, inT (in_t3 (List.mem_of_getElem? (i := 215) rfl)) rfl⟩, by decide, rfl, by decide +kernel, plainFor_of_name ((RN_ok 8 (by decide)).2 (by decide))⟩
theorem yk86 : YK 86 := ⟨⟨inT (in_t5 (List.mem_of_getElem? (i := 80) rfl)) rfl, inT (in_t1 (List.mem_of_getElem? (i := 11) rfl)) rfl, (RN_ok 9 (by decide)).1, by decide⟩, fun h => absurd h (by decide), fun _ => ⟨inT (in_t5 (List.mem_of_getElem? (i := 78) rfl)) rfl, inT (in_t5 (List.mem_of_getElem? (i := 79) rfl)) rfl⟩, by decide, rfl, by decide +kernel, plainFor_of_name ((RN_ok 9 (by decide)).2 (by decide))⟩
theorem yk87 : YK 87 := ⟨⟨inT (in_t4 (List.mem_of_getElem? (i := 14) rfl)) rfl, inT (in_t1 (List.mem_of_getElem? (i := 11) rfl)) rfl, (RN_ok 9 (by decide)).1, by decide⟩, fun h => absurd h (by decide), fun _ => ⟨inT (in_t4 (List.mem_of_getElem? (i := 12) rfl)) rfl, inT (in_t4 (List.mem_of_getElem? (i := 13) rfl)) rfl⟩, by decide, rfl, by decide +kernel, plainFor_of_name ((RN_ok 9 (by decide)).2 (by decide))⟩
theorem yk88 : YK 88 := ⟨⟨inT (in_t4 (List.mem_of_getElem? (i := 2) rfl)) rfl, inT (in_t1 (List.mem_of_getElem? (i := 11) rfl)) rfl, (RN_ok 9 (by decide)).1, by decide⟩, fun h => absurd h (by decide), fun _ => ⟨inT (in_t4 (List.mem_of_getElem? (i := 0) rfl)) rfl, inT (in_t4 (List.mem_of_getElem? (i := 1) rfl)) rfl⟩, by decide, rfl, by decide +kernel, plainFor_of_name ((RN_ok 9 (by decide)).2 (by decide))⟩
theorem yk89 : YK 89 := ⟨⟨inT (in_t4 (List.mem_of_getElem? (i := 134) rfl)) rfl, inT (in_t1 (List.mem_of_getElem? (i := 11) rfl)) rfl, (RN_ok 9 (by decide)).1, by decide⟩, fun h => absurd h (by decide), fun _ => ⟨inT (in_t4 (List.mem_of_getElem? (i := 132) rfl)) rfl, inT (in_t4 (List.mem_of_getElem? (i := 133) rfl)) rfl⟩, by decide, rfl, by decide +kernel, plainFor_of_name ((RN_ok 9 (by decide)).2 (by decide))⟩
theorem yk90 : YK 90 := ⟨⟨inT (in_t5 (List.mem_of_getElem? (i := 46) rfl)) rfl, inT (in_t1 (List.mem_of_getElem? (i := 11) rfl)) rfl, (RN_ok 9 (by decide)).1, by decide⟩, fun h => absurd h (by decide), fun _ => ⟨inT (in_t5 (List.mem_of_getElem? (i := 44) rfl)) rfl, inT (in_t5 (List.mem_of_getElem? (i := 45) rfl)) rfl⟩, by decide, rfl, by decide +kernel, plainFor_of_name ((RN_ok 9 (by decide)).2 (by decide))⟩
theorem yk91 : YK 91 := ⟨⟨inT (in_t4 (List.mem_of_getElem? (i := 210) rfl)) rfl, inT (in_t1 (List.mem_of_getElem? (i := 11) rfl)) rfl, (RN_ok 9 (by decide)).1, by decide⟩, fun h => absurd h (by decide), fun _ => ⟨inT (in_t4 (List.mem_of_getElem? (i := 208) rfl)) rfl, inT (in_t4 (List.mem_of_getElem? (i := 209) rfl)) rfl⟩, by decide, rfl, by decide +kernel, plainFor_of_name ((RN_ok 9 (by decide)).2 (by decide))⟩
theorem yk92 : YK 92 := ⟨⟨inT (in_t3 (List.mem_of_getElem? (i := 113) rfl)) rfl, inT (in_t1 (List.mem_of_getElem? (i := 16) rfl)) rfl, (RN_ok 10 (by decide)).1, by decide⟩, fun h => absurd h (by decide), fun _ => ⟨inT (in_t3 (List.mem_of_getElem? (i := 111) rfl)) rfl, inT (in_t3 (List.mem_of_getElem? (i := 112) rfl)) rfl⟩, by decide, rfl, by decide +kernel, plainFor_of_name ((RN_ok 10 (by decide)).2 (by decide))⟩
theorem yk93 : YK 93 := ⟨⟨inT (in_t3 (List.mem_of_getElem? (i := 152) rfl)) rfl, inT (in_t1 (List.mem_of_getElem? (i := 16) rfl)) rfl, (RN_ok 10 (by decide)).1, by decide⟩, fun h => absurd h (by decide), fun _ => ⟨inT (in_t3 (List.mem_of_getElem? (i := 150) rfl)) rfl, inT (in_t3 (List.mem_of_getElem? (i := 151) rfl)) rfl⟩, by decide, rfl, by decide +kernel, plainFor_of_name ((RN_ok 10 (by decide)).2 (by decide))⟩
theorem yk94 : YK 94 := ⟨⟨inT (in_t3 (List.mem_of_getElem? (i := 132) rfl)) rfl, inT (in_t1 (List.mem_of_getElem? (i := 16) rfl)) rfl, (RN_ok 10 (by decide)).1, by decide⟩, fun h => absurd h (by decide), fun _ => ⟨inT (in_t3 (List.mem_of_getElem? (i := 130) rfl)) rfl, inT (in_t3 (List.mem_of_getElem? (i := 131) rfl)) rfl⟩, by decide, rfl, by decide +kernel, plainFor_of_name ((RN_ok 10 (by decide)).2 (by decide))⟩
theorem yk95 : YK 95 := ⟨⟨inT (in_t3 (List.mem_of_getElem? (i := 136) rfl)) rfl, inT (in_t1 (List.mem_of_getElem? (i := 16) rfl)) rfl, (RN_ok 10 (by decide)).1, by decide⟩, fun h => absurd h (by decide), fun _ => ⟨inT (in_t3 (List.mem_of_getElem? (i := 135) rfl)) rfl, inT (List.mem_append_left _ (List.mem_of_getElem? (i := 4) rfl)) rfl⟩, by decide, rfl, by decide +kernel, plainFor_of_name ((RN_ok 10 (by decide)).2 (by decide))⟩
theorem yk96 : YK 96 := ⟨⟨inT (in_t3 (List.mem_of_getElem? (i := 86) rfl)) rfl, inT (in_t1 (List.mem_of_getElem? (i := 1) rfl)) rfl, (RN_ok 11 (by decide)).1, by decide⟩, fun h => absurd h (by decide), fun _ => ⟨inT (in_t3 (List.mem_of_getElem? (i := 84) rfl)) rfl, inT (in_t3 (List.mem_of_getElem? (i := 85) rfl)) rfl⟩, by decide, rfl, by decide +kernel, plainFor_of_name ((RN_ok 11 (by decide)).2 (by decide))⟩
theorem yk97 : YK 97 := ⟨⟨inT (in_t3 (List.mem_of_getElem? (i := 90) rfl)) rfl, inT (in_t1 (List.mem_of_getElem? (i := 1) rfl)) rfl, (RN_ok 11 (by decide)).1, by decide⟩, fun h => absurd h (by decide), fun _ => ⟨inT (in_t3 (List.mem_of_getElem? (i := 88) rfl)) rfl, inT (in_t3 (List.mem_of_getElem? (i := 89) rfl)) rfl⟩, by decide, rfl, by decide +kernel, plainFor_of_name ((RN_ok 11 (by decide)).2 (by decide))⟩
theorem yk98 : YK 98 := ⟨⟨inT (in_t3 (List.mem_of_getElem? (i := 94) rfl)) rfl, inT (in_t1 (List.mem_of_getElem? (i := 1) rfl)) rfl, (RN_ok 11 (by decide)).1, by decide⟩, fun h => absurd h (by decide), fun _ => ⟨inT (in_t3 (List.mem_of_getElem? (i := 92) rfl)) rfl, inT (in_t3 (List.mem_of_getElem? (i := 93) rfl)) rfl⟩, by decide, rfl, by decide +kernel, plainFor_of_name ((RN_ok 11 (by decide)).2 (by decide))⟩
theorem yk99 : YK 99 := ⟨⟨inT (in_t3 (List.mem_of_getElem? (i := 98) rfl)) rfl, inT (in_t1 (List.mem_of_getElem? (i := 1) rfl)) rfl, (RN_ok 11 (by decide)).1, by decide⟩, fun h => absurd h (by decide), fun _ => ⟨inT (in_t3 (List.mem_of_getElem? (i := 96) rfl)) rfl, inT (in_t3 (List.mem_of_getElem? (i := 97) rfl)) rfl⟩, by decide, rfl, by decide +kernel, plainFor_of_name ((RN_ok 11 (by decide)).2 (by decide))⟩
theorem yk100 : YK 100 := ⟨⟨inT (in_t3 (List.mem_of_getElem? (i := 124) rfl)) rfl, inT (in_t1 (List.mem_of_getElem? (i := 1) rfl)) rfl, (RN_ok 11 (by decide)).1, by decide⟩, fun h => absurd h (by decide), fun _ => ⟨inT (in_t3 (List.mem_of_getElem? (i := 122) rfl)) rfl, inT (in_t3 (List.mem_of_getElem? (i := 123) rfl)) rfl⟩, by decide, rfl, by decide +kernel, plainFor_of_name ((RN_ok 11 (by decide)).2 (by decide))⟩
theorem yk101 : YK 101 := ⟨⟨inT (in_t3 (List.mem_of_getElem? (i := 140) rfl)) rfl, inT (in_t1 (List.mem_of_getElem? (i := 1) rfl)) rfl, (RN_ok 11 (by decide)).1, by decide⟩, fun h => absurd h (by decide), fun _ => ⟨inT (in_t3 (List.mem_of_getElem? (i := 138) rfl)) rfl, inT (in_t3 (List.mem_of_getElem? (i := 139) rfl)) rfl⟩, by decide, rfl, by decide +kernel, plainFor_of_name ((RN_ok 11 (by decide)).2 (by decide))⟩
theorem yk102 : YK 102 := ⟨⟨inT (in_t3 (List.mem_of_getElem? (i := 148) rfl)) rfl, inT (in_t1 (List.mem_of_getElem? (i := 1) rfl)) rfl, (RN_ok 11 (by decide)).1, by decide⟩, fun h => absurd h (by decide), fun _ => ⟨inT (in_t3 (List.mem_of_getElem? (i := 146) rfl)) rfl, inT (in_t3 (List.mem_of_getElem? (i := 147) rfl)) rfl⟩, by decide, rfl, by decide +kernel, plainFor_of_name ((RN_ok 11 (by decide)).2 (by decide))⟩
theorem yk103 : YK 103 := ⟨⟨inT (in_t3 (List.mem_of_getElem? (i := 159) rfl)) rfl, inT (in_t1 (List.mem_of_getElem? (i := 1) rfl)) rfl, (RN_ok 11 (by decide)).1, by decide⟩, fun h => absurd h (by decide), fun _ => ⟨inT (in_t3 (List.mem_of_getElem? (i := 157) rfl)) rfl, inT (in_t3 (List.mem_of_getElem? (i := 158) rfl)) rfl⟩, by decide, rfl, by decide +kernel, plainFor_of_name ((RN_ok 11 (by decide)).2 (by decide))⟩
theorem yk104 : YK 104 := ⟨⟨inT (in_t3 (List.mem_of_getElem? (i := 167) rfl)) rfl, inT (in_t1 (List.mem_of_getElem? (i := 1) rfl)) rfl, (RN_ok 11 (by decide)).1, by decide⟩, fun h => absurd h (by decide), fun _ => ⟨inT (in_t3 (List.mem_of_getElem? (i := 165) rfl)) rfl, inT (in_t3 (List.mem_of_getElem? (i := 166) rfl)) rfl⟩, by decide, rfl, by decide +kernel, plainFor_of_name ((RN_ok 11 (by decide)).2 (by decide))⟩
theorem yk105 : YK 105 := ⟨⟨inT (in_t4 (List.mem_of_getElem? (i := 67) rfl)) rfl, inT (in_t1 (List.mem_of_getElem? (i := 1) rfl)) rfl, (RN_ok 11 (by decide)).1, by decide⟩, fun h => absurd h (by decide), fun _ => ⟨inT (in_t4 (List.mem_of_getElem? (i := 65) rfl)) rfl, inT (in_t4 (List.mem_of_getElem? (i := 66) rfl)) rfl⟩, by decide, rfl, by decide +kernel, plainFor_of_name ((RN_ok 11 (by decide)).2 (by decide))⟩
theorem yk106 : YK 106 := ⟨⟨inT (in_t4 (List.mem_of_getElem? (i := 118) rfl)) rfl, inT (in_t1 (List.mem_of_getElem? (i := 1) rfl)) rfl, (RN_ok 11 (by decide)).1, by decide⟩, fun h => absurd h (by decide), fun _ => ⟨inT (in_t4 (List.mem_of_getElem? (i := 116) rfl)) rfl, inT (in_t4 (List.mem_of_getElem? (i := 117) rfl)) rfl⟩, by decide, rfl, by decide +kernel, plainFor_of_name ((RN_ok 11 (by decide)).2 (by decide))⟩
theorem yk107 : YK 107 := ⟨⟨inT (in_t4 (List.mem_of_getElem? (i := 122) rfl)) rfl, inT (in_t1 (List.mem_of_getElem? (i := 1) rfl)) rfl, (RN_ok 11 (by decide)).1, by decide⟩, fun h => absurd h (by decide), fun _ => ⟨inT (in_t4 (List.mem_of_getElem? (i := 120) rfl)) rfl, inT (in_t4 (List.mem_of_getElem? (i := 121) rfl)) rfl⟩, by decide, rfl, by decide +kernel, plainFor_of_name ((RN_ok 11 (by decide)).2 (by decide))⟩
theorem yk108 : YK 108 := ⟨⟨inT (in_t4 (List.mem_of_getElem? (i := 126) rfl)) rfl, inT (in_t1 (List.mem_of_getElem? (i := 1) rfl)) rfl, (RN_ok 11 (by decide)).1, by decide⟩, fun h => absurd h (by decide), fun _ => ⟨inT (in_t4 (List.mem_of_getElem? (i := 124) rfl)) rfl, inT (in_t4 (List.mem_of_getElem? (i := 125) rfl)) rfl⟩, by decide, rfl, by decide +kernel, plainFor_of_name ((RN_ok 11 (by decide)).2 (by decide))⟩
theorem yk109 : YK 109 := ⟨⟨inT (in_t4 (List.mem_of_getElem? (i := 142) rfl)) rfl, inT (in_t1 (List.mem_of_getElem? (i := 1) rfl)) rfl, (RN_ok 11 (by decide)).1, by decide⟩, fun h => absurd h (by decide), fun _ => ⟨inT (in_t4 (List.mem_of_getElem? (i := 140) rfl)) rfl, inT (in_t4 (List.mem_of_getElem? (i := 141) rfl)) rfl⟩, by decide, rfl, by decide +kernel, plainFor_of_name ((RN_ok 11 (by decide)).2 (by decide))⟩
theorem yk110 : YK 110 := ⟨⟨inT (in_t4 (List.mem_of_getElem? (i := 158) rfl)) rfl, inT (in_t1 (List.mem_of_getElem? (i := 1) rfl)) rfl, (RN_ok 11 (by decide)).1, by decide⟩, fun h => absurd h (by decide), fun _ => ⟨inT (in_t4 (List.mem_of_getElem? (i := 156) rfl)) rfl, inT (in_t4 (List.mem_of_getElem? (i := 157) rfl)) rfl⟩, by decide, rfl, by decide +kernel, plainFor_of_name ((RN_ok 11 (by decide)).2 (by decide))⟩
theorem yk111 : YK 111 := ⟨⟨inT (in_t4 (List.mem_of_getElem? (i := 162) rfl)) rfl, inT (in_t1 (List.mem_of_getElem? (i := 1) rfl)) rfl, (RN_ok 11 (by decide)).1, by decide⟩, fun h => absurd h (by decide), fun _ => ⟨inT (in_t4 (List.mem_of_getElem? (i := 160) rfl)) rfl, inT (in_t4 (List.mem_of_getElem? (i := 161) rfl)) rfl⟩, by decide, rfl, by decide +kernel, plainFor_of_name ((RN_ok 11 (by decide)).2 (by decide))⟩
theorem yk112 : YK 112 := ⟨⟨inT (in_t4 (List.mem_of_getElem? (i := 166) rfl)) rfl, inT (in_t1 (List.mem_of_getElem? (i := 1) rfl)) rfl, (RN_ok 11 (by decide)).1, by decide⟩, fun h => absurd h (by decide), fun _ => ⟨inT (in_t4 (List.mem_of_getElem? (i := 164) rfl)) rfl, inT (in_t4 (List.mem_of_getElem? (i := 165) rfl)) rfl⟩, by decide, rfl, by decide +kernel, plainFor_of_name ((RN_ok 11 (by decide)).2 (by decide))⟩
theorem yk113 : YK 113 := ⟨⟨inT (in_t4 (List.mem_of_getElem? (i := 174) rfl)) rfl, inT (in_t1 (List.mem_of_getElem? (i := 1) rfl)) rfl, (RN_ok 11 (by decide)).1, by decide⟩, fun h => absurd h (by decide), fun _ => ⟨inT (in_t4 (List.mem_of_getElem? (i := 172) rfl)) rfl, inT (in_t4 (List.mem_of_getElem? (i := 173) rfl)) rfl⟩, by decide, rfl, by decide +kernel, plainFor_of_name ((RN_ok 11 (by decide)).2 (by decide))⟩
theorem yk114 : YK 114 := ⟨⟨inT (in_t4 (List.mem_of_getElem? (i := 228) rfl)) rfl, inT (in_t1 (List.mem_of_getElem? (i := 1) rfl)) rfl, (RN_ok 11 (by decide)).1, by decide⟩, fun h => absurd h (by decide), fun _ => ⟨inT (in_t4 (List.mem_of_getElem? (i := 226) rfl)) rfl, inT (in_t4 (List.mem_of_getElem? (i := 227) rfl)) rfl⟩, by decide, rfl, by decide +kernel, plainFor_of_name ((RN_ok 11 (by decide)).2 (by decide))⟩
theorem yk115 : YK 115 := ⟨⟨inT (in_t4 (List.mem_of_getElem? (i := 232) rfl)) rfl, inT (in_t1 (List.mem_of_getElem? (i := 1) rfl)) rfl, (RN_ok 11 (by decide)).1, by decide⟩, fun h => absurd h (by decide), fun _ => ⟨inT (in_t4 (List.mem_of_getElem? (i := 230) rfl)) rfl, inT (in_t4 (List.mem_of_getElem? (i := 231) rfl)) rfl⟩, by decide, rfl, by decide +kernel, plainFor_of_name ((RN_ok 11 (by decide)).2 (by decide))⟩
theorem yk116 : YK 116 := ⟨⟨inT (in_t4 (List.mem_of_getElem? (i := 237) rfl)) rfl, inT (in_t1 (List.mem_of_getElem? (i := 1) rfl)) rfl, (RN_ok 11 (by decide)).1, by decide⟩, fun h => absurd h (by decide), fun _ => ⟨inT (in_t4 (List.mem_of_getElem? (i := 235) rfl)) rfl, inT (in_t4 (List.mem_of_getElem? (i := 236) rfl)) rfl⟩, by decide, rfl, by decide +kernel, plainFor_of_name ((RN_ok 11 (by decide)).2 (by decide))⟩
theorem yk117 : YK 117 := ⟨⟨inT (in_t5 (List.mem_of_getElem? (i := 3) rfl)) rfl, inT (in_t1 (List.mem_of_getElem? (i := 1) rfl)) rfl, (RN_ok 11 (by decide)).1, by decide⟩, fun h => absurd h (by decide), fun _ => ⟨inT (in_t5 (List.mem_of_getElem? (i := 1) rfl)) rfl, inT (in_t5 (List.mem_of_getElem? (i := 2) rfl)) rfl⟩, by decide, rfl, by decide +kernel, plainFor_of_name ((RN_ok 11 (by decide)).2 (by decide))⟩
theorem yk118 : YK 118 := ⟨⟨inT (in_t5 (List.mem_of_getElem? (i := 8) rfl)) rfl, inT (in_t1 (List.mem_of_getElem? (i := 1) rfl)) rfl, (RN_ok 11 (by decide)).1, by decide⟩, fun h => absurd h (by decide), fun _ => ⟨inT (in_t5 (List.mem_of_getElem? (i := 6) rfl)) rfl, inT (in_t5 (List.mem_of_getElem? (i := 7) rfl)) rfl⟩, by decide, rfl, by decide +kernel, plainFor_of_name ((RN_ok 11 (by decide)).2 (by decide))⟩
theorem yk119 : YK 119 := ⟨⟨inT (in_t5 (List.mem_of_getElem? (i := 13) rfl)) rfl, inT (in_t1 (List.mem_of_getElem? (i := 1) rfl)) rfl, (RN_ok 11 (by decide)).1, by decide⟩, fun h => absurd h (by decide), fun _ => ⟨inT (in_t5 (List.mem_of_getElem? (i := 11) rfl)) rfl, inT (in_t5 (List.mem_of_getElem? (i := 12) rfl)) rfl⟩, by decide, rfl, by decide +kernel, plainFor_of_name ((RN_ok 11 (by decide)).2 (by decide))⟩
theorem yk120 : YK 120 := ⟨⟨inT (in_t5 (List.mem_of_getElem? (i := 21) rfl)) rfl, inT (in_t1 (List.mem_of_getElem? (i := 1) rfl)) rfl, (RN_ok 11 (by decide)).1, by decide⟩, fun h => absurd h (by decide), fun _ => ⟨inT (in_t5 (List.mem_of_getElem? (i := 19) rfl)) rfl, inT (in_t5 (List.mem_of_getElem? (i := 20) rfl)) rfl⟩, by decide, rfl, by decide +kernel, plainFor_of_name ((RN_ok 11 (by decide)).2 (by decide))⟩
theorem yk121 : YK 121 := ⟨⟨inT (in_t5 (List.mem_of_getElem? (i := 25) rfl)) rfl, inT (in_t1 (List.mem_of_getElem? (i := 1) rfl)) rfl, (RN_ok 11 (by decide)).1, by decide⟩, fun h => absurd h (by decide), fun _ => ⟨inT (in_t5 (List.mem_of_getElem? (i := 23) rfl)) rfl, inT (in_t5 (List.mem_of_getElem? (i := 24) rfl)) rfl⟩, by decide, rfl, by decide +kernel, plainFor_of_name ((RN_ok 11 (by decide)).2 (by decide))⟩
theorem yk122 : YK 122 := ⟨⟨inT (in_t5 (List.mem_of_getElem? (i := 29) rfl)) rfl, inT (in_t1 (List.mem_of_getElem? (i := 1) rfl)) rfl, (RN_ok 11 (by decide)).1, by decide⟩, fun h => absurd h (by decide), fun _ => ⟨inT (in_t5 (List.mem_of_getElem? (i := 27) rfl)) rfl, inT (in_t5 (List.mem_of_getElem? (i := 28) rfl)) rfl⟩, by decide, rfl, by decide +kernel, plainFor_of_name ((RN_ok 11 (by decide)).2 (by decide))⟩
theorem yk123 : YK 123 := ⟨⟨inT (in_t5 (List.mem_of_getElem? (i := 33) rfl)) rfl, inT (in_t1 (List.mem_of_getElem? (i := 1) rfl)) rfl, (RN_ok 11 (by decide)).1, by decide⟩, fun h => absurd h (by decide), fun _ => ⟨inT (in_t5 (List.mem_of_getElem? (i := 31) rfl)) rfl, inT (in_t5 (List.mem_of_getElem? (i := 32) rfl)) rfl⟩, by decide, rfl, by decide +kernel, plainFor_of_name ((RN_ok 11 (by decide)).2 (by decide))⟩
theorem yk124 : YK 124 := ⟨⟨inT (in_t5 (List.mem_of_getElem? (i := 38) rfl)) rfl, inT (in_t1 (List.mem_of_getElem? (i := 1) rfl)) rfl, (RN_ok 11 (by decide)).1, by decide⟩, fun h => absurd h (by decide), fun _ => ⟨inT (in_t5 (List.mem_of_getElem? (i := 36) rfl)) rfl, inT (in_t5 (List.mem_of_getElem? (i := 37) rfl)) rfl⟩, by decide, rfl, by decide +kernel, plainFor_of_name ((RN_ok 11 (by decide)).2 (by decide))⟩
theorem yk125 : YK 125 := ⟨⟨inT (in_t5 (List.mem_of_getElem? (i := 50) rfl)) rfl, inT (in_t1 (List.mem_of_getElem? (i := 1) rfl)) rfl, (RN_ok 11 (by decide)).1, by decide⟩, fun h => absurd h (by decide), fun _ => ⟨inT (in_t5 (List.mem_of_getElem? (i := 48) rfl)) rfl, inT (in_t5 (List.mem_of_getElem? (i := 49) rfl)) rfl⟩, by decide, rfl, by decide +kernel, plainFor_of_name ((RN_ok 11 (by decide)).2 (by decide))⟩
theorem yk126 : YK 126 := ⟨⟨inT (in_t5 (List.mem_of_getElem? (i := 54) rfl)) rfl, inT (in_t1 (List.mem_of_getElem? (i := 1) rfl)) rfl, (RN_ok 11 (by decide)).1, by decide⟩, fun h => absurd h (by decide), fun _ => ⟨inT (in_t5 (List.mem_of_getElem? (i := 52) rfl)) rfl, inT (in_t5 (List.mem_of_getElem? (i := 53) rfl)) rfl⟩, by decide, rfl, by decide +kernel, plainFor_of_name ((RN_ok 11 (by decide)).2 (by decide))⟩
theorem yk127 : YK 127 := ⟨⟨inT (in_t5 (List.mem_of_getElem? (i := 63) rfl)) rfl, inT (in_t1 (List.mem_of_getElem? (i := 1) rfl)) rfl, (RN_ok 11 (by decide)).1, by decide⟩, fun h => absurd h (by decide), fun _ => ⟨inT (in_t5 (List.mem_of_getElem? (i := 61) rfl)) rfl, inT (in_t5 (List.mem_of_getElem? (i := 62) rfl)) rfl⟩, by decide, rfl, by decide +kernel, plainFor_of_name ((RN_ok 11 (by decide)).2 (by decide))⟩
theorem yk128 : YK 128 := ⟨⟨inT (in_t5 (List.mem_of_getElem? (i := 68) rfl)) rfl, inT (in_t1 (List.mem_of_getElem? (i := 1) rfl)) rfl, (RN_ok 11 (by decide)).1, by decide⟩, fun h => absurd h (by decide), fun _ => ⟨inT (in_t5 (List.mem_of_getElem? (i := 66) rfl)) rfl, inT (in_t5 (List.mem_of_getElem? (i := 67) rfl)) rfl⟩, by decide, rfl, by decide +kernel, plainFor_of_name ((RN_ok 11 (by decide)).2 (by decide))⟩
theorem yk129 : YK 129 := ⟨⟨inT (in_t5 (List.mem_of_getElem? (i := 92) rfl)) rfl, inT (in_t1 (List.mem_of_getElem? (i := 1) rfl)) rfl, (RN_ok 11 (by decide)).1, by decide⟩, fun h => absurd h (by decide), fun _ => ⟨inT (in_t5 (List.mem_of_getElem? (i := 90) rfl)) rfl, inT (in_t5 (List.mem_of_getElem? (i := 91) rfl)) rfl⟩, by decide, rfl, by decide +kernel, plainFor_of_name ((RN_ok 11 (by decide)).2 (by decide))⟩
theorem yk130 : YK 130 := ⟨⟨inT (in_t5 (List.mem_of_getElem? (i := 96) rfl)) rfl, inT (in_t1 (List.mem_of_getElem? (i := 1) rfl)) rfl, (RN_ok 11 (by decide)).1, by decide⟩, fun h => absurd h (by decide), fun _ => ⟨inT (in_t5 (List.mem_of_getElem? (i := 94) rfl)) rfl, inT (in_t5 (List.mem_of_getElem? (i := 95) rfl)) rfl⟩, by decide, rfl, by decide +kernel, plainFor_of_name ((RN_ok 11 (by decide)).2 (by decide))⟩
theorem yk131 : YK 131 := ⟨⟨inT (in_t5 (List.mem_of_getElem? (i := 109) rfl)) rfl, inT (in_t1 (List.mem_of_getElem? (i := 1) rfl)) rfl, (RN_ok 11 (by decide)).1, by decide⟩, fun h => absurd h (by decide), fun _ => ⟨inT (in_t5 (List.mem_of_getElem? (i := 107) rfl)) rfl, inT (in_t5 (List.mem_of_getElem? (i := 108) rfl)) rfl⟩, by decide, rfl, by decide +kernel, plainFor_of_name ((RN_ok 11 (by decide)).2 (by decide))⟩
theorem yk132 : YK 132 := ⟨⟨inT (in_t5 (List.mem_of_getElem? (i := 113) rfl)) rfl, inT (in_t1 (List.mem_of_getElem? (i := 1) rfl)) rfl, (RN_ok 11 (by decide)).1, by decide⟩, fun h => absurd h (by decide), fun _ => ⟨inT (in_t5 (List.mem_of_getElem? (i := 111) rfl)) rfl, inT (in_t5 (List.mem_of_getElem? (i := 112) rfl)) rfl⟩, by decide, rfl, by decide +kernel, plainFor_of_name ((RN_ok 11 (by decide)).2 (by decide))⟩
theorem yk133 : YK 133 := ⟨⟨inT (in_t5 (List.mem_of_getElem? (i := 124) rfl)) rfl, inT (in_t1 (List.mem_of_getElem? (i := 1) rfl)) rfl, (RN_ok 11 (by decide)).1, by decide⟩, fun h => absurd h (by decide), fun _ => ⟨inT (in_t5 (List.mem_of_getElem? (i := 122) rfl)) rfl, inT (in_t5 (List.mem_of_getElem? (i := 123) rfl)) rfl⟩, by decide, rfl, by decide +kernel, plainFor_of_name ((RN_ok 11 (by decide)).2 (by decide))⟩
theorem yk134 : YK 134 := ⟨⟨inT (in_t5 (List.mem_of_getElem? (i := 138) rfl)) rfl, inT (in_t1 (List.mem_of_getElem? (i := 1) rfl)) rfl, (RN_ok 11 (by decide)).1, by decide⟩, fun h => absurd h (by decide), fun _ => ⟨inT (in_t5 (List.mem_of_getElem? (i := 136) rfl)) rfl, inT (in_t5 (List.mem_of_getElem? (i := 137) rfl)) rfl⟩, by decide, rfl, by decide +kernel, plainFor_of_name ((RN_ok 11 (by decide)).2 (by decide))⟩
theorem yk135 : YK 135 := ⟨⟨inT (in_t5 (List.mem_of_getElem? (i := 150) rfl)) rfl, inT (in_t1 (List.mem_of_getElem? (i := 1) rfl)) rfl, (RN_ok 11 (by decide)).1, by decide⟩, fun h => absurd h (by decide), fun _ => ⟨inT (in_t5 (List.mem_of_getElem? (i := 148) rfl)) rfl, inT (in_t5 (List.mem_of_getElem? (i := 149) rfl)) rfl⟩, by decide, rfl, by decide +kernel, plainFor_of_name ((RN_ok 11 (by decide)).2 (by decide))⟩
theorem yk136 : YK 136 := ⟨⟨inT (in_t5 (List.mem_of_getElem? (i := 166) rfl)) rfl, inT (in_t1 (List.mem_of_getElem? (i := 1) rfl)) rfl, (RN_ok 11 (by decide)).1, by decide⟩, fun h => absurd h (by decide), fun _ => ⟨inT (in_t5 (List.mem_of_getElem? (i := 164) rfl)) rfl, inT (in_t5 (List.mem_of_getElem? (i := 165) rfl)) rfl⟩, by decide, rfl, by decide +kernel, plainFor_of_name ((RN_ok 11 (by decide)).2 (by decide))⟩
theorem yk137 : YK 137 := ⟨⟨inT (in_t5 (List.mem_of_getElem? (i := 170) rfl)) rfl, inT (in_t1 (List.mem_of_getElem? (i := 1) rfl)) rfl, (RN_ok 11 (by decide)).1, by decide⟩, fun h => absurd h (by decide), fun _ => ⟨inT (in_t5 (List.mem_of_getElem? (i := 168) rfl)) rfl, inT (in_t5 (List.mem_of_getElem? (i := 169) rfl)) rfl⟩, by decide, rfl, by decide +kernel, plainFor_of_name ((RN_ok 11 (by decide)).2 (by decide))⟩
theorem yk138 : YK 138 := ⟨⟨inT (in_t5 (List.mem_of_getElem? (i := 201) rfl)) rfl, inT (in_t1 (List.mem_of_getElem? (i := 1) rfl)) rfl, (RN_ok 11 (by decide)).1, by decide⟩, fun h => absurd h (by decide), fun _ => ⟨inT (in_t5 (List.mem_of_getElem? (i := 199) rfl)) rfl, inT (in_t5 (List.mem_of_getElem? (i := 200) rfl)) rfl⟩, by decide, rfl, by decide +kernel, plainFor_of_name ((RN_ok 11 (by decide)).2 (by decide))⟩
theorem yk139 : YK 139 := ⟨⟨inT (in_t5 (List.mem_of_getElem? (i := 205) rfl)) rfl, inT (in_t1 (List.mem_of_getElem? (i := 1) rfl)) rfl, (RN_ok 11 (by decide)).1, by decide⟩, fun h => absurd h (by decide), fun _ => ⟨inT (in_t5 (List.mem_of_getElem? (i := 203) rfl)) rfl, inT (in_t5 (List.mem_of_getElem? (i := 204) rfl)) rfl⟩, by decide, rfl, by decide +kernel, plainFor_of_name ((RN_ok 11 (by decide)).2 (by decide))⟩
theorem yk140 : YK 140 := ⟨⟨inT (in_t5 (List.mem_of_getElem? (i := 220) rfl)) rfl, inT (in_t1 (List.mem_of_getElem? (i := 1) rfl)) rfl, (RN_ok 11 (by decide)).1, by decide⟩, fun h => absurd h (by decide), fun _ => ⟨inT (in_t5 (List.mem_of_getElem? (i := 218) rfl)) rfl, inT (in_t5 (List.mem_of_getElem? (i := 219) rfl)) rfl⟩, by decide, rfl, by decide +kernel, plainFor_of_name ((RN_ok 11 (by decide)).2 (by decide))⟩
theorem yk141 : YK 141 := ⟨⟨inT (in_t5 (List.mem_of_getElem? (i := 224) rfl)) rfl, inT (in_t1 (List.mem_of_getElem? (i := 1) rfl)) rfl, (RN_ok 11 (by decide)).1, by decide⟩, fun h => absurd h (by decide), fun _ => ⟨inT (in_t5 (List.mem_of_getElem? (i := 222) rfl)) rfl, inT (in_t5 (List.mem_of_getElem? (i := 223) rfl)) rfl⟩, by decide, rfl, by decide +kernel, plainFor_of_name ((RN_ok 11 (by decide)).2 (by decide))⟩
theorem yk142 : YK 142 := ⟨⟨inT (in_t5 (List.mem_of_getElem? (i := 236) rfl)) rfl, inT (in_t1 (List.mem_of_getElem? (i := 1) rfl)) rfl, (RN_ok 11 (by decide)).1, by decide⟩, fun h => absurd h (by decide), fun _ => ⟨inT (in_t5 (List.mem_of_getElem? (i := 234) rfl)) rfl, inT (in_t5 (List.mem_of_getElem? (i := 235) rfl)) rfl⟩, by decide, rfl, by decide +kernel, plainFor_of_name ((RN_ok 11 (by decide)).2 (by decide))⟩
theorem yk143 : YK 143 := ⟨⟨inT (in_t6 (List.mem_of_getElem? (i := 0) rfl)) rfl, inT (in_t1 (List.mem_of_getElem? (i := 1) rfl)) rfl, (RN_ok 11 (by decide)).1, by decide⟩, fun h => absurd h (by decide), fun _ => ⟨inT (in_t5 (List.mem_of_getElem? (i := 238) rfl)) rfl, inT (in_t5 (List.mem_of_getElem? (i := 239) rfl)) rfl⟩, by decide, rfl, by decide +kernel, plainFor_of_name ((RN_ok 11 (by decide)).2 (by decide))⟩
theorem yk144 : YK 144 := ⟨⟨inT (in_t6 (List.mem_of_getElem? (i := 7) rfl)) rfl, inT (in_t1 (List.mem_of_getElem? (i := 1) rfl)) rfl, (RN_ok 11 (by decide)).1, by decide⟩, fun h => absurd h (by decide), fun _ => ⟨inT (in_t6 (List.mem_of_getElem? (i := 5) rfl)) rfl, inT (in_t6 (List.mem_of_getElem? (i := 6) rfl)) rfl⟩, by decide, rfl, by decide +kernel, plainFor_of_name ((RN_ok 11 (by decide)).2 (by decide))⟩
theorem yk145 : YK 145 := ⟨⟨inT (in_t6 (List.mem_of_getElem? (i := 15) rfl)) rfl, inT (in_t1 (List.mem_of_getElem? (i := 1) rfl)) rfl, (RN_ok 11 (by decide)).1, by decide⟩, fun h => absurd h (by decide), fun _ => ⟨inT (in_t6 (List.mem_of_getElem? (i := 13) rfl)) rfl, inT (in_t6 (List.mem_of_getElem? (i := 14) rfl)) rfl⟩, by decide, rfl, by decide +kernel, plainFor_of_name ((RN_ok 11 (by decide)).2 (by decide))⟩
theorem yk146 : YK 146 := ⟨⟨inT (in_t6 (List.mem_of_getElem? (i := 19) rfl)) rfl, inT (in_t1 (List.mem_of_getElem? (i := 1) rfl)) rfl, (RN_ok 11 (by decide)).1, by decide⟩, fun h => absurd h (by decide), fun _ => ⟨inT (in_t6 (List.mem_of_getElem? (i := 17) rfl)) rfl, inT (in_t6 (List.mem_of_getElem? (i := 18) rfl)) rfl⟩, by decide, rfl, by decide +kernel, plainFor_of_name ((RN_ok 11 (by decide)).2 (by decide))⟩
theorem yk147 : YK 147 := ⟨⟨inT (in_t6 (List.mem_of_getElem? (i := 36) rfl)) rfl, inT (in_t1 (List.mem_of_getElem? (i := 1) rfl)) rfl, (RN_ok 11 (by decide)).1, by decide⟩, fun h => absurd h (by decide), fun _ => ⟨inT (in_t6 (List.mem_of_getElem? (i := 34) rfl)) rfl, inT (in_t6 (List.mem_of_getElem? (i := 35) rfl)) rfl⟩, by decide, rfl, by decide +kernel, plainFor_of_name ((RN_ok 11 (by decide)).2 (by decide))⟩
theorem yk148 : YK 148 := ⟨⟨inT (in_t6 (List.mem_of_getElem? (i := 46) rfl)) rfl, inT (in_t1 (List.mem_of_getElem? (i := 1) rfl)) rfl, (RN_ok 11 (by decide)).1, by decide⟩, fun h => absurd h (by decide), fun _ => ⟨inT (in_t6 (List.mem_of_getElem? (i := 44) rfl)) rfl, inT (in_t6 (List.mem_of_getElem? (i := 45) rfl)) rfl⟩, by decide, rfl, by decide +kernel, plainFor_of_name ((RN_ok 11 (by decide)).2 (by decide))⟩
theorem yk149 : YK 149 := ⟨⟨inT (in_t6 (List.mem_of_getElem? (i := 55) rfl)) rfl, inT (in_t1 (List.mem_of_getElem? (i := 1) rfl)) rfl, (RN_ok 11 (by decide)).1, by decide⟩, fun h => absurd h (by decide), fun _ => ⟨inT (in_t6 (List.mem_of_getElem? (i := 53) rfl)) rfl, inT (in_t6 (List.mem_of_getElem? (i := 54) rfl)) rfl⟩, by decide, rfl, by decide +kernel, plainFor_of_name ((RN_ok 11 (by decide)).2 (by decide))⟩
theorem yk150 : YK 150 := ⟨⟨inT (in_t6 (List.mem_of_getElem? (i := 59) rfl)) rfl, inT (in_t1 (List.mem_of_getElem? (i := 1) rfl)) rfl, (RN_ok 11 (by decide)).1, by decide⟩, fun h => absurd h (by decide), fun _ => ⟨inT (in_t6 (List.mem_of_getElem? (i := 57) rfl)) rfl, inT (in_t6 (List.mem_of_getElem? (i := 58) rfl)) rfl⟩, by decide, rfl, by decide +kernel, plainFor_of_name ((RN_ok 11 (by decide)).2 (by decide))⟩
theorem yk151 : YK 151 := ⟨⟨inT (in_t6 (List.mem_of_getElem? (i := 75) rfl)) rfl, inT (in_t1 (List.mem_of_getElem? (i := 1) rfl)) rfl, (RN_ok 11 (by decide)).1, by decide⟩, fun h => absurd h (by decide), fun _ => ⟨inT (in_t6 (List.mem_of_getElem? (i := 73) rfl)) rfl, inT (in_t6 (List.mem_of_getElem? (i := 74) rfl)) rfl⟩, by decide, rfl, by decide +kernel, plainFor_of_name ((RN_ok 11 (by decide)).2 (by decide))⟩
theorem yk152 : YK 152 := ⟨⟨inT (in_t6 (List.mem_of_getElem? (i := 79) rfl)) rfl, inT (in_t1 (List.mem_of_getElem? (i := 1) rfl)) rfl, (RN_ok 11 (by decide)).1, by decide⟩, fun h => absurd h (by decide), fun _ => ⟨inT (in_t6 (List.mem_of_getElem? (i := 77) rfl)) rfl, inT (in_t6 (List.mem_of_getElem? (i := 78) rfl)) rfl⟩, by decide, rfl, by decide +kernel, plainFor_of_name ((RN_ok 11 (by decide)).2 (by decide))⟩
theorem yk153 : YK 153 := ⟨⟨inT (in_t6 (List.mem_of_getElem? (i := 121) rfl)) rfl, inT (in_t1 (List.mem_of_getElem? (i := 1) rfl)) rfl, (RN_ok 11 (by decide)).1, by decide⟩, fun h => absurd h (by decide), fun _ => ⟨inT (in_t6 (List.mem_of_getElem? (i := 119) rfl)) rfl, inT (in_t6 (List.mem_of_getElem? (i := 120) rfl)) rfl⟩, by decide, rfl, by decide +kernel, plainFor_of_name ((RN_ok 11 (by decide)).2 (by decide))⟩
theorem yk154 : YK 154 := ⟨⟨inT (in_t6 (List.mem_of_getElem? (i := 125) rfl)) rfl, inT (in_t1 (List.mem_of_getElem? (i := 1) rfl)) rfl, (RN_ok 11 (by decide)).1, by decide⟩, fun h => absurd h (by decide), fun _ => ⟨inT (in_t6 (List.mem_of_getElem? (i := 123) rfl)) rfl, inT (in_t6 (List.mem_of_getElem? (i := 124) rfl)) rfl⟩, by decide, rfl, by decide +kernel, plainFor_of_name ((RN_ok 11 (by decide)).2 (by decide))⟩
theorem yk155 : YK 155 := ⟨⟨inT (in_t6 (List.mem_of_getElem? (i := 129) rfl)) rfl, inT (in_t1 (List.mem_of_getElem? (i := 1) rfl)) rfl, (RN_ok 11 (by decide)).1, by decide⟩, fun h => absurd h (by decide), fun _ => ⟨inT (in_t6 (List.mem_of_getElem? (i := 127) rfl)) rfl, inT (in_t6 (List.mem_of_getElem? (i := 128) rfl)) rfl⟩, by decide, rfl, by decide +kernel, plainFor_of_name ((RN_ok 11 (by decide)).2 (by decide))⟩
theorem yk156 : YK 156 := ⟨⟨inT (in_t6 (List.mem_of_getElem? (i := 139) rfl)) rfl, inT (in_t1 (List.mem_of_getElem? (i := 1) rfl)) rfl, (RN_ok 11 (by decide)).1, by decide⟩, fun h => absurd h (by decide), fun _ => ⟨inT (in_t6 (List.mem_of_getElem? (i := 137) rfl)) rfl, inT (in_t6 (List.mem_of_getElem? (i := 138) rfl)) rfl⟩, by decide, rfl, by decide +kernel, plainFor_of_name ((RN_ok 11 (by decide)).2 (by decide))⟩
theorem yk157 : YK 157 := ⟨⟨inT (in_t4 (List.mem_of_getElem? (i := 63) rfl)) rfl, inT (in_t1 (List.mem_of_getElem? (i := 1) rfl)) rfl, (RN_ok 11 (by decide)).1, by decide⟩, fun h => absurd h (by decide), fun _ => ⟨inT (in_t4 (List.mem_of_getElem? (i := 62) rfl)) rfl, inT (List.mem_append_left _ (List.mem_of_getElem? (i := 18) rfl)) rfl⟩, by decide, rfl, by decide +kernel, plainFor_of_name ((RN_ok 11 (by decide)).2 (by decide))⟩
theorem yk158 : YK 158 := ⟨⟨inT (in_t4 (List.mem_of_getElem? (i := 170) rfl)) rfl, inT (in_t1 (List.mem_of_getElem? (i := 1) rfl)) rfl, (RN_ok 11 (by decide)).1, by decide⟩, fun h => absurd h (by decide), fun _ => ⟨inT (in_t4 (List.mem_of_getElem? (i := 169) rfl)) rfl, inT (List.mem_append_left _ (List.mem_of_getElem? (i := 27) rfl)) rfl⟩, by decide, rfl, by decide +kernel, plainFor_of_name ((RN_ok 11 (by decide)).2 (by decide))⟩
theorem yk159 : YK 159 := ⟨⟨inT (in_t3 (List.mem_of_getElem? (i := 144) rfl)) rfl, inT (in_t1 (List.mem_of_getElem? (i := 1) rfl)) rfl, (RN_ok 11 (by decide)).1, by decide⟩, fun h => absurd h (by decide), fun _ => ⟨inT (in_t3 (List.mem_of_getElem? (i := 143) rfl)) rfl, inT (List.mem_append_left _ (List.mem_of_getElem? (i := 5) rfl)) rfl⟩, by decide, rfl, by decide +kernel, plainFor_of_name ((RN_ok 11 (by decide)).2 (by decide))⟩
theorem yk160 : YK 160 := ⟨⟨inT (in_t3 (List.mem_of_getElem? (i := 120) rfl)) rfl, inT (in_t1 (List.mem_of_getElem? (i := 1) rfl)) rfl, (RN_ok 11 (by decide)).1, by decide⟩, fun h => absurd h (by decide), fun _ => ⟨inT (in_t3 (List.mem_of_getElem? (i := 119) rfl)) rfl, inT (List.mem_append_left _ (List.mem_of_getElem? (i := 2) rfl)) rfl⟩, by decide, rfl, by decide +kernel, plainFor_of_name ((RN_ok 11 (by decide)).2 (by decide))⟩
theorem yk161 : YK 161 := ⟨⟨inT (in_t3 (List.mem_of_getElem? (i := 109) rfl)) rfl, inT (in_t1 (List.mem_of_getElem? (i := 1) rfl)) rfl, (RN_ok 11 (by decide)).1, by decide⟩, fun h => absurd h (by decide), fun _ => ⟨inT (in_t3 (List.mem_of_getElem? (i := 108) rfl)) rfl, inT (List.mem_append_left _ (List.mem_of_getElem? (i := 1) rfl)) rfl⟩, by decide, rfl, by decide +kernel, plainFor_of_name ((RN_ok 11 (by decide)).2 (by decide))⟩
theorem yk162 : YK 162 := ⟨⟨inT (in_t3 (List.mem_of_getElem? (i := 102) rfl)) rfl, inT (in_t1 (List.mem_of_getElem? (i := 1) rfl)) rfl, (RN_ok 11 (by decide)).1, by decide⟩, fun h => absurd h (by decide), fun _ => ⟨inT (in_t3 (List.mem_of_getElem? (i := 101) rfl)) rfl, inT (List.mem_append_left _ (List.mem_of_getElem? (i := 0) rfl)) rfl⟩, by decide, rfl, by decide +kernel, plainFor_of_name ((RN_ok 11 (by decide)).2 (by decide))⟩
theorem yk163 : YK 163 := ⟨⟨inT (in_t4 (List.mem_of_getElem? (i := 130) rfl)) rfl, inT (in_t1 (List.mem_of_getElem? (i := 1) rfl)) rfl, (RN_ok 11 (by decide)).1, by decide⟩, fun h => absurd h (by decide), fun _ => ⟨inT (in_t4 (List.mem_of_getElem? (i := 129) rfl)) rfl, inT (List.mem_append_left _ (List.mem_of_getElem? (i := 25) rfl)) rfl⟩, by decide, rfl, by decide +kernel, plainFor_of_name ((RN_ok 11 (by decide)).2 (by decide))⟩
theorem yk164 : YK 164 := ⟨⟨inT (in_t4 (List.mem_of_getElem? (i := 146) rfl)) rfl, inT (in_t1 (List.mem_of_getElem? (i := 1) rfl)) rfl, (RN_ok 11 (by decide)).1, by decide⟩, fun h => absurd h (by decide), fun _ => ⟨inT (in_t4 (List.mem_of_getElem? (i := 145) rfl)) rfl, inT (List.mem_append_left _ (List.mem_of_getElem? (i := 26) rfl)) rfl⟩, by decide, rfl, by decide +kernel, plainFor_of_name ((RN_ok 11 (by decide)).2 (by decide))⟩
theorem yk165 : YK 165 := ⟨⟨inT (in_t5 (List.mem_of_getElem? (i := 142) rfl)) rfl, inT (in_t1 (List.mem_of_getElem? (i := 1) rfl)) rfl, (RN_ok 11 (by decide)).1, by decide⟩, fun h => absurd h (by decide), fun _ => ⟨inT (in_t5 (List.mem_of_getElem? (i := 141) rfl)) rfl, inT (List.mem_append_left _ (List.mem_of_getElem? (i := 32) rfl)) rfl⟩, by decide, rfl, by decide +kernel, plainFor_of_name ((RN_ok 11 (by decide)).2 (by decide))⟩
theorem yk166 : YK 166 := ⟨⟨inT (in_t3 (List.mem_of_getElem? (i := 128) rfl)) rfl, inT (in_t1 (List.mem_of_getElem? (i := 1) rfl)) rfl, (RN_ok 11 (by decide)).1, by decide⟩, fun h => absurd h (by decide), fun _ => ⟨inT (in_t3 (List.mem_of_getElem? (i := 127) rfl)) rfl, inT (List.mem_append_left _ (List.mem_of_getElem? (i := 3) rfl)) rfl⟩, by decide, rfl, by decide +kernel, plainFor_of_name ((RN_ok 11 (by decide)).2 (by decide))⟩
theorem yk167 : YK 167 := ⟨⟨inT (in_t6 (List.mem_of_getElem? (i := 23) rfl)) rfl, inT (in_t1 (List.mem_of_getElem? (i := 1) rfl)) rfl, (RN_ok 11 (by decide)).1, by decide⟩, fun h => absurd h (by decide), fun _ => ⟨inT (in_t6 (List.mem_of_getElem? (i := 22) rfl)) rfl, inT (List.mem_append_left _ (List.mem_of_getElem? (i := 38) rfl)) rfl⟩, by decide, rfl, by decide +kernel, plainFor_of_name ((RN_ok 11 (by decide)).2 (by decide))⟩
theorem yk168 : YK 168 := ⟨⟨inT (in_t6 (List.mem_of_getElem? (i := 63) rfl)) rfl, inT (in_t1 (List.mem_of_getElem? (i := 1) rfl)) rfl, (RN_ok 11 (by decide)).1, by decide⟩, fun h => absurd h (by decide), fun _ => ⟨inT (in_t6 (List.mem_of_getElem? (i := 62) rfl)) rfl, inT (List.mem_append_left _ (List.mem_of_getElem? (i := 40) rfl)) rfl⟩, by decide, rfl, by decide +kernel, plainFor_of_name ((RN_ok 11 (by decide)).2 (by decide))⟩
theorem yk169 : YK 169 := ⟨⟨inT (in_t6 (List.mem_of_getElem? (i := 68) rfl)) rfl, inT (in_t1 (List.mem_of_getElem? (i := 1) rfl)) rfl, (RN_ok 11 (by decide)).1, by decide⟩, fun h => absurd h (by decide), fun _ => ⟨inT (in_t6 (List.mem_of_getElem? (i := 67) rfl)) rfl, inT (List.mem_append_left _ (List.mem_of_getElem? (i := 41) rfl)) rfl⟩, by decide, rfl, by decide +kernel, plainFor_of_name ((RN_ok 11 (by decide)).2 (by decide))⟩
theorem yk170 : YK 170 := ⟨⟨inT (in_t6 (List.mem_of_getElem? (i := 71) rfl)) rfl, inT (in_t1 (List.mem_of_getElem? (i := 1) rfl)) rfl, (RN_ok 11 (by decide)).1, by decide⟩, fun _ => inT (in_t6 (List.mem_of_getElem? (i := 70) rfl)) rfl, fun h => absurd h (by decide), by decide, rfl, by decide +kernel, plainFor_of_name ((RN_ok 11 (by decide)).2 (by decide))⟩
theorem yk171 : YK 171 := ⟨⟨inT (in_t3 (List.mem_of_getElem? (i := 105) rfl)) rfl, inT (in_t1 (List.mem_of_getElem? (i := 1) rfl)) rfl, (RN_ok 11 (by decide)).1, by decide⟩, fun _ => inT (in_t3 (List.mem_of_getElem? (i := 104) rfl)) rfl, fun h => absurd h (by decide), by decide, rfl, by decide +kernel, plainFor_of_name ((RN_ok 11 (by decide)).2 (by decide))⟩
theorem yk172 : YK 172 := ⟨⟨inT (in_t4 (List.mem_of_getElem? (i := 154) rfl)) rfl, inT (in_t1 (List.mem_of_getElem? (i := 1) rfl)) rfl, (RN_ok 11 (by decide)).1, by decide⟩, fun _ => inT (in_t4 (List.mem_of_getElem? (i := 153) rfl)) rfl, fun h => absurd h (by decide), by decide, rfl, by decide +kernel, plainFor_of_name ((RN_ok 11 (by decide)).2 (by decide))⟩
theorem yk173 : YK 173 := ⟨⟨inT (in_t4 (List.mem_of_getElem? (i := 137) rfl)) rfl, inT (in_t1 (List.mem_of_getElem? (i := 1) rfl)) rfl, (RN_ok 11 (by decide)).1, by decide⟩, fun _ => inT (in_t4 (List.mem_of_getElem? (i := 136) rfl)) rfl, fun h => absurd h (by decide), by decide, rfl, by decide +kernel, plainFor_of_name ((RN_ok 11 (by decide)).2 (by decide))⟩
theorem yk174 : YK 174 := ⟨⟨inT (in_t4 (List.mem_of_getElem? (i := 29) rfl)) rfl, inT (in_t1 (List.mem_of_getElem? (i := 1) rfl)) rfl, (RN_ok 11 (by decide)).1, by decide⟩, fun _ => inT (in_t4 (List.mem_of_getElem? (i := 28) rfl)) rfl, fun h => absurd h (by decide), by decide, rfl, by decide +kernel, plainFor_of_name ((RN_ok 11 (by decide)).2 (by decide))⟩
theorem yk175 : YK 175 := ⟨⟨inT (in_t6 (List.mem_of_getElem? (i := 42) rfl)) rfl, inT (in_t1 (List.mem_of_getElem? (i := 1) rfl)) rfl, (RN_ok 11 (by decide)).1, by decide⟩, fun _ => inT (in_t6 (List.mem_of_getElem? (i := 41) rfl)) rfl, fun h => absurd h (by decide), by decide, rfl, by decide +kernel, plainFor_of_name ((RN_ok 11 (by decide)).2 (by decide))⟩
theorem yk176 : YK 176 := ⟨⟨inT (in_t6 (List.mem_of_getElem? (i := 39) rfl)) rfl, inT (in_t1 (List.mem_of_getElem? (i := 1) rfl)) rfl, (RN_ok 11 (by decide)).1, by decide⟩, fun _ => inT (in_t6 (List.mem_of_getElem? (i := 38) rfl)) rfl, fun h => absurd h (by decide), by decide, rfl, by decide +kernel, plainFor_of_name ((RN_ok 11 (by decide)).2 (by decide))⟩
theorem yk177 : YK 177 := ⟨⟨inT (in_t4 (List.mem_of_getElem? (i := 202) rfl)) rfl, inT (in_t1 (List.mem_of_getElem? (i := 1) rfl)) rfl, (RN_ok 11 (by decide)).1, by decide⟩, fun _ => inT (in_t4 (List.mem_of_getElem? (i := 201) rfl)) rfl, fun h => absurd h (by decide), by decide, rfl, by decide +kernel, plainFor_of_name ((RN_ok 11 (by decide)).2 (by decide))⟩
theorem yk178 : YK 178 := ⟨⟨inT (in_t4 (List.mem_of_getElem? (i := 213) rfl)) rfl, inT (in_t1 (List.mem_of_getElem? (i := 1) rfl)) rfl, (RN_ok 11 (by decide)).1, by decide⟩, fun _ => inT (in_t4 (List.mem_of_getElem? (i := 212) rfl)) rfl, fun h => absurd h (by decide), by decide, rfl, by decide +kernel, plainFor_of_name ((RN_ok 11 (by decide)).2 (by decide))⟩
theorem yk179 : YK 179 := ⟨⟨inT (in_t4 (List.mem_of_getElem? (i := 216) rfl)) rfl, inT (in_t1 (List.mem_of_getElem? (i := 1) rfl)) rfl, (RN_ok 11 (by decide)).1, by decide⟩, fun _ => inT (in_t4 (List.mem_of_getElem? (i := 215) rfl)) rfl, fun h => absurd h (by decide), by decide, rfl, by decide +kernel, plainFor_of_name ((RN_ok 11 (by decide)).2 (by decide))⟩
theorem yk180 : YK 180 := ⟨⟨inT (in_t6 (List.mem_of_getElem? (i := 149) rfl)) rfl, inT (in_t1 (List.mem_of_getElem? (i := 17) rfl)) rfl, (RN_ok 12 (by decide)).1, by decide⟩, fun h => absurd h (by decide), fun _ => ⟨inT (in_t6 (List.mem_of_getElem? (i := 148) rfl)) rfl, inT (List.mem_append_left _ (List.mem_of_getElem? (i := 48) rfl)) rfl⟩, by decide, rfl, by decide +kernel, plainFor_of_name ((RN_ok 12 (by decide)).2 (by decide))⟩
theorem yk181 : YK 181 := ⟨⟨inT (in_t7 (List.mem_of_getElem? (i := 56) rfl)) rfl, inT (in_t1 (List.mem_of_getElem? (i := 17) rfl)) rfl, (RN_ok 12 (by decide)).1, by decide⟩, fun h => absurd h (by decide), fun _ => ⟨inT (in_t7 (List.mem_of_getElem? (i := 54) rfl)) rfl, inT (in_t7 (List.mem_of_getElem? (i := 55) rfl)) rfl⟩, by decide, rfl, by decide +kernel, plainFor_of_name ((RN_ok 12 (by decide)).2 (by decide))⟩
theorem yk182 : YK 182 := ⟨⟨inT (in_t7 (List.mem_of_getElem? (i := 60) rfl)) rfl, inT (in_t1 (List.mem_of_getElem? (i := 17) rfl)) rfl, (RN_ok 12 (by decide)).1, by decide⟩, fun h => absurd h (by decide), fun _ => ⟨inT (in_t7 (List.mem_of_getElem? (i := 58) rfl)) rfl, inT (in_t7 (List.mem_of_getElem? (i := 59) rfl)) rfl⟩, by decide, rfl, by decide +kernel, plainFor_of_name ((RN_ok 12 (by decide)).2 (by decide))⟩
theorem yk183 : YK 183 := ⟨⟨inT (in_t7 (List.mem_of_getElem? (i := 64) rfl)) rfl, inT (in_t1 (List.mem_of_getElem? (i := 17) rfl)) rfl, (RN_ok 12 (by decide)).1, by decide⟩, fun h => absurd h (by decide), fun _ => ⟨inT (in_t7 (List.mem_of_getElem? (i := 62) rfl)) rfl, inT (in_t7 (List.mem_of_getElem? (i := 63) rfl)) rfl⟩, by decide, rfl, by decide +kernel, plainFor_of_name ((RN_ok 12 (by decide)).2 (by decide))⟩
theorem yk184 : YK 184 := ⟨⟨inT (in_t7 (List.mem_of_getElem? (i := 75) rfl)) rfl, inT (in_t1 (List.mem_of_getElem? (i := 17) rfl)) rfl, (RN_ok 12 (by decide)).1, by decide⟩, fun h => absurd h (by decide), fun _ => ⟨inT (in_t7 (List.mem_of_getElem? (i := 74) rfl)) rfl, inT (List.mem_append_left _ (List.mem_of_getElem? (i := 49) rfl)) rfl⟩, by decide, rfl, by decide +kernel, plainFor_of_name ((RN_ok 12 (by decide)).2 (by decide))⟩
theorem yk185 : YK 185 := ⟨⟨inT (in_t7 (List.mem_of_getElem? (i := 135) rfl)) rfl, inT (in_t1 (List.mem_of_getElem? (i := 17) rfl)) rfl, (RN_ok 12 (by decide)).1, by decide⟩, fun h => absurd h (by decide), fun _ => ⟨inT (in_t7 (List.mem_of_getElem? (i := 134) rfl)) rfl, inT (List.mem_append_left _ (List.mem_of_getElem? (i := 55) rfl)) rfl⟩, by decide, rfl, by decide +kernel, plainFor_of_name ((RN_ok 12 (by decide)).2 (by decide))⟩
theorem yk186 : YK 186 := ⟨⟨inT (in_t7 (List.mem_of_getElem? (i := 235) rfl)) rfl, inT (in_t1 (List.mem_of_getElem? (i := 17) rfl)) rfl, (RN_ok 12 (by decide)).1, by decide⟩, fun h => absurd h (by decide), fun _ => ⟨inT (in_t7 (List.mem_of_getElem? (i := 234) rfl)) rfl, inT (List.mem_append_left _ (List.mem_of_getElem? (i := 77) rfl)) rfl⟩, by decide, rfl, by decide +kernel, plainFor_of_name ((RN_ok 12 (by decide)).2 (by decide))⟩
theorem yk187 : YK 187 := ⟨⟨inT (in_t8 (List.mem_of_getElem? (i := 75) rfl)) rfl, inT (in_t1 (List.mem_of_getElem? (i := 17) rfl)) rfl, (RN_ok 12 (by decide)).1, by decide⟩, fun h => absurd h (by decide), fun _ => ⟨inT (in_t8 (List.mem_of_getElem? (i := 74) rfl)) rfl, inT (List.mem_append_left _ (List.mem_of_getElem? (i := 90) rfl)) rfl⟩, by decide, rfl, by decide +kernel, plainFor_of_name ((RN_ok 12 (by decide)).2 (by decide))⟩
theorem yk188 : YK 188 := ⟨⟨inT (in_t9 (List.mem_of_getElem? (i := 124) rfl)) rfl, inT (in_t1 (List.mem_of_getElem? (i := 17) rfl)) rfl, (RN_ok 12 (by decide)).1, by decide⟩, fun h => absurd h (by decide), fun _ => ⟨inT (in_t9 (List.mem_of_getElem? (i := 123) rfl)) rfl, inT (List.mem_append_left _ (List.mem_of_getElem? (i := 118) rfl)) rfl⟩, by decide, rfl, by decide +kernel, plainFor_of_name ((RN_ok 12 (by decide)).2 (by decide))⟩
theorem yk189 : YK 189 := ⟨⟨inT (in_t7 (List.mem_of_getElem? (i := 71) rfl)) rfl, inT (in_t1 (List.mem_of_getElem? (i := 17) rfl)) rfl, (RN_ok 12 (by decide)).1, by decide⟩, fun _ => inT (in_t7 (List.mem_of_getElem? (i := 70) rfl)) rfl, fun h => absurd h (by decide), by decide, rfl, by decide +kernel, plainFor_of_name ((RN_ok 12 (by decide)).2 (by decide))⟩
theorem yk190 : YK 190 := ⟨⟨inT (in_t7 (List.mem_of_getElem? (i := 86) rfl)) rfl, inT (in_t1 (List.mem_of_getElem? (i := 17) rfl)) rfl, (RN_ok 12 (by decide)).1, by decide⟩, fun _ => inT (in_t7 (List.mem_of_getElem? (i := 85) rfl)) rfl, fun h => absurd h (by decide), by decide, rfl, by decide +kernel, plainFor_of_name ((RN_ok 12 (by decide)).2 (by decide))⟩
theorem yk191 : YK 191 := ⟨⟨inT (in_t7 (List.mem_of_getElem? (i := 68) rfl)) rfl, inT (in_t1 (List.mem_of_getElem? (i := 17) rfl)) rfl, (RN_ok 12 (by decide)).1, by decide⟩, fun h => absurd h (by decide), fun _ => ⟨inT (in_t7 (List.mem_of_getElem? (i := 66) rfl)) rfl, inT (in_t7 (List.mem_of_getElem? (i := 67) rfl)) rfl⟩, by decide, rfl, by decide +kernel, plainFor_of_name ((RN_ok 12 (by decide)).2 (by decide))⟩
theorem yk192 : YK 192 := ⟨⟨inT (in_t7 (List.mem_of_getElem? (i := 83) rfl)) rfl, inT (in_t1 (List.mem_of_getElem? (i := 17) rfl)) rfl, (RN_ok 12 (by decide)).1, by decide⟩, fun h => absurd h (by decide), fun _ => ⟨inT (in_t7 (List.mem_of_getElem? (i := 82) rfl)) rfl, inT (List.mem_append_left _ (List.mem_of_getElem? (i := 50) rfl)) rfl⟩, by decide, rfl, by decide +kernel, plainFor_of_name ((RN_ok 12 (by decide)).2 (by decide))⟩
theorem yk193 : YK 193 := ⟨⟨inT (in_t7 (List.mem_of_getElem? (i := 79) rfl)) rfl, inT (in_t1 (List.mem_of_getElem? (i := 17) rfl)) rfl, (RN_ok 12 (by decide)).1, by decide⟩, fun h => absurd h (by decide), fun _ => ⟨inT (in_t7 (List.mem_of_getElem? (i := 77) rfl)) rfl, inT (in_t7 (List.mem_of_getElem? (i := 78) rfl)) rfl⟩, by decide, rfl, by decide +kernel, plainFor_of_name ((RN_ok 12 (by decide)).2 (by decide))⟩
theorem yk194 : YK 194 := ⟨⟨inT (in_t7 (List.mem_of_getElem? (i := 90) rfl)) rfl, inT (in_t1 (List.mem_of_getElem? (i := 17) rfl)) rfl, (RN_ok 12 (by decide)).1, by decide⟩, fun h => absurd h (by decide), fun _ => ⟨inT (in_t7 (List.mem_of_getElem? (i := 88) rfl)) rfl, inT (in_t7 (List.mem_of_getElem? (i := 89) rfl)) rfl⟩, by decide, rfl, by decide +kernel, plainFor_of_name ((RN_ok 12 (by decide)).2 (by decide))⟩
theorem yk195 : YK 195 := ⟨⟨inT (in_t7 (List.mem_of_getElem? (i := 95) rfl)) rfl, inT (in_t1 (List.mem_of_getElem? (i := 17) rfl)) rfl, (RN_ok 12 (by decide)).1, by decide⟩, fun h => absurd h (by decide), fun _ => ⟨inT (in_t7 (List.mem_of_getElem? (i := 93) rfl)) rfl, inT (in_t7 (List.mem_of_getElem? (i := 94) rfl)) rfl⟩, by decide, rfl, by decide +kernel, plainFor_of_name ((RN_ok 12 (by decide)).2 (by decide))⟩
theorem yk196 : YK 196 := ⟨⟨inT (in_t8 (List.mem_of_getElem? (i := 123) rfl)) rfl, inT (in_t1 (List.mem_of_getElem? (i := 17) rfl)) rfl, (RN_ok 12 (by decide)).1, by decide⟩, fun _ => inT (in_t8 (List.mem_of_getElem? (i := 122) rfl)) rfl, fun h => absurd h (by decide), by decide, rfl, by decide +kernel, plainFor_of_name ((RN_ok 12 (by decide)).2 (by decide))⟩
theorem yk197 : YK 197 := ⟨⟨inT (in_t7 (List.mem_of_getElem? (i := 99) rfl)) rfl, inT (in_t1 (List.mem_of_getElem? (i := 17) rfl)) rfl, (RN_ok 12 (by decide)).1, by decide⟩, fun h => absurd h (by decide), fun _ => ⟨inT (in_t7 (List.mem_of_getElem? (i := 97) rfl)) rfl, inT (in_t7 (List.mem_of_getElem? (i := 98) rfl)) rfl⟩, by decide, rfl, by decide +kernel, plainFor_of_name ((RN_ok 12 (by decide)).2 (by decide))⟩
theorem yk198 : YK 198 := ⟨⟨inT (in_t7 (List.mem_of_getElem? (i := 103) rfl)) rfl, inT (in_t1 (List.mem_of_getElem? (i := 17) rfl)) rfl, (RN_ok 12 (by decide)).1, by decide⟩, fun h => absurd h (by decide), fun _ => ⟨inT (in_t7 (List.mem_of_getElem? (i := 102) rfl)) rfl, inT (List.mem_append_left _ (List.mem_of_getElem? (i := 51) rfl)) rfl⟩, by decide, rfl, by decide +kernel, plainFor_of_name ((RN_ok 12 (by decide)).2 (by decide))⟩
theorem yk199 : YK 199 := ⟨⟨inT (in_t7 (List.mem_of_getElem? (i := 123) rfl)) rfl, inT (in_t1 (List.mem_of_getElem? (i := 17) rfl)) rfl, (RN_ok 12 (by decide)).1, by decide⟩, fun h => absurd h (by decide), fun _ => ⟨inT (in_t7 (List.mem_of_getElem? (i := 122) rfl)) rfl, inT (List.mem_append_left _ (List.mem_of_getElem? (i := 54) rfl)) rfl⟩, by decide, rfl, by decide +kernel, plainFor_of_name ((RN_ok 12 (by decide)).2 (by decide))⟩
theorem yk200 : YK 200 := ⟨⟨inT (in_t7 (List.mem_of_getElem? (i := 126) rfl)) rfl, inT (in_t1 (List.mem_of_getElem? (i := 17) rfl)) rfl, (RN_ok 12 (by decide)).1, by decide⟩, fun _ => inT (in_t7 (List.mem_of_getElem? (i := 125) rfl)) rfl, fun h => absurd h (by decide), by decide, rfl, by decide +kernel, plainFor_of_name ((RN_ok 12 (by decide)).2 (by decide))⟩
theorem yk201 : YK 201 := ⟨⟨inT (in_t7 (List.mem_of_getElem? (i := 129) rfl)) rfl, inT (in_t1 (List.mem_of_getElem? (i := 17) rfl)) rfl, (RN_ok 12 (by decide)).1, by decide⟩, fun _ => inT (in_t7 (List.mem_of_getElem? (i := 128) rfl)) rfl, fun h => absurd h (by decide), by decide, rfl, by decide +kernel, plainFor_of_name ((RN_ok 12 (by decide)).2 (by decide))⟩
theorem yk202 : YK 202 := ⟨⟨inT (in_t7 (List.mem_of_getElem? (i := 119) rfl)) rfl, inT (in_t1 (List.mem_of_getElem? (i := 17) rfl)) rfl, (RN_ok 12 (by decide)).1, by decide⟩, fun h => absurd h (by decide), fun _ => ⟨inT (in_t7 (List.mem_of_getElem? (i := 118) rfl)) rfl, inT (List.mem_append_left _ (List.mem_of_getElem? (i := 53) rfl)) rfl⟩, by decide, rfl, by decide +kernel, plainFor_of_name ((RN_ok 12 (by decide)).2 (by decide))⟩
theorem yk203 : YK 203 := ⟨⟨inT (in_t7 (List.mem_of_getElem? (i := 227) rfl)) rfl, inT (in_t1 (List.mem_of_getElem? (i := 17) rfl)) rfl, (RN_ok 12 (by decide)).1, by decide⟩, fun h => absurd h (by decide), fun _ => ⟨inT (in_t7 (List.mem_of_getElem? (i := 226) rfl)) rfl, inT (List.mem_append_left _ (List.mem_of_getElem? (i := 75) rfl)) rfl⟩, by decide, rfl, by decide +kernel, plainFor_of_name ((RN_ok 12 (by decide)).2 (by decide))⟩
theorem yk204 : YK 204 := ⟨⟨inT (in_t7 (List.mem_of_getElem? (i := 144) rfl)) rfl, inT (in_t1 (List.mem_of_getElem? (i := 17) rfl)) rfl, (RN_ok 12 (by decide)).1, by decide⟩, fun h => absurd h (by decide), fun _ => ⟨inT (in_t7 (List.mem_of_getElem? (i := 143) rfl)) rfl, inT (List.mem_append_left _ (List.mem_of_getElem? (i := 57) rfl)) rfl⟩, by decide, rfl, by decide +kernel, plainFor_of_name ((RN_ok 12 (by decide)).2 (by decide))⟩
theorem yk205 : YK 205 := ⟨⟨inT (in_t7 (List.mem_of_getElem? (i := 150) rfl)) rfl, inT (in_t1 (List.mem_of_getElem? (i := 17) rfl)) rfl, (RN_ok 12 (by decide)).1, by decide⟩, fun h => absurd h (by decide), fun _ => ⟨inT (in_t7 (List.mem_of_getElem? (i := 149) rfl)) rfl, inT (List.mem_append_left _ (List.mem_of_getElem? (i := 58) rfl)) rfl⟩, by decide, rfl, by decide +kernel, plainFor_of_name ((RN_ok 12 (by decide)).2 (by decide))⟩
theorem yk206 : YK 206 := ⟨⟨inT (in_t7 (List.mem_of_getElem? (i := 115) rfl)) rfl, inT (in_t1 (List.mem_of_getElem? (i := 17) rfl)) rfl, (RN_ok 12 (by decide)).1, by decide⟩, fun h => absurd h (by decide), fun _ => ⟨inT (in_t7 (List.mem_of_getElem? (i := 114) rfl)) rfl, inT (List.mem_append_left _ (List.mem_of_getElem? (i := 52) rfl)) rfl⟩, by decide, rfl, by decide +kernel, plainFor_of_name ((RN_ok 12 (by decide)).2 (by decide))⟩
theorem yk207 : YK 207 := ⟨⟨inT (in_t7 (List.mem_of_getElem? (i := 223) rfl)) rfl, inT (in_t1 (List.mem_of_getElem? (i := 17) rfl)) rfl, (RN_ok 12 (by decide)).1, by decide⟩, fun h => absurd h (by decide), fun _ => ⟨inT (in_t7 (List.mem_of_getElem? (i := 222) rfl)) rfl, inT (List.mem_append_left _ (List.mem_of_getElem? (i := 74) rfl)) rfl⟩, by decide, rfl, by decide +kernel, plainFor_of_name ((RN_ok 12 (by decide)).2 (by decide))⟩
theorem yk208 : YK 208 := ⟨⟨inT (in_t7 (List.mem_of_getElem? (i := 181) rfl)) rfl, inT (in_t1 (List.mem_of_getElem? (i := 17) rfl)) rfl, (RN_ok 12 (by decide)).1, by decide⟩, fun h => absurd h (by decide), fun _ => ⟨inT (in_t7 (List.mem_of_getElem? (i := 180) rfl)) rfl, inT (List.mem_append_left _ (List.mem_of_getElem? (i := 65) rfl)) rfl⟩, by decide, rfl, by decide +kernel, plainFor_of_name ((RN_ok 12 (by decide)).2 (by decide))⟩
theorem yk209 : YK 209 := ⟨⟨inT (in_t7 (List.mem_of_getElem? (i := 154) rfl)) rfl, inT (in_t1 (List.mem_of_getElem? (i := 17) rfl)) rfl, (RN_ok 12 (by decide)).1, by decide⟩, fun h => absurd h (by decide), fun _ => ⟨inT (in_t7 (List.mem_of_getElem? (i := 153) rfl)) rfl, inT (List.mem_append_left _ (List.mem_of_getElem? (i := 59) rfl)) rfl⟩, by decide, rfl, by decide +kernel, plainFor_of_name ((RN_ok 12 (by decide)).2 (by decide))⟩
theorem yk210 : YK 210 := ⟨⟨inT (in_t7 (List.mem_of_getElem? (i := 169) rfl)) rfl, inT (in_t1 (List.mem_of_getElem? (i := 17) rfl)) rfl, (RN_ok 12 (by decide)).1, by decide⟩, fun h => absurd h (by decide), fun _ => ⟨inT (in_t7 (List.mem_of_getElem? (i := 168) rfl)) rfl, inT (List.mem_append_left _ (List.mem_of_getElem? (i := 62) rfl)) rfl⟩, by decide, rfl, by decide +kernel, plainFor_of_name ((RN_ok 12 (by decide)).2 (by decide))⟩
theorem yk211 : YK 211 := ⟨⟨inT (in_t7 (List.mem_of_getElem? (i := 177) rfl)) rfl, inT (in_t1 (List.mem_of_getElem? (i := 17) rfl)) rfl, (RN_ok 12 (by decide)).1, by decide⟩, fun h => absurd h (by decide), fun _ => ⟨inT (in_t7 (List.mem_of_getElem? (i := 176) rfl)) rfl, inT (List.mem_append_left _ (List.mem_of_getElem? (i := 64) rfl)) rfl⟩, by decide, rfl, by decide +kernel, plainFor_of_name ((RN_ok 12 (by decide)).2 (by decide))⟩
theorem yk212 : YK 212 := ⟨⟨inT (in_t7 (List.mem_of_getElem? (i := 173) rfl)) rfl, inT (in_t1 (List.mem_of_getElem? (i := 17) rfl)) rfl, (RN_ok 12 (by decide)).1, by decide⟩, fun h => absurd h (by decide), fun _ => ⟨inT (in_t7 (List.mem_of_getElem? (i := 172) rfl)) rfl, inT (List.mem_append_left _ (List.mem_of_getElem? (i := 63) rfl)) rfl⟩, by decide, rfl, by decide +kernel, plainFor_of_name ((RN_ok 12 (by decide)).2 (by decide))⟩
theorem yk213 : YK 213 := ⟨⟨inT (in_t7 (List.mem_of_getElem? (i := 107) rfl)) rfl, inT (in_t1 (List.mem_of_getElem? (i := 17) rfl)) rfl, (RN_ok 12 (by decide)).1, by decide⟩, fun h => absurd h (by decide), fun _ => ⟨inT (in_t7 (List.mem_of_getElem? (i := 105) rfl)) rfl, inT (in_t7 (List.mem_of_getElem? (i := 106) rfl)) rfl⟩, by decide, rfl, by decide +kernel, plainFor_of_name ((RN_ok 12 (by decide)).2 (by decide))⟩
theorem yk214 : YK 214 := ⟨⟨inT (in_t7 (List.mem_of_getElem? (i := 231) rfl)) rfl, inT (in_t1 (List.mem_of_getElem? (i := 17) rfl)) rfl, (RN_ok 12 (by decide)).1, by decide⟩, fun h => absurd h (by decide), fun _ => ⟨inT (in_t7 (List.mem_of_getElem? (i := 230) rfl)) rfl, inT (List.mem_append_left _ (List.mem_of_getElem? (i := 76) rfl)) rfl⟩, by decide, rfl, by decide +kernel, plainFor_of_name ((RN_ok 12 (by decide)).2 (by decide))⟩
theorem yk215 : YK 215 := ⟨⟨inT (in_t7 (List.mem_of_getElem? (i := 192) rfl)) rfl, inT (in_t1 (List.mem_of_getElem? (i := 17) rfl)) rfl, (RN_ok 12 (by decide)).1, by decide⟩, fun h => absurd h (by decide), fun _ => ⟨inT (in_t7 (List.mem_of_getElem? (i := 191) rfl)) rfl, inT (List.mem_append_left _ (List.mem_of_getElem? (i := 67) rfl)) rfl⟩, by decide, rfl, by decide +kernel, plainFor_of_name ((RN_ok 12 (by decide)).2 (by decide))⟩
theorem yk216 : YK 216 := ⟨⟨inT (in_t7 (List.mem_of_getElem? (i := 165) rfl)) rfl, inT (in_t1 (List.mem_of_getElem? (i := 17) rfl)) rfl, (RN_ok 12 (by decide)).1, by decide⟩, fun h => absurd h (by decide), fun _ => ⟨inT (in_t7 (List.mem_of_getElem? (i := 164) rfl)) rfl, inT (List.mem_append_left _ (List.mem_of_getElem? (i := 61) rfl)) rfl⟩, by decide, rfl, by decide +kernel, plainFor_of_name ((RN_ok 12 (by decide)).2 (by decide))⟩
theorem yk217 : YK 217 := ⟨⟨inT (in_t7 (List.mem_of_getElem? (i := 204) rfl)) rfl, inT (in_t1 (List.mem_of_getElem? (i := 17) rfl)) rfl, (RN_ok 12 (by decide)).1, by decide⟩, fun h => absurd h (by decide), fun _ => ⟨inT (in_t7 (List.mem_of_getElem? (i := 203) rfl)) rfl, inT (List.mem_append_left _ (List.mem_of_getElem? (i := 70) rfl)) rfl⟩, by decide, rfl, by decide +kernel, plainFor_of_name ((RN_ok 12 (by decide)).2 (by decide))⟩
theorem yk218 : YK 218 := ⟨⟨inT (in_t7 (List.mem_of_getElem? (i := 200) rfl)) rfl, inT (in_t1 (List.mem_of_getElem? (i := 17) rfl)) rfl, (RN_ok 12 (by decide)).1, by decide⟩, fun h => absurd h (by decide), fun _ => ⟨inT (in_t7 (List.mem_of_getElem? (i := 199) rfl)) rfl, inT (List.mem_append_left _ (List.mem_of_getElem? (i := 69) rfl)) rfl⟩, by decide, rfl, by decide +kernel, plainFor_of_name ((RN_ok 12 (by decide)).2 (by decide))⟩
theorem yk219 : YK 219 := ⟨⟨inT (in_t7 (List.mem_of_getElem? (i := 215) rfl)) rfl, inT (in_t1 (List.mem_of_getElem? (i := 17) rfl)) rfl, (RN_ok 12 (by decide)).1, by decide⟩, fun h => absurd h (by decide), fun _ => ⟨inT (in_t7 (List.mem_of_getElem? (i := 214) rfl)) rfl, inT (List.mem_append_left _ (List.mem_of_getElem? (i := 72) rfl)) rfl⟩, by decide, rfl, by decide +kernel, plainFor_of_name ((RN_ok 12 (by decide)).2 (by decide))⟩
theorem yk220 : YK 220 := ⟨⟨inT (in_t7 (List.mem_of_getElem? (i := 158) rfl)) rfl, inT (in_t1 (List.mem_of_getElem? (i := 17) rfl)) rfl, (RN_ok 12 (by decide)).1, by decide⟩, fun h => absurd h (by decide), fun _ => ⟨inT (in_t7 (List.mem_of_getElem? (i := 157) rfl)) rfl, inT (List.mem_append_left _ (List.mem_of_getElem? (i := 60) rfl)) rfl⟩, by decide, rfl, by decide +kernel, plainFor_of_name ((RN_ok 12 (by decide)).2 (by decide))⟩
theorem yk221 : YK 221 := ⟨⟨inT (in_t7 (List.mem_of_getElem? (i := 185) rfl)) rfl, inT (in_t1 (List.mem_of_getElem? (i := 17) rfl)) rfl, (RN_ok 12 (by decide)).1, by decide⟩, fun h => absurd h (by decide), fun _ => ⟨inT (in_t7 (List.mem_of_getElem? (i := 184) rfl)) rfl, inT (List.mem_append_left _ (List.mem_of_getElem? (i := 66) rfl)) rfl⟩, by decide, rfl, by decide +kernel, plainFor_of_name ((RN_ok 12 (by decide)).2 (by decide))⟩
theorem yk222 : YK 222 := ⟨⟨inT (in_t7 (List.mem_of_getElem? (i := 196) rfl)) rfl, inT (in_t1 (List.mem_of_getElem? (i := 17) rfl)) rfl, (RN_ok 12 (by decide)).1, by decide⟩, fun h => absurd h (by decide), fun _ => ⟨inT (in_t7 (List.mem_of_getElem? (i := 195) rfl)) rfl, inT (List.mem_append_left _ (List.mem_of_getElem? (i := 68) rfl)) rfl⟩, by decide, rfl, by decide +kernel, plainFor_of_name ((RN_ok 12 (by decide)).2 (by decide))⟩
theorem yk223 : YK 223 := ⟨⟨inT (in_t7 (List.mem_of_getElem? (i := 208) rfl)) rfl, inT (in_t1 (List.mem_of_getElem? (i := 17) rfl)) rfl, (RN_ok 12 (by decide)).1, by decide⟩, fun h => absurd h (by decide), fun _ => ⟨inT (in_t7 (List.mem_of_getElem? (i := 207) rfl)) rfl, inT (List.mem_append_left _ (List.mem_of_getElem? (i := 71) rfl)) rfl⟩, by decide, rfl, by decide +kernel, plainFor_of_name ((RN_ok 12 (by decide)).2 (by decide))⟩
theorem yk224 : YK 224 := ⟨⟨inT (in_t7 (List.mem_of_getElem? (i := 219) rfl)) rfl, inT (in_t1 (List.mem_of_getElem? (i := 17) rfl)) rfl, (RN_ok 12 (by decide)).1, by decide⟩, fun h => absurd h (by decide), fun _ => ⟨inT (in_t7 (List.mem_of_getElem? (i := 218) rfl)) rfl, inT (List.mem_append_left _ (List.mem_of_getElem? (i := 73) rfl)) rfl⟩, by decide, rfl, by decide +kernel, plainFor_of_name ((RN_ok 12 (by decide)).2 (by decide))⟩
theorem yk225 : YK 225 := ⟨⟨inT (in_t7 (List.mem_of_getElem? (i := 139) rfl)) rfl, inT (in_t1 (List.mem_of_getElem? (i := 17) rfl)) rfl, (RN_ok 12 (by decide)).1, by decide⟩, fun h => absurd h (by decide), fun _ => ⟨inT (in_t7 (List.mem_of_getElem? (i := 138) rfl)) rfl, inT (List.mem_append_left _ (List.mem_of_getElem? (i := 56) rfl)) rfl⟩, by decide, rfl, by decide +kernel, plainFor_of_name ((RN_ok 12 (by decide)).2 (by decide))⟩
theorem yk226 : YK 226 := ⟨⟨inT (in_t7 (List.mem_of_getElem? (i := 111) rfl)) rfl, inT (in_t1 (List.mem_of_getElem? (i := 17) rfl)) rfl, (RN_ok 12 (by decide)).1, by decide⟩, fun h => absurd h (by decide), fun _ => ⟨inT (in_t7 (List.mem_of_getElem? (i := 109) rfl)) rfl, inT (in_t7 (List.mem_of_getElem? (i := 110) rfl)) rfl⟩, by decide, rfl, by decide +kernel, plainFor_of_name ((RN_ok 12 (by decide)).2 (by decide))⟩
theorem yk227 : YK 227 := ⟨⟨inT (in_t8 (List.mem_of_getElem? (i := 11) rfl)) rfl, inT (in_t1 (List.mem_of_getElem? (i := 17) rfl)) rfl, (RN_ok 12 (by decide)).1, by decide⟩, fun h => absurd h (by decide), fun _ => ⟨inT (in_t8 (List.mem_of_getElem? (i := 10) rfl)) rfl, inT (List.mem_append_left _ (List.mem_of_getElem? (i := 80) rfl)) rfl⟩, by decide, rfl, by decide +kernel, plainFor_of_name ((RN_ok 12 (by decide)).2 (by decide))⟩
theorem yk228 : YK 228 := ⟨⟨inT (in_t8 (List.mem_of_getElem? (i := 15) rfl)) rfl, inT (in_t1 (List.mem_of_getElem? (i := 17) rfl)) rfl, (RN_ok 12 (by decide)).1, by decide⟩, fun h => absurd h (by decide), fun _ => ⟨inT (in_t8 (List.mem_of_getElem? (i := 14) rfl)) rfl, inT (List.mem_append_left _ (List.mem_of_getElem? (i := 81) rfl)) rfl⟩, by decide, rfl, by decide +kernel, plainFor_of_name ((RN_ok 12 (by decide)).2 (by decide))⟩
theorem yk229 : YK 229 := ⟨⟨inT (in_t8 (List.mem_of_getElem? (i := 7) rfl)) rfl, inT (in_t1 (List.mem_of_getElem? (i := 17) rfl)) rfl, (RN_ok 12 (by decide)).1, by decide⟩, fun h => absurd h (by decide), fun _ => ⟨inT (in_t8 (List.mem_of_getElem? (i := 6) rfl)) rfl, inT (List.mem_append_left _ (List.mem_of_getElem? (i := 79) rfl)) rfl⟩, by decide, rfl, by decide +kernel, plainFor_of_name ((RN_ok 12 (by decide)).2 (by decide))⟩
theorem yk230 : YK 230 := ⟨⟨inT (in_t8 (List.mem_of_getElem? (i := 3) rfl)) rfl, inT (in_t1 (List.mem_of_getElem? (i := 17) rfl)) rfl, (RN_ok 12 (by decide)).1, by decide⟩, fun h => absurd h (by decide), fun _ => ⟨inT (in_t8 (List.mem_of_getElem? (i := 2) rfl)) rfl, inT (List.mem_append_left _ (List.mem_of_getElem? (i := 78) rfl)) rfl⟩, by decide, rfl, by decide +kernel, plainFor_of_name ((RN_ok 12 (by decide)).2 (by decide))⟩
theorem yk231 : YK 231 := ⟨⟨inT (in_t7 (List.mem_of_getElem? (i := 239) rfl)) rfl, inT (in_t1 (List.mem_of_getElem? (i := 17) rfl)) rfl, (RN_ok 12 (by decide)).1, by decide⟩, fun h => absurd h (by decide), fun _ => ⟨inT (in_t7 (List.mem_of_getElem? (i := 237) rfl)) rfl, inT (in_t7 (List.mem_of_getElem? (i := 238) rfl)) rfl⟩, by decide, rfl, by decide +kernel, plainFor_of_name ((RN_ok 12 (by decide)).2 (by decide))⟩
theorem yk232 : YK 232 := ⟨⟨inT (in_t7 (List.mem_of_getElem? (i := 161) rfl)) rfl, inT (in_t1 (List.mem_of_getElem? (i := 17) rfl)) rfl, (RN_ok 12 (by decide)).1, by decide⟩, fun _ => inT (in_t7 (List.mem_of_getElem? (i := 160) rfl)) rfl, fun h => absurd h (by decide), by decide, rfl, by decide +kernel, plainFor_of_name ((RN_ok 12 (by decide)).2 (by decide))⟩
theorem yk233 : YK 233 := ⟨⟨inT (in_t7 (List.mem_of_getElem? (i := 188) rfl)) rfl, inT (in_t1 (List.mem_of_getElem? (i := 17) rfl)) rfl, (RN_ok 12 (by decide)).1, by decide⟩, fun _ => inT (in_t7 (List.mem_of_getElem? (i := 187) rfl)) rfl, fun h => absurd h (by decide), by decide, rfl, by decide +kernel, plainFor_of_name ((RN_ok 12 (by decide)).2 (by decide))⟩
theorem yk234 : YK 234 := ⟨⟨inT (in_t7 (List.mem_of_getElem? (i := 211) rfl)) rfl, inT (in_t1 (List.mem_of_getElem? (i := 17) rfl)) rfl, (RN_ok 12 (by decide)).1, by decide⟩, fun _ => inT (in_t7 (List.mem_of_getElem? (i := 210) rfl)) rfl, fun h => absurd h (by decide), by decide, rfl, by decide +kernel, plainFor_of_name ((RN_ok 12 (by decide)).2 (by decide))⟩
theorem yk235 : YK 235 := ⟨⟨inT (in_t8 (List.mem_of_getElem? (i := 35) rfl)) rfl, inT (in_t1 (List.mem_of_getElem? (i := 17) rfl)) rfl, (RN_ok 12 (by decide)).1, by decide⟩, fun h => absurd h (by decide), fun _ => ⟨inT (in_t8 (List.mem_of_getElem? (i := 34) rfl)) rfl, inT (List.mem_append_left _ (List.mem_of_getElem? (i := 84) rfl)) rfl⟩, by decide, rfl, by decide +kernel, plainFor_of_name ((RN_ok 12 (by decide)).2 (by decide))⟩
theorem yk236 : YK 236 := ⟨⟨inT (in_t8 (List.mem_of_getElem? (i := 55) rfl)) rfl, inT (in_t1 (List.mem_of_getElem? (i := 17) rfl)) rfl, (RN_ok 12 (by decide)).1, by decide⟩, fun h => absurd h (by decide), fun _ => ⟨inT (in_t8 (List.mem_of_getElem? (i := 54) rfl)) rfl, inT (List.mem_append_left _ (List.mem_of_getElem? (i := 88) rfl)) rfl⟩, by decide, rfl, by decide +kernel, plainFor_of_name ((RN_ok 12 (by decide)).2 (by decide))⟩
theorem yk237 : YK 237 := ⟨⟨inT (in_t8 (List.mem_of_getElem? (i := 63) rfl)) rfl, inT (in_t1 (List.mem_of_getElem? (i := 17) rfl)) rfl, (RN_ok 12 (by decide)).1, by decide⟩, fun h => absurd h (by decide), fun _ => ⟨inT (in_t8 (List.mem_of_getElem? (i := 62) rfl)) rfl, inT (List.mem_append_left _ (List.mem_of_getElem? (i := 89) rfl)) rfl⟩, by decide, rfl, by decide +kernel, plainFor_of_name ((RN_ok 12 (by decide)).2 (by decide))⟩
theorem yk238 : YK 238 := ⟨⟨inT (in_t8 (List.mem_of_getElem? (i := 231) rfl)) rfl, inT (in_t1 (List.mem_of_getElem? (i := 17) rfl)) rfl, (RN_ok 12 (by decide)).1, by decide⟩, fun h => absurd h (by decide), fun _ => ⟨inT (in_t8 (List.mem_of_getElem? (i := 230) rfl)) rfl, inT (List.mem_append_left _ (List.mem_of_getElem? (i := 104) rfl)) rfl⟩, by decide, rfl, by decide +kernel, plainFor_of_name ((RN_ok 12 (by decide)).2 (by decide))⟩
theorem yk239 : YK 239 := ⟨⟨inT (in_t8 (List.mem_of_getElem? (i := 47) rfl)) rfl, inT (in_t1 (List.mem_of_getElem? (i := 17) rfl)) rfl, (RN_ok 12 (by decide)).1, by decide⟩, fun h => absurd h (by decide), fun _ => ⟨inT (in_t8 (List.mem_of_getElem? (i := 46) rfl)) rfl, inT (List.mem_append_left _ (List.mem_of_getElem? (i := 87) rfl)) rfl⟩, by decide, rfl, by decide +kernel, plainFor_of_name ((RN_ok 12 (by decide)).2 (by decide))⟩
theorem yk240 : YK 240 := ⟨⟨inT (in_t9 (List.mem_of_getElem? (i := 10) rfl)) rfl, inT (in_t1 (List.mem_of_getElem? (i := 17) rfl)) rfl, (RN_ok 12 (by decide)).1, by decide⟩, fun _ => inT (in_t9 (List.mem_of_getElem? (i := 9) rfl)) rfl, fun h => absurd h (by decide), by decide, rfl, by decide +kernel, plainFor_of_name ((RN_ok 12 (by decide)).2 (by decide))⟩
theorem yk241 : YK 241 := ⟨⟨inT (in_t8 (List.mem_of_getElem? (i := 27) rfl)) rfl, inT (in_t1 (List.mem_of_getElem? (i := 17) rfl)) rfl, (RN_ok 12 (by decide)).1, by decide⟩, fun h => absurd h (by decide), fun _ => ⟨inT (in_t8 (List.mem_of_getElem? (i := 26) rfl)) rfl, inT (List.mem_append_left _ (List.mem_of_getElem? (i := 83) rfl)) rfl⟩, by decide, rfl, by decide +kernel, plainFor_of_name ((RN_ok 12 (by decide)).2 (by decide))⟩
theorem yk242 : YK 242 := ⟨⟨inT (in_t8 (List.mem_of_getElem? (i := 87) rfl)) rfl, inT (in_t1 (List.mem_of_getElem? (i := 17) rfl)) rfl, (RN_ok 12 (by decide)).1, by decide⟩, fun h => absurd h (by decide), fun _ => ⟨inT (in_t8 (List.mem_of_getElem? (i := 86) rfl)) rfl, inT (List.mem_append_left _ (List.mem_of_getElem? (i := 92) rfl)) rfl⟩, by decide, rfl, by decide +kernel, plainFor_of_name ((RN_ok 12 (by decide)).2 (by decide))⟩
theorem yk243 : YK 243 := ⟨⟨inT (in_t8 (List.mem_of_getElem? (i := 43) rfl)) rfl, inT (in_t1 (List.mem_of_getElem? (i := 17) rfl)) rfl, (RN_ok 12 (by decide)).1, by decide⟩, fun h => absurd h (by decide), fun _ => ⟨inT (in_t8 (List.mem_of_getElem? (i := 42) rfl)) rfl, inT (List.mem_append_left _ (List.mem_of_getElem? (i := 86) rfl)) rfl⟩, by decide, rfl, by decide +kernel, plainFor_of_name ((RN_ok 12 (by decide)).2 (by decide))⟩
theorem yk244 : YK 244 := ⟨⟨inT (in_t8 (List.mem_of_getElem? (i := 23) rfl)) rfl, inT (in_t1 (List.mem_of_getElem? (i := 17) rfl)) rfl, (RN_ok 12 (by decide)).1, by decide⟩, fun h => absurd h (by decide), fun _ => ⟨inT (in_t8 (List.mem_of_getElem? (i := 22) rfl)) rfl, inT (List.mem_append_left _ (List.mem_of_getElem? (i := 82) rfl)) rfl⟩, by decide, rfl, by decide +kernel, plainFor_of_name ((RN_ok 12 (by decide)).2 (by decide))⟩
theorem yk245 : YK 245 := ⟨⟨inT (in_t8 (List.mem_of_getElem? (i := 39) rfl)) rfl, inT (in_t1 (List.mem_of_getElem? (i := 17) rfl)) rfl, (RN_ok 12 (by decide)).1, by decide⟩, fun h => absurd h (by decide), fun _ => ⟨inT (in_t8 (List.mem_of_getElem? (i := 38) rfl)) rfl, inT (List.mem_append_left _ (List.mem_of_getElem? (i := 85) rfl)) rfl⟩, by decide, rfl, by decide +kernel, plainFor_of_name ((RN_ok 12 (by decide)).2 (by decide))⟩
theorem yk246 : YK 246 := ⟨⟨inT (in_t8 (List.mem_of_getElem? (i := 19) rfl)) rfl, inT (in_t1 (List.mem_of_getElem? (i := 17) rfl)) rfl, (RN_ok 12 (by decide)).1, by decide⟩, fun h => absurd h (by decide), fun _ => ⟨inT (in_t8 (List.mem_of_getElem? (i := 17) rfl)) rfl, inT (in_t8 (List.mem_of_getElem? (i := 18) rfl)) rfl⟩, by decide, rfl, by decide +kernel, plainFor_of_name ((RN_ok 12 (by decide)).2 (by decide))⟩
theorem yk247 : YK 247 := ⟨⟨inT (in_t8 (List.mem_of_getElem? (i := 31) rfl)) rfl, inT (in_t1 (List.mem_of_getElem? (i := 17) rfl)) rfl, (RN_ok 12 (by decide)).1, by decide⟩, fun h => absurd h (by decide), fun _ => ⟨inT (in_t8 (List.mem_of_getElem? (i := 29) rfl)) rfl, inT (in_t8 (List.mem_of_getElem? (i := 30) rfl)) rfl⟩, by decide, rfl, by decide +kernel, plainFor_of_name ((RN_ok 12 (by decide)).2 (by decide))⟩
theorem yk248 : YK 248 := ⟨⟨inT (in_t8 (List.mem_of_getElem? (i := 51) rfl)) rfl, inT (in_t1 (List.mem_of_getElem? (i := 17) rfl)) rfl, (RN_ok 12 (by decide)).1, by decide⟩, fun h => absurd h (by decide), fun _ => ⟨inT (in_t8 (List.mem_of_getElem? (i := 49) rfl)) rfl, inT (in_t8 (List.mem_of_getElem? (i := 50) rfl)) rfl⟩, by decide, rfl, by decide +kernel, plainFor_of_name ((RN_ok 12 (by decide)).2 (by decide))⟩
theorem yk249 : YK 249 := ⟨⟨inT (in_t8 (List.mem_of_getElem? (i := 59) rfl)) rfl, inT (in_t1 (List.mem_of_getElem? (i := 17) rfl)) rfl, (RN_ok 12 (by decide)).1, by decide⟩, fun h => absurd h (by decide), fun _ => ⟨inT (in_t8 (List.mem_of_getElem? (i := 57) rfl)) rfl, inT (in_t8 (List.mem_of_getElem? (i := 58) rfl)) rfl⟩, by decide, rfl, by decide +kernel, plainFor_of_name ((RN_ok 12 (by decide)).2 (by decide))⟩
theorem yk250 : YK 250 := ⟨⟨inT (in_t8 (List.mem_of_getElem? (i := 67) rfl)) rfl, inT (in_t1 (List.mem_of_getElem? (i := 17) rfl)) rfl, (RN_ok 12 (by decide)).1, by decide⟩, fun h => absurd h (by decide), fun _ => ⟨inT (in_t8 (List.mem_of_getElem? (i := 65) rfl)) rfl, inT (in_t8 (List.mem_of_getElem? (i := 66) rfl)) rfl⟩, by decide, rfl, by decide +kernel, plainFor_of_name ((RN_ok 12 (by decide)).2 (by decide))⟩
theorem yk251 : YK 251 := ⟨⟨inT (in_t8 (List.mem_of_getElem? (i := 71) rfl)) rfl, inT (in_t1 (List.mem_of_getElem? (i := 17) rfl)) rfl, (RN_ok 12 (by decide)).1, by decide⟩, fun h => absurd h (by decide), fun _ => ⟨inT (in_t8 (List.mem_of_getElem? (i := 69) rfl)) rfl, inT (in_t8 (List.mem_of_getElem? (i := 70) rfl)) rfl⟩, by decide, rfl, by decide +kernel, plainFor_of_name ((RN_ok 12 (by decide)).2 (by decide))⟩
theorem yk252 : YK 252 := ⟨⟨inT (in_t8 (List.mem_of_getElem? (i := 91) rfl)) rfl, inT (in_t1 (List.mem_of_getElem? (i := 17) rfl)) rfl, (RN_ok 12 (by decide)).1, by decide⟩, fun h => absurd h (by decide), fun _ => ⟨inT (in_t8 (List.mem_of_getElem? (i := 90) rfl)) rfl, inT (List.mem_append_left _ (List.mem_of_getElem? (i := 93) rfl)) rfl⟩, by decide, rfl, by decide +kernel, plainFor_of_name ((RN_ok 12 (by decide)).2 (by decide))⟩
theorem yk253 : YK 253 := ⟨⟨inT (in_t8 (List.mem_of_getElem? (i := 83) rfl)) rfl, inT (in_t1 (List.mem_of_getElem? (i := 17) rfl)) rfl, (RN_ok 12 (by decide)).1, by decide⟩, fun h => absurd h (by decide), fun _ => ⟨inT (in_t8 (List.mem_of_getElem? (i := 82) rfl)) rfl, inT (List.mem_append_left _ (List.mem_of_getElem? (i := 91) rfl)) rfl⟩, by decide, rfl, by decide +kernel, plainFor_of_name ((RN_ok 12 (by decide)).2 (by decide))⟩
theorem yk254 : YK 254 := ⟨⟨inT (in_t8 (List.mem_of_getElem? (i := 99) rfl)) rfl, inT (in_t1 (List.mem_of_getElem? (i := 17) rfl)) rfl, (RN_ok 12 (by decide)).1, by decide⟩, fun h => absurd h (by decide), fun _ => ⟨inT (in_t8 (List.mem_of_getElem? (i := 98) rfl)) rfl, inT (List.mem_append_left _ (List.mem_of_getElem? (i := 94) rfl)) rfl⟩, by decide, rfl, by decide +kernel, plainFor_of_name ((RN_ok 12 (by decide)).2 (by decide))⟩
theorem yk255 : YK 255 := ⟨⟨inT (in_t8 (List.mem_of_getElem? (i := 79) rfl)) rfl, inT (in_t1 (List.mem_of_getElem? (i := 17) rfl)) rfl, (RN_ok 12 (by decide)).1, by decide⟩, fun h => absurd h (by decide), fun _ => ⟨inT (in_t8 (List.mem_of_getElem? (i := 77) rfl)) rfl, inT (in_t8 (List.mem_of_getElem? (i := 78) rfl)) rfl⟩, by decide, rfl, by decide +kernel, plainFor_of_name ((RN_ok 12 (by decide)).2 (by decide))⟩
theorem yk256 : YK 256 := ⟨⟨inT (in_t8 (List.mem_of_getElem? (i := 95) rfl)) rfl, inT (in_t1 (List.mem_of_getElem? (i := 17) rfl)) rfl, (RN_ok 12 (by decide)).1, by decide⟩, fun h => absurd h (by decide), fun _ => ⟨inT (in_t8 (List.mem_of_getElem? (i := 93) rfl)) rfl, inT (in_t8 (List.mem_of_getElem? (i := 94) rfl)) rfl⟩, by decide, rfl, by decide +kernel, plainFor_of_name ((RN_ok 12 (by decide)).2 (by decide))⟩
theorem yk257 : YK 257 := ⟨⟨inT (in_t8 (List.mem_of_getElem? (i := 103) rfl)) rfl, inT (in_t1 (List.mem_of_getElem? (i := 17) rfl)) rfl, (RN_ok 12 (by decide)).1, by decide⟩, fun h => absurd h (by decide), fun _ => ⟨inT (in_t8 (List.mem_of_getElem? (i := 101) rfl)) rfl, inT (in_t8 (List.mem_of_getElem? (i := 102) rfl)) rfl⟩, by decide, rfl, by decide +kernel, plainFor_of_name ((RN_ok 12 (by decide)).2 (by decide))⟩
theorem yk258 : YK 258 := ⟨⟨inT (in_t8 (List.mem_of_getElem? (i := 111) rfl)) rfl, inT (in_t1 (List.mem_of_getElem? (i := 17) rfl)) rfl, (RN_ok 12 (by decide)).1, by decide⟩, fun h => absurd h (by decide), fun _ => ⟨inT (in_t8 (List.mem_of_getElem? (i := 110) rfl)) rfl, inT (List.mem_append_left _ (List.mem_of_getElem? (i := 95) rfl)) rfl⟩, by decide, rfl, by decide +kernel, plainFor_of_name ((RN_ok 12 (by decide)).2 (by decide))⟩
theorem yk259 : YK 259 := ⟨⟨inT (in_t8 (List.mem_of_getElem? (i := 107) rfl)) rfl, inT (in_t1 (List.mem_of_getElem? (i := 17) rfl)) rfl, (RN_ok 12 (by decide)).1, by decide⟩, fun h => absurd h (by decide), fun _ => ⟨inT (in_t8 (List.mem_of_getElem? (i := 105) rfl)) rfl, inT (in_t8 (List.mem_of_getElem? (i := 106) rfl)) rfl⟩, by decide, rfl, by decide +kernel, plainFor_of_name ((RN_ok 12 (by decide)).2 (by decide))⟩
theorem yk260 : YK 260 := ⟨⟨inT (in_t8 (List.mem_of_getElem? (i := 115) rfl)) rfl, inT (in_t1 (List.mem_of_getElem? (i := 17) rfl)) rfl, (RN_ok 12 (by decide)).1, by decide⟩, fun h => absurd h (by decide), fun _ => ⟨inT (in_t8 (List.mem_of_getElem? (i := 113) rfl)) rfl, inT (in_t8 (List.mem_of_getElem? (i := 114) rfl)) rfl⟩, by decide, rfl, by decide +kernel, plainFor_of_name ((RN_ok 12 (by decide)).2 (by decide))⟩
theorem yk261 : YK 261 := ⟨⟨inT (in_t8 (List.mem_of_getElem? (i := 135) rfl)) rfl, inT (in_t1 (List.mem_of_getElem? (i := 17) rfl)) rfl, (RN_ok 12 (by decide)).1, by decide⟩, fun h => absurd h (by decide), fun _ => ⟨inT (in_t8 (List.mem_of_getElem? (i := 134) rfl)) rfl, inT (List.mem_append_left _ (List.mem_of_getElem? (i := 98) rfl)) rfl⟩, by decide, rfl, by decide +kernel, plainFor_of_name ((RN_ok 12 (by decide)).2 (by decide))⟩
theorem yk262 : YK 262 := ⟨⟨inT (in_t8 (List.mem_of_getElem? (i := 131) rfl)) rfl, inT (in_t1 (List.mem_of_getElem? (i := 17) rfl)) rfl, (RN_ok 12 (by decide)).1, by decide⟩, fun h => absurd h (by decide), fun _ => ⟨inT (in_t8 (List.mem_of_getElem? (i := 130) rfl)) rfl, inT (List.mem_append_left _ (List.mem_of_getElem? (i := 97) rfl)) rfl⟩, by decide, rfl, by decide +kernel, plainFor_of_name ((RN_ok 12 (by decide)).2 (by decide))⟩
theorem yk263 : YK 263 := ⟨⟨inT (in_t8 (List.mem_of_getElem? (i := 127) rfl)) rfl, inT (in_t1 (List.mem_of_getElem? (i := 17) rfl)) rfl, (RN_ok 12 (by decide)).1, by decide⟩, fun h => absurd h (by decide), fun _ => ⟨inT (in_t8 (List.mem_of_getElem? (i := 126) rfl)) rfl, inT (List.mem_append_left _ (List.mem_of_getElem? (i := 96) rfl)) rfl⟩, by decide, rfl, by decide +kernel, plainFor_of_name ((RN_ok 12 (by decide)).2 (by decide))⟩
theorem yk264 : YK 264 := ⟨⟨inT (in_t8 (List.mem_of_getElem? (i := 119) rfl)) rfl, inT (in_t1 (List.mem_of_getElem? (i := 17) rfl)) rfl, (RN_ok 12 (by decide)).1, by decide⟩, fun h => absurd h (by decide), fun _ => ⟨inT (in_t8 (List.mem_of_getElem? (i := 117) rfl)) rfl, inT (in_t8 (List.mem_of_getElem? (i := 118) rfl)) rfl⟩, by decide, rfl, by decide +kernel, plainFor_of_name ((RN_ok 12 (by decide)).2 (by decide))⟩
theorem yk265 : YK 265 := ⟨⟨inT (in_t8 (List.mem_of_getElem? (i := 143) rfl)) rfl, inT (in_t1 (List.mem_of_getElem? (i := 17) rfl)) rfl, (RN_ok 12 (by decide)).1, by decide⟩, fun h => absurd h (by decide), fun _ => ⟨inT (in_t8 (List.mem_of_getElem? (i := 142) rfl)) rfl, inT (List.mem_append_left _ (List.mem_of_getElem? (i := 99) rfl)) rfl⟩, by decide, rfl, by decide +kernel, plainFor_of_name ((RN_ok 12 (by decide)).2 (by decide))⟩
theorem yk266 : YK 266 := ⟨⟨inT (in_t8 (List.mem_of_getElem? (i := 139) rfl)) rfl, inT (in_t1 (List.mem_of_getElem? (i := 17) rfl)) rfl, (RN_ok 12 (by decide)).1, by decide⟩, fun h => absurd h (by decide), fun _ => ⟨inT (in_t8 (List.mem_of_getElem? (i := 137) rfl)) rfl, inT (in_t8 (List.mem_of_getElem? (i := 138) rfl)) rfl⟩, by decide, rfl, by decide +kernel, plainFor_of_name ((RN_ok 12 (by decide)).2 (by decide))⟩
theorem yk267 : YK 267 := ⟨⟨inT (in_t8 (List.mem_of_getElem? (i := 151) rfl)) rfl, inT (in_t1 (List.mem_of_getElem? (i := 17) rfl)) rfl, (RN_ok 12 (by decide)).1, by decide⟩, fun h => absurd h (by decide), fun _ => ⟨inT (in_t8 (List.mem_of_getElem? (i := 150) rfl)) rfl, inT (List.mem_append_left _ (List.mem_of_getElem? (i := 100) rfl)) rfl⟩, by decide, rfl, by decide +kernel, plainFor_of_name ((RN_ok 12 (by decide)).2 (by decide))⟩
theorem yk268 : YK 268 := ⟨⟨inT (in_t8 (List.mem_of_getElem? (i := 147) rfl)) rfl, inT (in_t1 (List.mem_of_getElem? (i := 17) rfl)) rfl, (RN_ok 12 (by decide)).1, by decide⟩, fun h => absurd h (by decide), fun _ => ⟨inT (in_t8 (List.mem_of_getElem? (i := 145) rfl)) rfl, inT (in_t8 (List.mem_of_getElem? (i := 146) rfl)) rfl⟩, by decide, rfl, by decide +kernel, plainFor_of_name ((RN_ok 12 (by decide)).2 (by decide))⟩
theorem yk269 : YK 269 := ⟨⟨inT (in_t8 (List.mem_of_getElem? (i := 155) rfl)) rfl, inT (in_t1 (List.mem_of_getElem? (i := 17) rfl)) rfl, (RN_ok 12 (by decide)).1, by decide⟩, fun h => absurd h (by decide), fun _ => ⟨inT (in_t8 (List.mem_of_getElem? (i := 153) rfl)) rfl, inT (in_t8 (List.mem_of_getElem? (i := 154) rfl)) rfl⟩, by decide, rfl, by decide +kernel, plainFor_of_name ((RN_ok 12 (by decide)).2 (by decide))⟩
theorem yk270 : YK 270 := ⟨⟨inT (in_t8 (List.mem_of_getElem? (i := 159) rfl)) rfl, inT (in_t1 (List.mem_of_getElem? (i := 17) rfl)) rfl, (RN_ok 12 (by decide)).1, by decide⟩, fun h => absurd h (by decide), fun _ => ⟨inT (in_t8 (List.mem_of_getElem? (i := 157) rfl)) rfl, inT (in_t8 (List.mem_of_getElem? (i := 158) rfl)) rfl⟩, by decide, rfl, by decide +kernel, plainFor_of_name ((RN_ok 12 (by decide)).2 (by decide))⟩
theorem yk271 : YK 271 := ⟨⟨inT (in_t8 (List.mem_of_getElem? (i := 163) rfl)) rfl, inT (in_t1 (List.mem_of_getElem? (i := 17) rfl)) rfl, (RN_ok 12 (by decide)).1, by decide⟩, fun h => absurd h (by decide), fun _ => ⟨inT (in_t8 (List.mem_of_getElem? (i := 161) rfl)) rfl, inT (in_t8 (List.mem_of_getElem? (i := 162) rfl)) rfl⟩, by decide, rfl, by decide +kernel, plainFor_of_name ((RN_ok 12 (by decide)).2 (by decide))⟩
theorem yk272 : YK 272 := ⟨⟨inT (in_t8 (List.mem_of_getElem? (i := 167) rfl)) rfl, inT (in_t1 (List.mem_of_getElem? (i := 17) rfl)) rfl, (RN_ok 12 (by decide)).1, by decide⟩, fun h => absurd h (by decide), fun _ => ⟨inT (in_t8 (List.mem_of_getElem? (i := 165) rfl)) rfl, inT (in_t8 (List.mem_of_getElem? (i := 166) rfl)) rfl⟩, by decide, rfl, by decide +kernel, plainFor_of_name ((RN_ok 12 (by decide)).2 (by decide))⟩
theorem yk273 : YK 273 := ⟨⟨inT (in_t8 (List.mem_of_getElem? (i := 171) rfl)) rfl, inT (in_t1 (List.mem_of_getElem? (i := 17) rfl)) rfl, (RN_ok 12 (by decide)).1, by decide⟩, fun h => absurd h (by decide), fun _ => ⟨inT (in_t8 (List.mem_of_getElem? (i := 169) rfl)) rfl, inT (in_t8 (List.mem_of_getElem? (i := 170) rfl)) rfl⟩, by decide, rfl, by decide +kernel, plainFor_of_name ((RN_ok 12 (by decide)).2 (by decide))⟩
theorem yk274 : YK 274 := ⟨⟨inT (in_t8 (List.mem_of_getElem? (i := 175) rfl)) rfl, inT (in_t1 (List.mem_of_getElem? (i := 17) rfl)) rfl, (RN_ok 12 (by decide)).1, by decide⟩, fun h => absurd h (by decide), fun _ => ⟨inT (in_t8 (List.mem_of_getElem? (i := 173) rfl)) rfl, inT (in_t8 (List.mem_of_getElem? (i := 174) rfl)) rfl⟩, by decide, rfl, by decide +kernel, plainFor_of_name ((RN_ok 12 (by decide)).2 (by decide))⟩
theorem yk275 : YK 275 := ⟨⟨inT (in_t8 (List.mem_of_getElem? (i := 180) rfl)) rfl, inT (in_t1 (List.mem_of_getElem? (i := 17) rfl)) rfl, (RN_ok 12 (by decide)).1, by decide⟩, fun h => absurd h (by decide), fun _ => ⟨inT (in_t8 (List.mem_of_getElem? (i := 178) rfl)) rfl, inT (in_t8 (List.mem_of_getElem? (i := 179) rfl)) rfl⟩, by decide, rfl, by decide +kernel, plainFor_of_name ((RN_ok 12 (by decide)).2 (by decide))⟩
theorem yk276 : YK 276 := ⟨⟨inT (in_t8 (List.mem_of_getElem? (i := 193) rfl)) rfl, inT (in_t1 (List.mem_of_getElem? (i := 17) rfl)) rfl, (RN_ok 12 (by decide)).1, by decide⟩, fun h => absurd h (by decide), fun _ => ⟨inT (in_t8 (List.mem_of_getElem? (i := 192) rfl)) rfl, inT (List.mem_append_left _ (List.mem_of_getElem? (i := 101) rfl)) rfl⟩, by decide, rfl, by decide +kernel, plainFor_of_name ((RN_ok 12 (by decide)).2 (by decide))⟩
theorem yk277 : YK 277 := ⟨⟨inT (in_t8 (List.mem_of_getElem? (i := 197) rfl)) rfl, inT (in_t1 (List.mem_of_getElem? (i := 17) rfl)) rfl, (RN_ok 12 (by decide)).1, by decide⟩, fun h => absurd h (by decide), fun _ => ⟨inT (in_t8 (List.mem_of_getElem? (i := 196) rfl)) rfl, inT (List.mem_append_left _ (List.mem_of_getElem? (i := 102) rfl)) rfl⟩, by decide, rfl, by decide +kernel, plainFor_of_name ((RN_ok 12 (by decide)).2 (by decide))⟩
theorem yk278 : YK 278 := ⟨⟨inT (in_t8 (List.mem_of_getElem? (i := 188) rfl)) rfl, inT (in_t1 (List.mem_of_getElem? (i := 17) rfl)) rfl, (RN_ok 12 (by decide)).1, by decide⟩, fun _ => inT (in_t8 (List.mem_of_getElem? (i := 187) rfl)) rfl, fun h => absurd h (by decide), by decide, rfl, by decide +kernel, plainFor_of_name ((RN_ok 12 (by decide)).2 (by decide))⟩
theorem yk279 : YK 279 := ⟨⟨inT (in_t8 (List.mem_of_getElem? (i := 185) rfl)) rfl, inT (in_t1 (List.mem_of_getElem? (i := 17) rfl)) rfl, (RN_ok 12 (by decide)).1, by decide⟩, fun h => absurd h (by decide), fun _ => ⟨inT (in_t8 (List.mem_of_getElem? (i := 183) rfl)) rfl, inT (in_t8 (List.mem_of_getElem? (i := 184) rfl)) rfl⟩, by decide, rfl, by decide +kernel, plainFor_of_name ((RN_ok 12 (by decide)).2 (by decide))⟩
theorem yk280 : YK 280 := ⟨⟨inT (in_t8 (List.mem_of_getElem? (i := 201) rfl)) rfl, inT (in_t1 (List.mem_of_getElem? (i := 17) rfl)) rfl, (RN_ok 12 (by decide)).1, by decide⟩, fun h => absurd h (by decide), fun _ => ⟨inT (in_t8 (List.mem_of_getElem? (i := 199) rfl)) rfl, inT (in_t8 (List.mem_of_getElem? (i := 200) rfl)) rfl⟩, by decide, rfl, by decide +kernel, plainFor_of_name ((RN_ok 12 (by decide)).2 (by decide))⟩
theorem yk281 : YK 281 := ⟨⟨inT (in_t8 (List.mem_of_getElem? (i := 209) rfl)) rfl, inT (in_t1 (List.mem_of_getElem? (i := 17) rfl)) rfl, (RN_ok 12 (by decide)).1, by decide⟩, fun h => absurd h (by decide), fun _ => ⟨inT (in_t8 (List.mem_of_getElem? (i := 208) rfl)) rfl, inT (List.mem_append_left _ (List.mem_of_getElem? (i := 103) rfl)) rfl⟩, by decide, rfl, by decide +kernel, plainFor_of_name ((RN_ok 12 (by decide)).2 (by decide))⟩
theorem yk282 : YK 282 := ⟨⟨inT (in_t8 (List.mem_of_getElem? (i := 205) rfl)) rfl, inT (in_t1 (List.mem_of_getElem? (i := 17) rfl)) rfl, (RN_ok 12 (by decide)).1, by decide⟩, fun h => absurd h (by decide), fun _ => ⟨inT (in_t8 (List.mem_of_getElem? (i := 203) rfl)) rfl, inT (in_t8 (List.mem_of_getElem? (i := 204) rfl)) rfl⟩, by decide, rfl, by decide +kernel, plainFor_of_name ((RN_ok 12 (by decide)).2 (by decide))⟩
theorem yk283 : YK 283 := ⟨⟨inT (in_t8 (List.mem_of_getElem? (i := 213) rfl)) rfl, inT (in_t1 (List.mem_of_getElem? (i := 17) rfl)) rfl, (RN_ok 12 (by decide)).1, by decide⟩, fun h => absurd h (by decide), fun _ => ⟨inT (in_t8 (List.mem_of_getElem? (i := 211) rfl)) rfl, inT (in_t8 (List.mem_of_getElem? (i := 212) rfl)) rfl⟩, by decide, rfl, by decide +kernel, plainFor_of_name ((RN_ok 12 (by decide)).2 (by decide))⟩
theorem yk284 : YK 284 := ⟨⟨inT (in_t8 (List.mem_of_getElem? (i := 217) rfl)) rfl, inT (in_t1 (List.mem_of_getElem? (i := 17) rfl)) rfl, (RN_ok 12 (by decide)).1, by decide⟩, fun h => absurd h (by decide), fun _ => ⟨inT (in_t8 (List.mem_of_getElem? (i := 215) rfl)) rfl, inT (in_t8 (List.mem_of_getElem? (i := 216) rfl)) rfl⟩, by decide, rfl, by decide +kernel, plainFor_of_name ((RN_ok 12 (by decide)).2 (by decide))⟩
theorem yk285 : YK 285 := ⟨⟨inT (in_t8 (List.mem_of_getElem? (i := 221) rfl)) rfl, inT (in_t1 (List.mem_of_getElem? (i := 17) rfl)) rfl, (RN_ok 12 (by decide)).1, by decide⟩, fun h => absurd h (by decide), fun _ => ⟨inT (in_t8 (List.mem_of_getElem? (i := 219) rfl)) rfl, inT (in_t8 (List.mem_of_getElem? (i := 220) rfl)) rfl⟩, by decide, rfl, by decide +kernel, plainFor_of_name ((RN_ok 12 (by decide)).2 (by decide))⟩
theorem yk286 : YK 286 := ⟨⟨inT (in_t8 (List.mem_of_getElem? (i := 239) rfl)) rfl, inT (in_t1 (List.mem_of_getElem? (i := 17) rfl)) rfl, (RN_ok 12 (by decide)).1, by decide⟩, fun h => absurd h (by decide), fun _ => ⟨inT (in_t8 (List.mem_of_getElem? (i := 238) rfl)) rfl, inT (List.mem_append_left _ (List.mem_of_getElem? (i := 105) rfl)) rfl⟩, by decide, rfl, by decide +kernel, plainFor_of_name ((RN_ok 12 (by decide)).2 (by decide))⟩
theorem yk287 : YK 287 := ⟨⟨inT (in_t8 (List.mem_of_getElem? (i := 234) rfl)) rfl, inT (in_t1 (List.mem_of_getElem? (i := 17) rfl)) rfl, (RN_ok 12 (by decide)).1, by decide⟩, fun _ => inT (in_t8 (List.mem_of_getElem? (i := 233) rfl)) rfl, fun h => absurd h (by decide), by decide, rfl, by decide +kernel, plainFor_of_name ((RN_ok 12 (by decide)).2 (by decide))⟩
theorem yk288 : YK 288 := ⟨⟨inT (in_t8 (List.mem_of_getElem? (i := 227) rfl)) rfl, inT (in_t1 (List.mem_of_getElem? (i := 17) rfl)) rfl, (RN_ok 12 (by decide)).1, by decide⟩, fun h => absurd h (by decide), fun _ => ⟨inT (in_t8 (List.mem_of_getElem? (i := 225) rfl)) rfl, inT (in_t8 (List.mem_of_getElem? (i := 226) rfl)) rfl⟩, by decide, rfl, by decide +kernel, plainFor_of_name ((RN_ok 12 (by decide)).2 (by decide))⟩
theorem yk289 : YK 289 := ⟨⟨inT (in_t9 (List.mem_of_getElem? (i := 7) rfl)) rfl, inT (in_t1 (List.mem_of_getElem? (i := 17) rfl)) rfl, (RN_ok 12 (by decide)).1, by decide⟩, fun h => absurd h (by decide), fun _ => ⟨inT (in_t9 (List.mem_of_getElem? (i := 6) rfl)) rfl, inT (List.mem_append_left _ (List.mem_of_getElem? (i := 106) rfl)) rfl⟩, by decide, rfl, by decide +kernel, plainFor_of_name ((RN_ok 12 (by decide)).2 (by decide))⟩
theorem yk290 : YK 290 := ⟨⟨inT (in_t9 (List.mem_of_getElem? (i := 3) rfl)) rfl, inT (in_t1 (List.mem_of_getElem? (i := 17) rfl)) rfl, (RN_ok 12 (by decide)).1, by decide⟩, fun h => absurd h (by decide), fun _ => ⟨inT (in_t9 (List.mem_of_getElem? (i := 1) rfl)) rfl, inT (in_t9 (List.mem_of_getElem? (i := 2) rfl)) rfl⟩, by decide, rfl, by decide +kernel, plainFor_of_name ((RN_ok 12 (by decide)).2 (by decide))⟩
theorem yk291 : YK 291 := ⟨⟨inT (in_t9 (List.mem_of_getElem? (i := 14) rfl)) rfl, inT (in_t1 (List.mem_of_getElem? (i := 17) rfl)) rfl, (RN_ok 12 (by decide)).1, by decide⟩, fun h => absurd h (by decide), fun _ => ⟨inT (in_t9 (List.mem_of_getElem? (i := 12) rfl)) rfl, inT (in_t9 (List.mem_of_getElem? (i := 13) rfl)) rfl⟩, by decide, rfl, by decide +kernel, plainFor_of_name ((RN_ok 12 (by decide)).2 (by decide))⟩
theorem yk292 : YK 292 := ⟨⟨inT (in_t9 (List.mem_of_getElem? (i := 26) rfl)) rfl, inT (in_t1 (List.mem_of_getElem? (i := 17) rfl)) rfl, (RN_ok 12 (by decide)).1, by decide⟩, fun _ => inT (in_t9 (List.mem_of_getElem? (i := 25) rfl)) rfl, fun h => absurd h (by decide), by decide, rfl, by decide +kernel, plainFor_of_name ((RN_ok 12 (by decide)).2 (by decide))⟩
theorem yk293 : YK 293 := ⟨⟨inT (in_t9 (List.mem_of_getElem? (i := 30) rfl)) rfl, inT (in_t1 (List.mem_of_getElem? (i := 17) rfl)) rfl, (RN_ok 12 (by decide)).1, by decide⟩, fun h => absurd h (by decide), fun _ => ⟨inT (in_t9 (List.mem_of_getElem? (i := 29) rfl)) rfl, inT (List.mem_append_left _ (List.mem_of_getElem? (i := 108) rfl)) rfl⟩, by decide, rfl, by decide +kernel, plainFor_of_name ((RN_ok 12 (by decide)).2 (by decide))⟩
theorem yk294 : YK 294 := ⟨⟨inT (in_t9 (List.mem_of_getElem? (i := 23) rfl)) rfl, inT (in_t1 (List.mem_of_getElem? (i := 17) rfl)) rfl, (RN_ok 12 (by decide)).1, by decide⟩, fun h => absurd h (by decide), fun _ => ⟨inT (in_t9 (List.mem_of_getElem? (i := 22) rfl)) rfl, inT (List.mem_append_left _ (List.mem_of_getElem? (i := 107) rfl)) rfl⟩, by decide, rfl, by decide +kernel, plainFor_of_name ((RN_ok 12 (by decide)).2 (by decide))⟩
theorem yk295 : YK 295 := ⟨⟨inT (in_t9 (List.mem_of_getElem? (i := 18) rfl)) rfl, inT (in_t1 (List.mem_of_getElem? (i := 17) rfl)) rfl, (RN_ok 12 (by decide)).1, by decide⟩, fun h => absurd h (by decide), fun _ => ⟨inT (in_t9 (List.mem_of_getElem? (i := 16) rfl)) rfl, inT (in_t9 (List.mem_of_getElem? (i := 17) rfl)) rfl⟩, by decide, rfl, by decide +kernel, plainFor_of_name ((RN_ok 12 (by decide)).2 (by decide))⟩
theorem yk296 : YK 296 := ⟨⟨inT (in_t9 (List.mem_of_getElem? (i := 34) rfl)) rfl, inT (in_t1 (List.mem_of_getElem? (i := 17) rfl)) rfl, (RN_ok 12 (by decide)).1, by decide⟩, fun h => absurd h (by decide), fun _ => ⟨inT (in_t9 (List.mem_of_getElem? (i := 32) rfl)) rfl, inT (in_t9 (List.mem_of_getElem? (i := 33) rfl)) rfl⟩, by decide, rfl, by decide +kernel, plainFor_of_name ((RN_ok 12 (by decide)).2 (by decide))⟩
theorem yk297 : YK 297 := ⟨⟨inT (in_t9 (List.mem_of_getElem? (i := 46) rfl)) rfl, inT (in_t1 (List.mem_of_getElem? (i := 17) rfl)) rfl, (RN_ok 12 (by decide)).1, by decide⟩, fun h => absurd h (by decide), fun _ => ⟨inT (in_t9 (List.mem_of_getElem? (i := 45) rfl)) rfl, inT (List.mem_append_left _ (List.mem_of_getElem? (i := 110) rfl)) rfl⟩, by decide, rfl, by decide +kernel, plainFor_of_name ((RN_ok 12 (by decide)).2 (by decide))⟩
theorem yk298 : YK 298 := ⟨⟨inT (in_t9 (List.mem_of_getElem? (i := 42) rfl)) rfl, inT (in_t1 (List.mem_of_getElem? (i := 17) rfl)) rfl, (RN_ok 12 (by decide)).1, by decide⟩, fun h => absurd h (by decide), fun _ => ⟨inT (in_t9 (List.mem_of_getElem? (i := 41) rfl)) rfl, inT (List.mem_append_left _ (List.mem_of_getElem? (i := 109) rfl)) rfl⟩, by decide, rfl, by decide +kernel, plainFor_of_name ((RN_ok 12 (by decide)).2 (by decide))⟩
theorem yk299 : YK 299 := ⟨⟨inT (in_t9 (List.mem_of_getElem? (i := 38) rfl)) rfl, inT (in_t1 (List.mem_of_getElem? (i := 17) rfl)) rfl, (RN_ok 12 (by decide)).1, by decide⟩, fun h => absurd h (by decide), fun _ => ⟨inT (in_t9 (List.mem_of_getElem? (i := 36) rfl)) rfl, inT (in_t9 (List.mem_of_getElem? (i := 37) rfl)) rfl⟩, by decide, rfl, by decide +kernel, plainFor_of_name ((RN_ok 12 (by decide)).2 (by decide))⟩
theorem yk300 : YK 300 := ⟨⟨inT (in_t9 (List.mem_of_getElem? (i := 50) rfl)) rfl, inT (in_t1 (List.mem_of_getElem? (i := 17) rfl)) rfl, (RN_ok 12 (by decide)).1, by decide⟩, fun h => absurd h (by decide), fun _ => ⟨inT (in_t9 (List.mem_of_getElem? (i := 48) rfl)) rfl, inT (in_t9 (List.mem_of_getElem? (i := 49) rfl)) rfl⟩, by decide, rfl, by decide +kernel, plainFor_of_name ((RN_ok 12 (by decide)).2 (by decide))⟩
theorem yk301 : YK 301 := ⟨⟨inT (in_t9 (List.mem_of_getElem? (i := 62) rfl)) rfl, inT (in_t1 (List.mem_of_getElem? (i := 17) rfl)) rfl, (RN_ok 12 (by decide)).1, by decide⟩, fun h => absurd h (by decide), fun _ => ⟨inT (in_t9 (List.mem_of_getElem? (i := 61) rfl)) rfl, inT (List.mem_append_left _ (List.mem_of_getElem? (i := 112) rfl)) rfl⟩, by decide, rfl, by decide +kernel, plainFor_of_name ((RN_ok 12 (by decide)).2 (by decide))⟩
theorem yk302 : YK 302 := ⟨⟨inT (in_t9 (List.mem_of_getElem? (i := 66) rfl)) rfl, inT (in_t1 (List.mem_of_getElem? (i := 17) rfl)) rfl, (RN_ok 12 (by decide)).1, by decide⟩, fun h => absurd h (by decide), fun _ => ⟨inT (in_t9 (List.mem_of_getElem? (i := 65) rfl)) rfl, inT (List.mem_append_left _ (List.mem_of_getElem? (i := 113) rfl)) rfl⟩, by decide, rfl, by decide +kernel, plainFor_of_name ((RN_ok 12 (by decide)).2 (by decide))⟩
theorem yk303 : YK 303 := ⟨⟨inT (in_t9 (List.mem_of_getElem? (i := 58) rfl)) rfl, inT (in_t1 (List.mem_of_getElem? (i := 17) rfl)) rfl, (RN_ok 12 (by decide)).1, by decide⟩, fun h => absurd h (by decide), fun _ => ⟨inT (in_t9 (List.mem_of_getElem? (i := 57) rfl)) rfl, inT (List.mem_append_left _ (List.mem_of_getElem? (i := 111) rfl)) rfl⟩, by decide, rfl, by decide +kernel, plainFor_of_name ((RN_ok 12 (by decide)).2 (by decide))⟩
theorem yk304 : YK 304 := ⟨⟨inT (in_t9 (List.mem_of_getElem? (i := 54) rfl)) rfl, inT (in_t1 (List.mem_of_getElem? (i := 17) rfl)) rfl, (RN_ok 12 (by decide)).1, by decide⟩, fun h => absurd h (by decide), fun _ => ⟨inT (in_t9 (List.mem_of_getElem? (i := 52) rfl)) rfl, inT (in_t9 (List.mem_of_getElem? (i := 53) rfl)) rfl⟩, by decide, rfl, by decide +kernel, plainFor_of_name ((RN_ok 12 (by decide)).2 (by decide))⟩
theorem yk305 : YK 305 := ⟨⟨inT (in_t9 (List.mem_of_getElem? (i := 70) rfl)) rfl, inT (in_t1 (List.mem_of_getElem? (i := 17) rfl)) rfl, (RN_ok 12 (by decide)).1, by decide⟩, fun h => absurd h (by decide), fun _ => ⟨inT (in_t9 (List.mem_of_getElem? (i := 68) rfl)) rfl, inT (in_t9 (List.mem_of_getElem? (i := 69) rfl)) rfl⟩, by decide, rfl, by decide +kernel, plainFor_of_name ((RN_ok 12 (by decide)).2 (by decide))⟩
theorem yk306 : YK 306 := ⟨⟨inT (in_t9 (List.mem_of_getElem? (i := 74) rfl)) rfl, inT (in_t1 (List.mem_of_getElem? (i := 17) rfl)) rfl, (RN_ok 12 (by decide)).1, by decide⟩, fun h => absurd h (by decide), fun _ => ⟨inT (in_t9 (List.mem_of_getElem? (i := 72) rfl)) rfl, inT (in_t9 (List.mem_of_getElem? (i := 73) rfl)) rfl⟩, by decide, rfl, by decide +kernel, plainFor_of_name ((RN_ok 12 (by decide)).2 (by decide))⟩
theorem yk307 : YK 307 := ⟨⟨inT (in_t9 (List.mem_of_getElem? (i := 78) rfl)) rfl, inT (in_t1 (List.mem_of_getElem? (i := 17) rfl)) rfl, (RN_ok 12 (by decide)).1, by decide⟩, fun h => absurd h (by decide), fun _ => ⟨inT (in_t9 (List.mem_of_getElem? (i := 76) rfl)) rfl, inT (in_t9 (List.mem_of_getElem? (i := 77) rfl)) rfl⟩, by decide, rfl, by decide +kernel, plainFor_of_name ((RN_ok 12 (by decide)).2 (by decide))⟩
theorem yk308 : YK 308 := ⟨⟨inT (in_t9 (List.mem_of_getElem? (i := 82) rfl)) rfl, inT (in_t1 (List.mem_of_getElem? (i := 17) rfl)) rfl, (RN_ok 12 (by decide)).1, by decide⟩, fun h => absurd h (by decide), fun _ => ⟨inT (in_t9 (List.mem_of_getElem? (i := 80) rfl)) rfl, inT (in_t9 (List.mem_of_getElem? (i := 81) rfl)) rfl⟩, by decide, rfl, by decide +kernel, plainFor_of_name ((RN_ok 12 (by decide)).2 (by decide))⟩
theorem yk309 : YK 309 := ⟨⟨inT (in_t9 (List.mem_of_getElem? (i := 90) rfl)) rfl, inT (in_t1 (List.mem_of_getElem? (i := 17) rfl)) rfl, (RN_ok 12 (by decide)).1, by decide⟩, fun h => absurd h (by decide), fun _ => ⟨inT (in_t9 (List.mem_of_getElem? (i := 89) rfl)) rfl, inT (List.mem_append_left _ (List.mem_of_getElem? (i := 114) rfl)) rfl⟩, by decide, rfl, by decide +kernel, plainFor_of_name ((RN_ok 12 (by decide)).2 (by decide))⟩
theorem yk310 : YK 310 := ⟨⟨inT (in_t9 (List.mem_of_getElem? (i := 99) rfl)) rfl, inT (in_t1 (List.mem_of_getElem? (i := 17) rfl)) rfl, (RN_ok 12 (by decide)).1, by decide⟩, fun h => absurd h (by decide), fun _ => ⟨inT (in_t9 (List.mem_of_getElem? (i := 98) rfl)) rfl, inT (List.mem_append_left _ (List.mem_of_getElem? (i := 116) rfl)) rfl⟩, by decide, rfl, by decide +kernel, plainFor_of_name ((RN_ok 12 (by decide)).2 (by decide))⟩
theorem yk311 : YK 311 := ⟨⟨inT (in_t9 (List.mem_of_getElem? (i := 95) rfl)) rfl, inT (in_t1 (List.mem_of_getElem? (i := 17) rfl)) rfl, (RN_ok 12 (by decide)).1, by decide⟩, fun h => absurd h (by decide), fun _ => ⟨inT (in_t9 (List.mem_of_getElem? (i := 94) rfl)) rfl, inT (List.mem_append_left _ (List.mem_of_getElem? (i := 115) rfl)) rfl⟩, by decide, rfl, by decide +kernel, plainFor_of_name ((RN_ok 12 (by decide)).2 (by decide))⟩
theorem yk312 : YK 312 := ⟨⟨inT (in_t9 (List.mem_of_getElem? (i := 86) rfl)) rfl, inT (in_t1 (List.mem_of_getElem? (i := 17) rfl)) rfl, (RN_ok 12 (by decide)).1, by decide⟩, fun h => absurd h (by decide), fun _ => ⟨inT (in_t9 (List.mem_of_getElem? (i := 84) rfl)) rfl, inT (in_t9 (List.mem_of_getElem? (i := 85) rfl)) rfl⟩, by decide, rfl, by decide +kernel, plainFor_of_name ((RN_ok 12 (by decide)).2 (by decide))⟩
theorem yk313 : YK 313 := ⟨⟨inT (in_t9 (List.mem_of_getElem? (i := 103) rfl)) rfl, inT (in_t1 (List.mem_of_getElem? (i := 17) rfl)) rfl, (RN_ok 12 (by decide)).1, by decide⟩, fun h => absurd h (by decide), fun _ => ⟨inT (in_t9 (List.mem_of_getElem? (i := 101) rfl)) rfl, inT (in_t9 (List.mem_of_getElem? (i := 102) rfl)) rfl⟩, by decide, rfl, by decide +kernel, plainFor_of_name ((RN_ok 12 (by decide)).2 (by decide))⟩
theorem yk314 : YK 314 := ⟨⟨inT (in_t9 (List.mem_of_getElem? (i := 111) rfl)) rfl, inT (in_t1 (List.mem_of_getElem? (i := 17) rfl)) rfl, (RN_ok 12 (by decide)).1, by decide⟩, fun h => absurd h (by decide), fun _ => ⟨inT (in_t9 (List.mem_of_getElem? (i := 110) rfl)) rfl, inT (List.mem_append_left _ (List.mem_of_getElem? (i := 117) rfl)) rfl⟩, by decide, rfl, by decide +kernel, plainFor_of_name ((RN_ok 12 (by decide)).2 (by decide))⟩
theorem yk315 : YK 315 := ⟨⟨inT (in_t9 (List.mem_of_getElem? (i := 107) rfl)) rfl, inT (in_t1 (List.mem_of_getElem? (i := 17) rfl)) rfl, (RN_ok 12 (by decide)).1, by decide⟩, fun h => absurd h (by decide), fun _ => ⟨inT (in_t9 (List.mem_of_getElem? (i := 105) rfl)) rfl, inT (in_t9 (List.mem_of_getElem? (i := 106) rfl)) rfl⟩, by decide, rfl, by decide +kernel, plainFor_of_name ((RN_ok 12 (by decide)).2 (by decide))⟩
theorem yk316 : YK 316 := ⟨⟨inT (in_t9 (List.mem_of_getElem? (i := 115) rfl)) rfl, inT (in_t1 (List.mem_of_getElem? (i := 17) rfl)) rfl, (RN_ok 12 (by decide)).1, by decide⟩, fun h => absurd h (by decide), fun _ => ⟨inT (in_t9 (List.mem_of_getElem? (i := 113) rfl)) rfl, inT (in_t9 (List.mem_of_getElem? (i := 114) rfl)) rfl⟩, by decide, rfl, by decide +kernel, plainFor_of_name ((RN_ok 12 (by decide)).2 (by decide))⟩
theorem yk317 : YK 317 := ⟨⟨inT (in_t9 (List.mem_of_getElem? (i := 119) rfl)) rfl, inT (in_t1 (List.mem_of_getElem? (i := 17) rfl)) rfl, (RN_ok 12 (by decide)).1, by decide⟩, fun h => absurd h (by decide), fun _ => ⟨inT (in_t9 (List.mem_of_getElem? (i := 117) rfl)) rfl, inT (in_t9 (List.mem_of_getElem? (i := 118) rfl)) rfl⟩, by decide, rfl, by decide +kernel, plainFor_of_name ((RN_ok 12 (by decide)).2 (by decide))⟩
theorem yk318 : YK 318 := ⟨⟨inT (in_t9 (List.mem_of_getElem? (i := 128) rfl)) rfl, inT (in_t1 (List.mem_of_getElem? (i := 17) rfl)) rfl, (RN_ok 12 (by decide)).1, by decide⟩, fun h => absurd h (by decide), fun _ => ⟨inT (in_t9 (List.mem_of_getElem? (i := 126) rfl)) rfl, inT (in_t9 (List.mem_of_getElem? (i := 127) rfl)) rfl⟩, by decide, rfl, by decide +kernel, plainFor_of_name ((RN_ok 12 (by decide)).2 (by decide))⟩
theorem yk319 : YK 319 := ⟨⟨inT (in_t9 (List.mem_of_getElem? (i := 153) rfl)) rfl, inT (in_t1 (List.mem_of_getElem? (i := 17) rfl)) rfl, (RN_ok 12 (by decide)).1, by decide⟩, fun h => absurd h (by decide), fun _ => ⟨inT (in_t9 (List.mem_of_getElem? (i := 152) rfl)) rfl, inT (List.mem_append_left _ (List.mem_of_getElem? (i := 123) rfl)) rfl⟩, by decide, rfl, by decide +kernel, plainFor_of_name ((RN_ok 12 (by decide)).2 (by decide))⟩
theorem yk320 : YK 320 := ⟨⟨inT (in_t9 (List.mem_of_getElem? (i := 145) rfl)) rfl, inT (in_t1 (List.mem_of_getElem? (i := 17) rfl)) rfl, (RN_ok 12 (by decide)).1, by decide⟩, fun h => absurd h (by decide), fun _ => ⟨inT (in_t9 (List.mem_of_getElem? (i := 144) rfl)) rfl, inT (List.mem_append_left _ (List.mem_of_getElem? (i := 121) rfl)) rfl⟩, by decide, rfl, by decide +kernel, plainFor_of_name ((RN_ok 12 (by decide)).2 (by decide))⟩
theorem yk321 : YK 321 := ⟨⟨inT (in_t9 (List.mem_of_getElem? (i := 149) rfl)) rfl, inT (in_t1 (List.mem_of_getElem? (i := 17) rfl)) rfl, (RN_ok 12 (by decide)).1, by decide⟩, fun h => absurd h (by decide), fun _ => ⟨inT (in_t9 (List.mem_of_getElem? (i := 148) rfl)) rfl, inT (List.mem_append_left _ (List.mem_of_getElem? (i := 122) rfl)) rfl⟩, by decide, rfl, by decide +kernel, plainFor_of_name ((RN_ok 12 (by decide)).2 (by decide))⟩
theorem yk322 : YK 322 := ⟨⟨inT (in_t9 (List.mem_of_getElem? (i := 141) rfl)) rfl, inT (in_t1 (List.mem_of_getElem? (i := 17) rfl)) rfl, (RN_ok 12 (by decide)).1, by decide⟩, fun h => absurd h (by decide), fun _ => ⟨inT (in_t9 (List.mem_of_getElem? (i := 140) rfl)) rfl, inT (List.mem_append_left _ (List.mem_of_getElem? (i := 120) rfl)) rfl⟩, by decide, rfl, by decide +kernel, plainFor_of_name ((RN_ok 12 (by decide)).2 (by decide))⟩
theorem yk323 : YK 323 := ⟨⟨inT (in_t9 (List.mem_of_getElem? (i := 158) rfl)) rfl, inT (in_t1 (List.mem_of_getElem? (i := 17) rfl)) rfl, (RN_ok 12 (by decide)).1, by decide⟩, fun h => absurd h (by decide), fun _ => ⟨inT (in_t9 (List.mem_of_getElem? (i := 157) rfl)) rfl, inT (List.mem_append_left _ (List.mem_of_getElem? (i := 124) rfl)) rfl⟩, by decide, rfl, by decide +kernel, plainFor_of_name ((RN_ok 12 (by decide)).2 (by decide))⟩
theorem yk324 : YK 324 := ⟨⟨inT (in_t9 (List.mem_of_getElem? (i := 162) rfl)) rfl, inT (in_t1 (List.mem_of_getElem? (i := 17) rfl)) rfl, (RN_ok 12 (by decide)).1, by decide⟩, fun h => absurd h (by decide), fun _ => ⟨inT (in_t9 (List.mem_of_getElem? (i := 161) rfl)) rfl, inT (List.mem_append_left _ (List.mem_of_getElem? (i := 125) rfl)) rfl⟩, by decide, rfl, by decide +kernel, plainFor_of_name ((RN_ok 12 (by decide)).2 (by decide))⟩
theorem yk325 : YK 325 := ⟨⟨inT (in_t9 (List.mem_of_getElem? (i := 137) rfl)) rfl, inT (in_t1 (List.mem_of_getElem? (i := 17) rfl)) rfl, (RN_ok 12 (by decide)).1, by decide⟩, fun h => absurd h (by decide), fun _ => ⟨inT (in_t9 (List.mem_of_getElem? (i := 136) rfl)) rfl, inT (List.mem_append_left _ (List.mem_of_getElem? (i := 119) rfl)) rfl⟩, by decide, rfl, by decide +kernel, plainFor_of_name ((RN_ok 12 (by decide)).2 (by decide))⟩
theorem yk326 : YK 326 := ⟨⟨inT (in_t9 (List.mem_of_getElem? (i := 132) rfl)) rfl, inT (in_t1 (List.mem_of_getElem? (i := 17) rfl)) rfl, (RN_ok 12 (by decide)).1, by decide⟩, fun h => absurd h (by decide), fun _ => ⟨inT (in_t9 (List.mem_of_getElem? (i := 130) rfl)) rfl, inT (in_t9 (List.mem_of_getElem? (i := 131) rfl)) rfl⟩, by decide, rfl, by decide +kernel, plainFor_of_name ((RN_ok 12 (by decide)).2 (by decide))⟩
theorem yk327 : YK 327 := ⟨⟨inT (in_t9 (List.mem_of_getElem? (i := 166) rfl)) rfl, inT (in_t1 (List.mem_of_getElem? (i := 17) rfl)) rfl, (RN_ok 12 (by decide)).1, by decide⟩, fun h => absurd h (by decide), fun _ => ⟨inT (in_t9 (List.mem_of_getElem? (i := 164) rfl)) rfl, inT (in_t9 (List.mem_of_getElem? (i := 165) rfl)) rfl⟩, by decide, rfl, by decide +kernel, plainFor_of_name ((RN_ok 12 (by decide)).2 (by decide))⟩
theorem yk328 : YK 328 := ⟨⟨inT (in_t9 (List.mem_of_getElem? (i := 170) rfl)) rfl, inT (in_t1 (List.mem_of_getElem? (i := 17) rfl)) rfl, (RN_ok 12 (by decide)).1, by decide⟩, fun h => absurd h (by decide), fun _ => ⟨inT (in_t9 (List.mem_of_getElem? (i := 168) rfl)) rfl, inT (in_t9 (List.mem_of_getElem? (i := 169) rfl)) rfl⟩, by decide, rfl, by decide +kernel, plainFor_of_name ((RN_ok 12 (by decide)).2 (by decide))⟩
theorem yk329 : YK 329 := ⟨⟨inT (in_t9 (List.mem_of_getElem? (i := 178) rfl)) rfl, inT (in_t1 (List.mem_of_getElem? (i := 17) rfl)) rfl, (RN_ok 12 (by decide)).1, by decide⟩, fun h => absurd h (by decide), fun _ => ⟨inT (in_t9 (List.mem_of_getElem? (i := 177) rfl)) rfl, inT (List.mem_append_left _ (List.mem_of_getElem? (i := 126) rfl)) rfl⟩, by decide, rfl, by decide +kernel, plainFor_of_name ((RN_ok 12 (by decide)).2 (by decide))⟩
theorem yk330 : YK 330 := ⟨⟨inT (in_t9 (List.mem_of_getElem? (i := 174) rfl)) rfl, inT (in_t1 (List.mem_of_getElem? (i := 17) rfl)) rfl, (RN_ok 12 (by decide)).1, by decide⟩, fun h => absurd h (by decide), fun _ => ⟨inT (in_t9 (List.mem_of_getElem? (i := 172) rfl)) rfl, inT (in_t9 (List.mem_of_getElem? (i := 173) rfl)) rfl⟩, by decide, rfl, by decide +kernel, plainFor_of_name ((RN_ok 12 (by decide)).2 (by decide))⟩
theorem yk331 : YK 331 := ⟨⟨inT (in_t9 (List.mem_of_getElem? (i := 182) rfl)) rfl, inT (in_t1 (List.mem_of_getElem? (i := 17) rfl)) rfl, (RN_ok 12 (by decide)).1, by decide⟩, fun h => absurd h (by decide), fun _ => ⟨inT (in_t9 (List.mem_of_getElem? (i := 180) rfl)) rfl, inT (in_t9 (List.mem_of_getElem? (i := 181) rfl)) rfl⟩, by decide, rfl, by decide +kernel, plainFor_of_name ((RN_ok 12 (by decide)).2 (by decide))⟩
theorem yk332 : YK 332 := ⟨⟨inT (in_t5 (List.mem_of_getElem? (i := 157) rfl)) rfl, inT (in_t1 (List.mem_of_getElem? (i := 21) rfl)) rfl, (RN_ok 13 (by decide)).1, by decide⟩, fun _ => inT (in_t5 (List.mem_of_getElem? (i := 156) rfl)) rfl, fun h => absurd h (by decide), by decide, rfl, by decide +kernel, plainFor_of_name ((RN_ok 13 (by decide)).2 (by decide))⟩
theorem yk333 : YK 333 := ⟨⟨inT (in_t5 (List.mem_of_getElem? (i := 120) rfl)) rfl, inT (in_t1 (List.mem_of_getElem? (i := 20) rfl)) rfl, (RN_ok 14 (by decide)).1, by decide⟩, fun _ => inT (in_t5 (List.mem_of_getElem? (i := 119) rfl)) rfl, fun h => absurd h (by decide), by decide, rfl, by decide +kernel, mathPlain rfl (by decide)⟩
theorem yk334 : YK 334 := ⟨⟨inT (in_t5 (List.mem_of_getElem? (i := 134) rfl)) rfl, inT (in_t1 (List.mem_of_getElem? (i := 20) rfl)) rfl, (RN_ok 14 (by decide)).1, by decide⟩, fun _ => inT (in_t5 (List.mem_of_getElem? (i := 133) rfl)) rfl, fun h => absurd h (by decide), by decide, rfl, by decide +kernel, mathPlain rfl (by decide)⟩
theorem yk335 : YK 335 := ⟨⟨inT (in_t5 (List.mem_of_getElem? (i := 131) rfl)) rfl, inT (in_t1 (List.mem_of_getElem? (i := 20) rfl)) rfl, (RN_ok 14 (by decide)).1, by decide⟩, fun _ => inT (in_t5 (List.mem_of_getElem? (i := 130) rfl)) rfl, fun h => absurd h (by decide), by decide, rfl, by decide +kernel, mathPlain rfl (by decide)⟩
theorem yk336 : YK 336 := ⟨⟨inT (in_t3 (List.mem_of_getElem? (i := 116) rfl)) rfl, inT (in_t1 (List.mem_of_getElem? (i := 18) rfl)) rfl, (RN_ok 15 (by decide)).1, by decide⟩, fun _ => inT (in_t3 (List.mem_of_getElem? (i := 115) rfl)) rfl, fun h => absurd h (by decide), by decide, rfl, by decide +kernel, plainFor_of_name ((RN_ok 15 (by decide)).2 (by decide))⟩
theorem YK_ok : ∀ y, 1 ≤ y → y ≤ 336 → YK y := by
  intro y h1 h2
  by_cases h1_336 : y ≤ 168
  · by_cases h1_168 : y ≤ 84
    · by_cases h1_84 : y ≤ 42
      · by_cases h1_42 : y ≤ 21
        · by_cases h1_21 : y ≤ 11
          · by_cases h1_11 : y ≤ 6
            · by_cases h1_6 : y ≤ 3
              · by_cases h1_3 : y ≤ 2
                · by_cases h1_2 : y ≤ 1
                  · have e : y = 1 := by omega
                    subst e
                    exact yk1
                  · have e : y = 2 := by omega
                    subst e
                    exact yk2
                · have e : y = 3 := by omega
                  subst e
                  exact yk3
              · by_cases h4_6 : y ≤ 5
                · by_cases h4_5 : y ≤ 4
                  · have e : y = 4 := by omega
                    subst e
                    exact yk4
                  · have e : y = 5 := by omega
                    subst e
                    exact yk5
                · have e : y = 6 := by omega
                  subst e
                  exact yk6
            · by_cases h7_11 : y ≤ 9
              · by_cases h7_9 : y ≤ 8
                · by_cases h7_8 : y ≤ 7
                  · have e : y = 7 := by omega
                    subst e
                    exact yk7
                  · have e : y = 8 := by omega
                    subst e
                    exact yk8
                · have e : y = 9 := by omega
                  subst e
                  exact yk9
              · by_cases h10_11 : y ≤ 10
                · have e : y = 10 := by omega
                  subst e
                  exact yk10
                · have e : y = 11 := by omega
                  subst e
                  exact yk11
          · by_cases h12_21 : y ≤ 16
            · by_cases h12_16 : y ≤ 14
              · by_cases h12_14 : y ≤ 13
                · by_cases h12_13 : y ≤ 12
                  · have e : y = 12 := by omega
                    subst e
                    exact yk12
                  · have e : y = 13 := by omega
                    subst e
                    exact yk13
                · have e : y = 14 := by omega
                  subst e
                  exact yk14
              · by_cases h15_16 : y ≤ 15
                · have e : y = 15 := by omega
                  subst e
                  exact yk15
                · have e : y = 16 := by omega
                  subst e
                  exact yk16
            · by_cases h17_21 : y ≤ 19
              · by_cases h17_19 : y ≤ 18
                · by_cases h17_18 : y ≤ 17
                  · have e : y = 17 := by omega
                    subst e
                    exact yk17
                  · have e : y = 18 := by omega
                    subst e
                    exact yk18
                · have e : y = 19 := by omega
                  subst e
                  exact yk19
              · by_cases h20_21 : y ≤ 20
                · have e : y = 20 := by omega
                  subst e
                  exact yk20
                · have e : y = 21 := by omega
                  subst e
                  exact yk21
        · by_cases h22_42 : y ≤ 32
          · by_cases h22_32 : y ≤ 27
            · by_cases h22_27 : y ≤ 24
              · by_cases h22_24 : y ≤ 23
                · by_cases h22_23 : y ≤ 22
                  · have e : y = 22 := by omega
                    subst e
                    exact yk22
                  · have e : y = 23 := by omega
                    subst e
                    exact yk23
                · have e : y = 24 := by omega
                  subst e
                  exact yk24
              · by_cases h25_27 : y ≤ 26
                · by_cases h25_26 : y ≤ 25
                  · have e : y = 25 := by omega
                    subst e
                    exact yk25
                  · have e : y = 26 := by omega
                    subst e
                    exact yk26
                · have e : y = 27 := by omega
                  subst e
                  exact yk27
            · by_cases h28_32 : y ≤ 30
              · by_cases h28_30 : y ≤ 29
                · by_cases h28_29 : y ≤ 28
                  · have e : y = 28 := by omega
                    subst e
                    exact yk28
                  · have e : y = 29 := by omega
                    subst e
                    exact yk29
                · have e : y = 30 := by omega
                  subst e
                  exact yk30
              · by_cases h31_32 : y ≤ 31
                · have e : y = 31 := by omega
                  subst e
                  exact yk31
                · have e : y = 32 := by omega
                  subst e
                  exact yk32
          · by_cases h33_42 : y ≤ 37
            · by_cases h33_37 : y ≤ 35
              · by_cases h33_35 : y ≤ 34
                · by_cases h33_34 : y ≤ 33
                  · have e : y = 33 := by omega
                    subst e
                    exact yk33
                  · have e : y = 34 := by omega
                    subst e
                    exact yk34
                · have e : y = 35 := by omega
                  subst e
                  exact yk35
              · by_cases h36_37 : y ≤ 36
                · have e : y = 36 := by omega
                  subst e
                  exact yk36
                · have e : y = 37 := by omega
                  subst e
                  exact yk37
            · by_cases h38_42 : y ≤ 40
              · by_cases h38_40 : y ≤ 39
                · by_cases h38_39 : y ≤ 38
                  · have e : y = 38 := by omega
                    subst e
                    exact yk38
                  · have e : y = 39 := by omega
                    subst e
                    exact yk39
                · have e : y = 40 := by omega
                  subst e
                  exact yk40
              · by_cases h41_42 : y ≤ 41
                · have e : y = 41 := by omega
                  subst e
                  exact yk41
                · have e : y = 42 := by omega
                  subst e
                  exact yk42
      · by_cases h43_84 : y ≤ 63
        · by_cases h43_63 : y ≤ 53
          · by_cases h43_53 : y ≤ 48
            · by_cases h43_48 : y ≤ 45
              · by_cases h43_45 : y ≤ 44
                · by_cases h43_44 : y ≤ 43
                  · have e : y = 43 := by omega
                    subst e
                    exact yk43
                  · have e : y = 44 := by omega
                    subst e
                    exact yk44
                · have e : y = 45 := by omega
                  subst e
                  exact yk45
              · by_cases h46_48 : y ≤ 47
                · by_cases h46_47 : y ≤ 46
                  · have e : y = 46 := by omega
                    subst e
                    exact yk46
                  · have e : y = 47 := by omega
                    subst e
                    exact yk47
                · have e : y = 48 := by omega
                  subst e
                  exact yk48
            · by_cases h49_53 : y ≤ 51
              · by_cases h49_51 : y ≤ 50
                · by_cases h49_50 : y ≤ 49
                  · have e : y = 49 := by omega
                    subst e
                    exact yk49
                  · have e : y = 50 := by omega
                    subst e
                    exact yk50
                · have e : y = 51 := by omega
                  subst e
                  exact yk51
              · by_cases h52_53 : y ≤ 52
                · have e : y = 52 := by omega
                  subst e
                  exact yk52
                · have e : y = 53 := by omega
                  subst e
                  exact yk53
          · by_cases h54_63 : y ≤ 58
            · by_cases h54_58 : y ≤ 56
              · by_cases h54_56 : y ≤ 55
                · by_cases h54_55 : y ≤ 54
                  · have e : y = 54 := by omega
                    subst e
                    exact yk54
                  · have e : y = 55 := by omega
                    subst e
                    exact yk55
                · have e : y = 56 := by omega
                  subst e
                  exact yk56
              · by_cases h57_58 : y ≤ 57
                · have e : y = 57 := by omega
                  subst e
                  exact yk57
                · have e : y = 58 := by omega
                  subst e
                  exact yk58
            · by_cases h59_63 : y ≤ 61
              · by_cases h59_61 : y ≤ 60
                · by_cases h59_60 : y ≤ 59
                  · have e : y = 59 := by omega
                    subst e
                    exact yk59
                  · have e : y = 60 := by omega
                    subst e
                    exact yk60
                · have e : y = 61 := by omega
                  subst e
                  exact yk61
              · by_cases h62_63 : y ≤ 62
                · have e : y = 62 := by omega
                  subst e
                  exact yk62
                · have e : y = 63 := by omega
                  subst e
                  exact yk63
        · by_cases h64_84 : y ≤ 74
          · by_cases h64_74 : y ≤ 69
            · by_cases h64_69 : y ≤ 66
              · by_cases h64_66 : y ≤ 65
                · by_cases h64_65 : y ≤ 64
                  · have e : y = 64 := by omega
                    subst e
                    exact yk64
                  · have e : y = 65 := by omega
                    subst e
                    exact yk65
                · have e : y = 66 := by omega
                  subst e
                  exact yk66
              · by_cases h67_69 : y ≤ 68
                · by_cases h67_68 : y ≤ 67
                  · have e : y = 67 := by omega
                    subst e
                    exact yk67
                  · have e : y = 68 := by omega
                    subst e
                    exact yk68
                · have e : y = 69 := by omega
                  subst e
                  exact yk69
            · by_cases h70_74 : y ≤ 72
              · by_cases h70_72 : y ≤ 71
                · by_cases h70_71 : y ≤ 70
                  · have e : y = 70 := by omega
                    subst e
                    exact yk70
                  · have e : y = 71 := by omega
                    subst e
                    exact yk71
                · have e : y = 72 := by omega
                  subst e
                  exact yk72
              · by_cases h73_74 : y ≤ 73
                · have e : y = 73 := by omega
                  subst e
                  exact yk73
                · have e : y = 74 := by omega
                  subst e
                  exact yk74
          · by_cases h75_84 : y ≤ 79
            · by_cases h75_79 : y ≤ 77
              · by_cases h75_77 : y ≤ 76
                · by_cases h75_76 : y ≤ 75
                  · have e : y = 75 := by omega
                    subst e
                    exact yk75
                  · have e : y = 76 := by omega
                    subst e
                    exact yk76
                · have e : y = 77 := by omega
                  subst e
                  exact yk77
              · by_cases h78_79 : y ≤ 78
                · have e : y = 78 := by omega
                  subst e
                  exact yk78
                · have e : y = 79 := by omega
                  subst e
                  exact yk79
            · by_cases h80_84 : y ≤ 82
              · by_cases h80_82 : y ≤ 81
                · by_cases h80_81 : y ≤ 80
                  · have e : y = 80 := by omega
                    subst e
                    exact yk80
                  · have e : y = 81 := by omega
                    subst e
                    exact yk81
                · have e : y = 82 := by omega
                  subst e
                  exact yk82
              · by_cases h83_84 : y ≤ 83
                · have e : y = 83 := by omega
                  subst e
                  exact yk83
                · have e : y = 84 := by omega
                  subst e
                  exact yk84
    · by_cases h85_168 : y ≤ 126
      · by_cases h85_126 : y ≤ 105
        · by_cases h85_105 : y ≤ 95
          · by_cases h85_95 : y ≤ 90
            · by_cases h85_90 : y ≤ 87
              · by_cases h85_87 : y ≤ 86
                · by_cases h85_86 : y ≤ 85
                  · have e : y = 85 := by omega
                    subst e
                    exact yk85
                  · have e : y = 86 := by omega
                    subst e
                    exact yk86
                · have e : y = 87 := by omega
                  subst e
                  exact yk87
              · by_cases h88_90 : y ≤ 89
                · by_cases h88_89 : y ≤ 88
                  · have e : y = 88 := by omega
                    subst e
                    exact yk88
                  · have e : y = 89 := by omega
                    subst e
                    exact yk89
                · have e : y = 90 := by omega
                  subst e
                  exact yk90
            · by_cases h91_95 : y ≤ 93
              · by_cases h91_93 : y ≤ 92
                · by_cases h91_92 : y ≤ 91
                  · have e : y = 91 := by omega
                    subst e
                    exact yk91
                  · have e : y = 92 := by omega
                    subst e
                    exact yk92
                · have e : y = 93 := by omega
                  subst e
                  exact yk93
              · by_cases h94_95 : y ≤ 94
                · have e : y = 94 := by omega
                  subst e
                  exact yk94
                · have e : y = 95 := by omega
                  subst e
                  exact yk95
          · by_cases h96_105 : y ≤ 100
            · by_cases h96_100 : y ≤ 98
              · by_cases h96_98 : y ≤ 97
                · by_cases h96_97 : y ≤ 96
                  · have e : y = 96 := by omega
                    subst e
                    exact yk96
                  · have e : y = 97 := by omega
                    subst e
                    exact yk97
                · have e : y = 98 := by omega
                  subst e
                  exact yk98
              · by_cases h99_100 : y ≤ 99
                · have e : y = 99 := by omega
                  subst e
                  exact yk99
                · have e : y = 100 := by omega
                  subst e
                  exact yk100
            · by_cases h101_105 : y ≤ 103
              · by_cases h101_103 : y ≤ 102
                · by_cases h101_102 : y ≤ 101
                  · have e : y = 101 := by omega
                    subst e
                    exact yk101
                  · have e : y = 102 := by omega
                    subst e
                    exact yk102
                · have e : y = 103 := by omega
                  subst e
                  exact yk103
              · by_cases h104_105 : y ≤ 104
                · have e : y = 104 := by omega
                  subst e
                  exact yk104
                · have e : y = 105 := by omega
                  subst e
                  exact yk105
        · by_cases h106_126 : y ≤ 116
          · by_cases h106_116 : y ≤ 111
            · by_cases h106_111 : y ≤ 108
              · by_cases h106_108 : y ≤ 107
                · by_cases h106_107 : y ≤ 106
                  · have e : y = 106 := by omega
                    subst e
                    exact yk106
                  · have e : y = 107 := by omega
                    subst e
                    exact yk107
                · have e : y = 108 := by omega
                  subst e
                  exact yk108
              · by_cases h109_111 : y ≤ 110
                · by_cases h109_110 : y ≤ 109
                  · have e : y = 109 := by omega
                    subst e
                    exact yk109
                  · have e : y = 110 := by omega
                    subst e
                    exact yk110
                · have e : y = 111 := by omega
                  subst e
                  exact yk111
            · by_cases h112_116 : y ≤ 114
              · by_cases h112_114 : y ≤ 113
                · by_cases h112_113 : y ≤ 112
                  · have e : y = 112 := by omega
                    subst e
                    exact yk112
                  · have e : y = 113 := by omega
                    subst e
                    exact yk113
                · have e : y = 114 := by omega
                  subst e
                  exact yk114
              · by_cases h115_116 : y ≤ 115
                · have e : y = 115 := by omega
                  subst e
                  exact yk115
                · have e : y = 116 := by omega
                  subst e
                  exact yk116
          · by_cases h117_126 : y ≤ 121
            · by_cases h117_121 : y ≤ 119
              · by_cases h117_119 : y ≤ 118
                · by_cases h117_118 : y ≤ 117
                  · have e : y = 117 := by omega
                    subst e
                    exact yk117
                  · have e : y = 118 := by omega
                    subst e
                    exact yk118
                · have e : y = 119 := by omega
                  subst e
                  exact yk119
              · by_cases h120_121 : y ≤ 120
                · have e : y = 120 := by omega
                  subst e
                  exact yk120
                · have e : y = 121 := by omega
                  subst e
                  exact yk121
            · by_cases h122_126 : y ≤ 124
              · by_cases h122_124 : y ≤ 123
                · by_cases h122_123 : y ≤ 122
                  · have e : y = 122 := by omega
                    subst e
                    exact yk122
                  · have e : y = 123 := by omega
                    subst e
                    exact yk123
                · have e : y = 124 := by omega
                  subst e
                  exact yk124
              · by_cases h125_126 : y ≤ 125
                · have e : y = 125 := by omega
                  subst e
                  exact yk125
                · have e : y = 126 := by omega
                  subst e
                  exact yk126
      · by_cases h127_168 : y ≤ 147
        · by_cases h127_147 : y ≤ 137
          · by_cases h127_137 : y ≤ 132
            · by_cases h127_132 : y ≤ 129
              · by_cases h127_129 : y ≤ 128
                · by_cases h127_128 : y ≤ 127
                  · have e : y = 127 := by omega
                    subst e
                    exact yk127
                  · have e : y = 128 := by omega
                    subst e
                    exact yk128
                · have e : y = 129 := by omega
                  subst e
                  exact yk129
              · by_cases h130_132 : y ≤ 131
                · by_cases h130_131 : y ≤ 130
                  · have e : y = 130 := by omega
                    subst e
                    exact yk130
                  · have e : y = 131 := by omega
                    subst e
                    exact yk131
                · have e : y = 132 := by omega
                  subst e
                  exact yk132
            · by_cases h133_137 : y ≤ 135
              · by_cases h133_135 : y ≤ 134
                · by_cases h133_134 : y ≤ 133
                  · have e : y = 133 := by omega
                    subst e
                    exact yk133
                  · have e : y = 134 := by omega
                    subst e
                    exact yk134
                · have e : y = 135 := by omega
                  subst e
                  exact yk135
              · by_cases h136_137 : y ≤ 136
                · have e : y = 136 := by omega
                  subst e
                  exact yk136
                · have e : y = 137 := by omega
                  subst e
                  exact yk137
          · by_cases h138_147 : y ≤ 142
            · by_cases h138_142 : y ≤ 140
              · by_cases h138_140 : y ≤ 139
                · by_cases h138_139 : y ≤ 138
                  · have e : y = 138 := by omega
                    subst e
                    exact yk138
                  · have e : y = 139 := by omega
                    subst e
                    exact yk139
                · have e : y = 140 := by omega
                  subst e
                  exact yk140
              · by_cases h141_142 : y ≤ 141
                · have e : y = 141 := by omega
                  subst e
                  exact yk141
                · have e : y = 142 := by omega
                  subst e
                  exact yk142
            · by_cases h143_147 : y ≤ 145
              · by_cases h143_145 : y ≤ 144
                · by_cases h143_144 : y ≤ 143
                  · have e : y = 143 := by omega
                    subst e
                    exact yk143
                  · have e : y = 144 := by omega
                    subst e
                    exact yk144
                · have e : y = 145 := by omega
                  subst e
                  exact yk145
              · by_cases h146_147 : y ≤ 146
                · have e : y = 146 := by omega
                  subst e
                  exact yk146
                · have e : y = 147 := by omega
                  subst e
                  exact yk147
        · by_cases h148_168 : y ≤ 158
          · by_cases h148_158 : y ≤ 153
            · by_cases h148_153 : y ≤ 150
              · by_cases h148_150 : y ≤ 149
                · by_cases h148_149 : y ≤ 148
                  · have e : y = 148 := by omega
                    subst e
                    exact yk148
                  · have e : y = 149 := by omega
                    subst e
                    exact yk149
                · have e : y = 150 := by omega
                  subst e
                  exact yk150
              · by_cases h151_153 : y ≤ 152
                · by_cases h151_152 : y ≤ 151
                  · have e : y = 151 := by omega
                    subst e
                    exact yk151
                  · have e : y = 152 := by omega
                    subst e
                    exact yk152
                · have e : y = 153 := by omega
                  subst e
                  exact yk153
            · by_cases h154_158 : y ≤ 156
              · by_cases h154_156 : y ≤ 155
                · by_cases h154_155 : y ≤ 154
                  · have e : y = 154 := by omega
                    subst e
                    exact yk154
                  · have e : y = 155 := by omega
                    subst e
                    exact yk155
                · have e : y = 156 := by omega
                  subst e
                  exact yk156
              · by_cases h157_158 : y ≤ 157
                · have e : y = 157 := by omega
                  subst e
                  exact yk157
                · have e : y = 158 := by omega
                  subst e
                  exact yk158
          · by_cases h159_168 : y ≤ 163
            · by_cases h159_163 : y ≤ 161
              · by_cases h159_161 : y ≤ 160
                · by_cases h159_160 : y ≤ 159
                  · have e : y = 159 := by omega
                    subst e
                    exact yk159
                  · have e : y = 160 := by omega
                    subst e
                    exact yk160
                · have e : y = 161 := by omega
                  subst e
                  exact yk161
              · by_cases h162_163 : y ≤ 162
                · have e : y = 162 := by omega
                  subst e
                  exact yk162
                · have e : y = 163 := by omega
                  subst e
                  exact yk163
            · by_cases h164_168 : y ≤ 166
              · by_cases h164_166 : y ≤ 165
                · by_cases h164_165 : y ≤ 164
                  · have e : y = 164 := by omega
                    subst e
                    exact yk164
                  · have e : y = 165 := by omega
                    subst e
                    exact yk165
                · have e : y = 166 := by omega
                  subst e
                  exact yk166
              · by_cases h167_168 : y ≤ 167
                · have e : y = 167 := by omega
                  subst e
                  exact yk167
                · have e : y = 168 := by omega
                  subst e
                  exact yk168
  · by_cases h169_336 : y ≤ 252
    · by_cases h169_252 : y ≤ 210
      · by_cases h169_210 : y ≤ 189
        · by_cases h169_189 : y ≤ 179
          · by_cases h169_179 : y ≤ 174
            · by_cases h169_174 : y ≤ 171
              · by_cases h169_171 : y ≤ 170
                · by_cases h169_170 : y ≤ 169
                  · have e : y = 169 := by omega
                    subst e
                    exact yk169
                  · have e : y = 170 := by omega
                    subst e
                    exact yk170
                · have e : y = 171 := by omega
                  subst e
                  exact yk171
              · by_cases h172_174 : y ≤ 173
                · by_cases h172_173 : y ≤ 172
                  · have e : y = 172 := by omega
                    subst e
                    exact yk172
                  · have e : y = 173 := by omega
                    subst e
                    exact yk173
                · have e : y = 174 := by omega
                  subst e
                  exact yk174
            · by_cases h175_179 : y ≤ 177
              · by_cases h175_177 : y ≤ 176
                · by_cases h175_176 : y ≤ 175
                  · have e : y = 175 := by omega
                    subst e
                    exact yk175
                  · have e : y = 176 := by omega
                    subst e
                    exact yk176
                · have e : y = 177 := by omega
                  subst e
                  exact yk177
              · by_cases h178_179 : y ≤ 178
                · have e : y = 178 := by omega
                  subst e
                  exact yk178
                · have e : y = 179 := by omega
                  subst e
                  exact yk179
          · by_cases h180_189 : y ≤ 184
            · by_cases h180_184 : y ≤ 182
              · by_cases h180_182 : y ≤ 181
                · by_cases h180_181 : y ≤ 180
                  · have e : y = 180 := by omega
                    subst e
                    exact yk180
                  · have e : y = 181 := by omega
                    subst e
                    exact yk181
                · have e : y = 182 := by omega
                  subst e
                  exact yk182
              · by_cases h183_184 : y ≤ 183
                · have e : y = 183 := by omega
                  subst e
                  exact yk183
                · have e : y = 184 := by omega
                  subst e
                  exact yk184
            · by_cases h185_189 : y ≤ 187
              · by_cases h185_187 : y ≤ 186
                · by_cases h185_186 : y ≤ 185
                  · have e : y = 185 := by omega
                    subst e
                    exact yk185
                  · have e : y = 186 := by omega
                    subst e
                    exact yk186
                · have e : y = 187 := by omega
                  subst e
                  exact yk187
              · by_cases h188_189 : y ≤ 188
                · have e : y = 188 := by omega
                  subst e
                  exact yk188
                · have e : y = 189 := by omega
                  subst e
                  exact yk189
        · by_cases h190_210 : y ≤ 200
          · by_cases h190_200 : y ≤ 195
            · by_cases h190_195 : y ≤ 192
              · by_cases h190_192 : y ≤ 191
                · by_cases h190_191 : y ≤ 190
                  · have e : y = 190 := by omega
                    subst e
                    exact yk190
                  · have e : y = 191 := by omega
                    subst e
                    exact yk191
                · have e : y = 192 := by omega
                  subst e
                  exact yk192
              · by_cases h193_195 : y ≤ 194
                · by_cases h193_194 : y ≤ 193
                  · have e : y = 193 := by omega
                    subst e
                    exact yk193
                  · have e : y = 194 := by omega
                    subst e
                    exact yk194
                · have e : y = 195 := by omega
                  subst e
                  exact yk195
            · by_cases h196_200 : y ≤ 198
              · by_cases h196_198 : y ≤ 197
                · by_cases h196_197 : y ≤ 196
                  · have e : y = 196 := by omega
                    subst e
                    exact yk196
                  · have e : y = 197 := by omega
                    subst e
                    exact yk197
                · have e : y = 198 := by omega
                  subst e
                  exact yk198
              · by_cases h199_200 : y ≤ 199
                · have e : y = 199 := by omega
                  subst e
                  exact yk199
                · have e : y = 200 := by omega
                  subst e
                  exact yk200
          · by_cases h201_210 : y ≤ 205
            · by_cases h201_205 : y ≤ 203
              · by_cases h201_203 : y ≤ 202
                · by_cases h201_202 : y ≤ 201
                  · have e : y = 201 := by omega
                    subst e
                    exact yk201
                  · have e : y = 202 := by omega
                    subst e
                    exact yk202
                · have e : y = 203 := by omega
                  subst e
                  exact yk203
              · by_cases h204_205 : y ≤ 204
                · have e : y = 204 := by omega
                  subst e
                  exact yk204
                · have e : y = 205 := by omega
                  subst e
                  exact yk205
            · by_cases h206_210 : y ≤ 208
              · by_cases h206_208 : y ≤ 207
                · by_cases h206_207 : y ≤ 206
                  · have e : y = 206 := by omega
                    subst e
                    exact yk206
                  · have e : y = 207 := by omega
                    subst e
                    exact yk207
                · have e : y = 208 := by omega
                  subst e
                  exact yk208
              · by_cases h209_210 : y ≤ 209
                · have e : y = 209 := by omega
                  subst e
                  exact yk209
                · have e : y = 210 := by omega
                  subst e
                  exact yk210
      · by_cases h211_252 : y ≤ 231
        · by_cases h211_231 : y ≤ 221
          · by_cases h211_221 : y ≤ 216
            · by_cases h211_216 : y ≤ 213
              · by_cases h211_213 : y ≤ 212
                · by_cases h211_212 : y ≤ 211
                  · have e : y = 211 := by omega
                    subst e
                    exact yk211
                  · have e : y = 212 := by omega
                    subst e
                    exact yk212
                · have e : y = 213 := by omega
                  subst e
                  exact yk213
              · by_cases h214_216 : y ≤ 215
                · by_cases h214_215 : y ≤ 214
                  · have e : y = 214 := by omega
                    subst e
                    exact yk214
                  · have e : y = 215 := by omega
                    subst e
                    exact yk215
                · have e : y = 216 := by omega
                  subst e
                  exact yk216
            · by_cases h217_221 : y ≤ 219
              · by_cases h217_219 : y ≤ 218
                · by_cases h217_218 : y ≤ 217
                  · have e : y = 217 := by omega
                    subst e
                    exact yk217
                  · have e : y = 218 := by omega
                    subst e
                    exact yk218
                · have e : y = 219 := by omega
                  subst e
                  exact yk219
              · by_cases h220_221 : y ≤ 220
                · have e : y = 220 := by omega
                  subst e
                  exact yk220
                · have e : y = 221 := by omega
                  subst e
                  exact yk221
          · by_cases h222_231 : y ≤ 226
            · by_cases h222_226 : y ≤ 224
              · by_cases h222_224 : y ≤ 223
                · by_cases h222_223 : y ≤ 222
                  · have e : y = 222 := by omega
                    subst e
                    exact yk222
                  · have e : y = 223 := by omega
                    subst e
                    exact yk223
                · have e : y = 224 := by omega
                  subst e
                  exact yk224
              · by_cases h225_226 : y ≤ 225
                · have e : y = 225 := by omega
                  subst e
                  exact yk225
                · have e : y = 226 := by omega
                  subst e
                  exact yk226
            · by_cases h227_231 : y ≤ 229
              · by_cases h227_229 : y ≤ 228
                · by_cases h227_228 : y ≤ 227
                  · have e : y = 227 := by omega
                    subst e
                    exact yk227
                  · have e : y = 228 := by omega
                    subst e
                    exact yk228
                · have e : y = 229 := by omega
                  subst e
                  exact yk229
              · by_cases h230_231 : y ≤ 230
                · have e : y = 230 := by omega
                  subst e
                  exact yk230
                · have e : y = 231 := by omega
                  subst e
                  exact yk231
        · by_cases h232_252 : y ≤ 242
          · by_cases h232_242 : y ≤ 237
            · by_cases h232_237 : y ≤ 234
              · by_cases h232_234 : y ≤ 233
                · by_cases h232_233 : y ≤ 232
                  · have e : y = 232 := by omega
                    subst e
                    exact yk232
                  · have e : y = 233 := by omega
                    subst e
                    exact yk233
                · have e : y = 234 := by omega
                  subst e
                  exact yk234
              · by_cases h235_237 : y ≤ 236
                · by_cases h235_236 : y ≤ 235
                  · have e : y = 235 := by omega
                    subst e
                    exact yk235
                  · have e : y = 236 := by omega
                    subst e
                    exact yk236
                · have e : y = 237 := by omega
                  subst e
                  exact yk237
            · by_cases h238_242 : y ≤ 240
              · by_cases h238_240 : y ≤ 239
                · by_cases h238_239 : y ≤ 238
                  · have e : y = 238 := by omega
                    subst e
                    exact yk238
                  · have e : y = 239 := by omega
                    subst e
                    exact yk239
                · have e : y = 240 := by omega
                  subst e
                  exact yk240
              · by_cases h241_242 : y ≤ 241
                · have e : y = 241 := by omega
                  subst e
                  exact yk241
                · have e : y = 242 := by omega
                  subst e
                  exact yk242
          · by_cases h243_252 : y ≤ 247
            · by_cases h243_247 : y ≤ 245
              · by_cases h243_245 : y ≤ 244
                · by_cases h243_244 : y ≤ 243
                  · have e : y = 243 := by omega
                    subst e
                    exact yk243
                  · have e : y = 244 := by omega
                    subst e
                    exact yk244
                · have e : y = 245 := by omega
                  subst e
                  exact yk245
              · by_cases h246_247 : y ≤ 246
                · have e : y = 246 := by omega
                  subst e
                  exact yk246
                · have e : y = 247 := by omega
                  subst e
                  exact yk247
            · by_cases h248_252 : y ≤ 250
              · by_cases h248_250 : y ≤ 249
                · by_cases h248_249 : y ≤ 248
                  · have e : y = 248 := by omega
                    subst e
                    exact yk248
                  · have e : y = 249 := by omega
                    subst e
                    exact yk249
                · have e : y = 250 := by omega
                  subst e
                  exact yk250
              · by_cases h251_252 : y ≤ 251
                · have e : y = 251 := by omega
                  subst e
                  exact yk251
                · have e : y = 252 := by omega
                  subst e
                  exact yk252
    · by_cases h253_336 : y ≤ 294
      · by_cases h253_294 : y ≤ 273
        · by_cases h253_273 : y ≤ 263
          · by_cases h253_263 : y ≤ 258
            · by_cases h253_258 : y ≤ 255
              · by_cases h253_255 : y ≤ 254
                · by_cases h253_254 : y ≤ 253
                  · have e : y = 253 := by omega
                    subst e
                    exact yk253
                  · have e : y = 254 := by omega
                    subst e
                    exact yk254
                · have e : y = 255 := by omega
                  subst e
                  exact yk255
              · by_cases h256_258 : y ≤ 257
                · by_cases h256_257 : y ≤ 256
                  · have e : y = 256 := by omega
                    subst e
                    exact yk256
                  · have e : y = 257 := by omega
                    subst e
                    exact yk257
                · have e : y = 258 := by omega
                  subst e
                  exact yk258
            · by_cases h259_263 : y ≤ 261
              · by_cases h259_261 : y ≤ 260
                · by_cases h259_260 : y ≤ 259
                  · have e : y = 259 := by omega
                    subst e
                    exact yk259
                  · have e : y = 260 := by omega
                    subst e
                    exact yk260
                · have e : y = 261 := by omega
                  subst e
                  exact yk261
              · by_cases h262_263 : y ≤ 262
                · have e : y = 262 := by omega
                  subst e
                  exact yk262
                · have e : y = 263 := by omega
                  subst e
                  exact yk263
          · by_cases h264_273 : y ≤ 268
            · by_cases h264_268 : y ≤ 266
              · by_cases h264_266 : y ≤ 265
                · by_cases h264_265 : y ≤ 264
                  · have e : y = 264 := by omega
                    subst e
                    exact yk264
                  · have e : y = 265 := by omega
                    subst e
                    exact yk265
                · have e : y = 266 := by omega
                  subst e
                  exact yk266
              · by_cases h267_268 : y ≤ 267
                · have e : y = 267 := by omega
                  subst e
                  exact yk267
                · have e : y = 268 := by omega
                  subst e
                  exact yk268
            · by_cases h269_273 : y ≤ 271
              · by_cases h269_271 : y ≤ 270
                · by_cases h269_270 : y ≤ 269
                  · have e : y = 269 := by omega
                    subst e
                    exact yk269
                  · have e : y = 270 := by omega
                    subst e
                    exact yk270
                · have e : y = 271 := by omega
                  subst e
                  exact yk271
              · by_cases h272_273 : y ≤ 272
                · have e : y = 272 := by omega
                  subst e
                  exact yk272
                · have e : y = 273 := by omega
                  subst e
                  exact yk273
        · by_cases h274_294 : y ≤ 284
          · by_cases h274_284 : y ≤ 279
            · by_cases h274_279 : y ≤ 276
              · by_cases h274_276 : y ≤ 275
                · by_cases h274_275 : y ≤ 274
                  · have e : y = 274 := by omega
                    subst e
                    exact yk274
                  · have e : y = 275 := by omega
                    subst e
                    exact yk275
                · have e : y = 276 := by omega
                  subst e
                  exact yk276
              · by_cases h277_279 : y ≤ 278
                · by_cases h277_278 : y ≤ 277
                  · have e : y = 277 := by omega
                    subst e
                    exact yk277
                  · have e : y = 278 := by omega
                    subst e
                    exact yk278
                · have e : y = 279 := by omega
                  subst e
                  exact yk279
            · by_cases h280_284 : y ≤ 282
              · by_cases h280_282 : y ≤ 281
                · by_cases h280_281 : y ≤ 280
                  · have e : y = 280 := by omega
                    subst e
                    exact yk280
                  · have e : y = 281 := by omega
                    subst e
                    exact yk281
                · have e : y = 282 := by omega
                  subst e
                  exact yk282
              · by_cases h283_284 : y ≤ 283
                · have e : y = 283 := by omega
                  subst e
                  exact yk283
                · have e : y = 284 := by omega
                  subst e
                  exact yk284
          · by_cases h285_294 : y ≤ 289
            · by_cases h285_289 : y ≤ 287
              · by_cases h285_287 : y ≤ 286
                · by_cases h285_286 : y ≤ 285
                  · have e : y = 285 := by omega
                    subst e
                    exact yk285
                  · have e : y = 286 := by omega
                    subst e
                    exact yk286
                · have e : y = 287 := by omega
                  subst e
                  exact yk287
              · by_cases h288_289 : y ≤ 288
                · have e : y = 288 := by omega
                  subst e
                  exact yk288
                · have e : y = 289 := by omega
                  subst e
                  exact yk289
            · by_cases h290_294 : y ≤ 292
              · by_cases h290_292 : y ≤ 291
                · by_cases h290_291 : y ≤ 290
                  · have e : y = 290 := by omega
                    subst e
                    exact yk290
                  · have e : y = 291 := by omega
                    subst e
                    exact yk291
                · have e : y = 292 := by omega
                  subst e
                  exact yk292
              · by_cases h293_294 : y ≤ 293
                · have e : y = 293 := by omega
                  subst e
                  exact yk293
                · have e : y = 294 := by omega
                  subst e
                  exact yk294
      · by_cases h295_336 : y ≤ 315
        · by_cases h295_315 : y ≤ 305
          · by_cases h295_305 : y ≤ 300
            · by_cases h295_300 : y ≤ 297
              · by_cases h295_297 : y ≤ 296
                · by_cases h295_296 : y ≤ 295
                  · have e : y = 295 := by omega
                    subst e
                    exact yk295
                  · have e : y = 296 := by omega
                    subst e
                    exact yk296
                · have e : y = 297 := by omega
                  subst e
                  exact yk297
              · by_cases h298_300 : y ≤ 299
                · by_cases h298_299 : y ≤ 298
                  · have e : y = 298 := by omega
                    subst e
                    exact yk298
                  · have e : y = 299 := by omega
                    subst e
                    exact yk299
                · have e : y = 300 := by omega
                  subst e
                  exact yk300
            · by_cases h301_305 : y ≤ 303
              · by_cases h301_303 : y ≤ 302
                · by_cases h301_302 : y ≤ 301
                  · have e : y = 301 := by omega
                    subst e
                    exact yk301
                  · have e : y = 302 := by omega
                    subst e
                    exact yk302
                · have e : y = 303 := by omega
                  subst e
                  exact yk303
              · by_cases h304_305 : y ≤ 304
                · have e : y = 304 := by omega
                  subst e
                  exact yk304
                · have e : y = 305 := by omega
                  subst e
                  exact yk305
          · by_cases h306_315 : y ≤ 310
            · by_cases h306_310 : y ≤ 308
              · by_cases h306_308 : y ≤ 307
                · by_cases h306_307 : y ≤ 306
                  · have e : y = 306 := by omega
                    subst e
                    exact yk306
                  · have e : y = 307 := by omega
                    subst e
                    exact yk307
                · have e : y = 308 := by omega
                  subst e
                  exact yk308
              · by_cases h309_310 : y ≤ 309
                · have e : y = 309 := by omega
                  subst e
                  exact yk309
                · have e : y = 310 := by omega
                  subst e
                  exact yk310
            · by_cases h311_315 : y ≤ 313
              · by_cases h311_313 : y ≤ 312
                · by_cases h311_312 : y ≤ 311
                  · have e : y = 311 := by omega
                    subst e
                    exact yk311
                  · have e : y = 312 := by omega
                    subst e
                    exact yk312
                · have e : y = 313 := by omega
                  subst e
                  exact yk313
              · by_cases h314_315 : y ≤ 314
                · have e : y = 314 := by omega
                  subst e
                  exact yk314
                · have e : y = 315 := by omega
                  subst e
                  exact yk315
        · by_cases h316_336 : y ≤ 326
          · by_cases h316_326 : y ≤ 321
            · by_cases h316_321 : y ≤ 318
              · by_cases h316_318 : y ≤ 317
                · by_cases h316_317 : y ≤ 316
                  · have e : y = 316 := by omega
                    subst e
                    exact yk316
                  · have e : y = 317 := by omega
                    subst e
                    exact yk317
                · have e : y = 318 := by omega
                  subst e
                  exact yk318
              · by_cases h319_321 : y ≤ 320
                · by_cases h319_320 : y ≤ 319
                  · have e : y = 319 := by omega
                    subst e
                    exact yk319
                  · have e : y = 320 := by omega
                    subst e
                    exact yk320
                · have e : y = 321 := by omega
                  subst e
                  exact yk321
            · by_cases h322_326 : y ≤ 324
              · by_cases h322_324 : y ≤ 323
                · by_cases h322_323 : y ≤ 322
                  · have e : y = 322 := by omega
                    subst e
                    exact yk322
                  · have e : y = 323 := by omega
                    subst e
                    exact yk323
                · have e : y = 324 := by omega
                  subst e
                  exact yk324
              · by_cases h325_326 : y ≤ 325
                · have e : y = 325 := by omega
                  subst e
                  exact yk325
                · have e : y = 326 := by omega
                  subst e
                  exact yk326
          · by_cases h327_336 : y ≤ 331
            · by_cases h327_331 : y ≤ 329
              · by_cases h327_329 : y ≤ 328
                · by_cases h327_328 : y ≤ 327
                  · have e : y = 327 := by omega
                    subst e
                    exact yk327
                  · have e : y = 328 := by omega
                    subst e
                    exact yk328
                · have e : y = 329 := by omega
                  subst e
                  exact yk329
              · by_cases h330_331 : y ≤ 330
                · have e : y = 330 := by omega
                  subst e
                  exact yk330
                · have e : y = 331 := by omega
                  subst e
                  exact yk331
            · by_cases h332_336 : y ≤ 334
              · by_cases h332_334 : y ≤ 333
                · by_cases h332_333 : y ≤ 332
                  · have e : y = 332 := by omega
                    subst e
                    exact yk332
                  · have e : y = 333 := by omega
                    subst e
                    exact yk333
                · have e : y = 334 := by omega
                  subst e
                  exact yk334
              · by_cases h335_336 : y ≤ 335
                · have e : y = 335 := by omega
                  subst e
                  exact yk335
                · have e : y = 336 := by omega
                  subst e
                  exact yk336
