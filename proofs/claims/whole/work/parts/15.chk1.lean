theorem ck61 : ∀ pc, b_Monks_rouse pc = [] ∨ chkB (cd 61) 6 61 pc (b_Monks_rouse pc) = true := by
  intro pc
  unfold b_Monks_rouse
  split
  · exact Or.inr (by decide +kernel)
  · exact Or.inl rfl
theorem ck62 : ∀ pc, b_Monks_lend pc = [] ∨ chkB (cd 62) 6 62 pc (b_Monks_lend pc) = true := by
  intro pc
  unfold b_Monks_lend
  split
  · exact Or.inr (by decide +kernel)
  · exact Or.inl rfl
theorem ck63 : ∀ pc, b_Monks_rested pc = [] ∨ chkB (cd 63) 6 63 pc (b_Monks_rested pc) = true := by
  intro pc
  unfold b_Monks_rested
  split
  · exact Or.inr (by decide +kernel)
  · exact Or.inr (by decide +kernel)
  · exact Or.inr (by decide +kernel)
  · exact Or.inl rfl
theorem ck64 : ∀ pc, b_Monks_leastRested pc = [] ∨ chkB (cd 64) 6 64 pc (b_Monks_leastRested pc) = true := by
  intro pc
  unfold b_Monks_leastRested
  split
  · exact Or.inr (by decide +kernel)
  · exact Or.inr (by decide +kernel)
  · exact Or.inr (by decide +kernel)
  · exact Or.inr (by decide +kernel)
  · exact Or.inl rfl
theorem ck65 : ∀ pc, b_Monks_keptApart pc = [] ∨ chkB (cd 65) 6 65 pc (b_Monks_keptApart pc) = true := by
  intro pc
  unfold b_Monks_keptApart
  split
  · exact Or.inr (by decide +kernel)
  · exact Or.inr (by decide +kernel)
  · exact Or.inr (by decide +kernel)
  · exact Or.inr (by decide +kernel)
  · exact Or.inl rfl
theorem ck66 : ∀ pc, b_Monks_pairs pc = [] ∨ chkB (cd 66) 6 66 pc (b_Monks_pairs pc) = true := by
  intro pc
  unfold b_Monks_pairs
  split
  · exact Or.inr (by decide +kernel)
  · exact Or.inr (by decide +kernel)
  · exact Or.inr (by decide +kernel)
  · exact Or.inr (by decide +kernel)
  · exact Or.inr (by decide +kernel)
  · exact Or.inl rfl
theorem ck67 : ∀ pc, b_Talk_longest pc = [] ∨ chkB (cd 67) 7 67 pc (b_Talk_longest pc) = true := by
  intro pc
  unfold b_Talk_longest
  split
  · exact Or.inr (by decide +kernel)
  · exact Or.inl rfl
theorem ck68 : ∀ pc, b_Talk_goOn pc = [] ∨ chkB (cd 68) 7 68 pc (b_Talk_goOn pc) = true := by
  intro pc
  unfold b_Talk_goOn
  split
  · exact Or.inr (by decide +kernel)
  · exact Or.inr (by decide +kernel)
  · exact Or.inr (by decide +kernel)
  · exact Or.inr (by decide +kernel)
  · exact Or.inr (by decide +kernel)
  · exact Or.inr (by decide +kernel)
  · exact Or.inl rfl
theorem ck69 : ∀ pc, b_Talk_shortestRing pc = [] ∨ chkB (cd 69) 7 69 pc (b_Talk_shortestRing pc) = true := by
  intro pc
  unfold b_Talk_shortestRing
  split
  · exact Or.inr (by decide +kernel)
  · exact Or.inr (by decide +kernel)
  · exact Or.inr (by decide +kernel)
  · exact Or.inr (by decide +kernel)
  · exact Or.inr (by decide +kernel)
  · exact Or.inr (by decide +kernel)
  · exact Or.inl rfl
theorem ck70 : ∀ pc, b_Talk_closes pc = [] ∨ chkB (cd 70) 7 70 pc (b_Talk_closes pc) = true := by
  intro pc
  unfold b_Talk_closes
  split
  · exact Or.inr (by decide +kernel)
  · exact Or.inr (by decide +kernel)
  · exact Or.inr (by decide +kernel)
  · exact Or.inr (by decide +kernel)
  · exact Or.inr (by decide +kernel)
  · exact Or.inr (by decide +kernel)
  · exact Or.inr (by decide +kernel)
  · exact Or.inl rfl
theorem ck71 : ∀ pc, b_Talk_behind pc = [] ∨ chkB (cd 71) 7 71 pc (b_Talk_behind pc) = true := by
  intro pc
  unfold b_Talk_behind
  split
  · exact Or.inr (by decide +kernel)
  · exact Or.inr (by decide +kernel)
  · exact Or.inr (by decide +kernel)
  · exact Or.inr (by decide +kernel)
  · exact Or.inr (by decide +kernel)
  · exact Or.inr (by decide +kernel)
  · exact Or.inl rfl
theorem ck72 : ∀ pc, b_Talk_winner pc = [] ∨ chkB (cd 72) 7 72 pc (b_Talk_winner pc) = true := by
  intro pc
  unfold b_Talk_winner
  split
  · exact Or.inr (by decide +kernel)
  · exact Or.inr (by decide +kernel)
  · exact Or.inr (by decide +kernel)
  · exact Or.inr (by decide +kernel)
  · exact Or.inl rfl
theorem ck73 : ∀ pc, b_Tape_put pc = [] ∨ chkB (cd 73) 8 73 pc (b_Tape_put pc) = true := by
  intro pc
  unfold b_Tape_put
  split
  · exact Or.inr (by decide +kernel)
  · exact Or.inr (by decide +kernel)
  · exact Or.inr (by decide +kernel)
  · exact Or.inr (by decide +kernel)
  · exact Or.inl rfl
theorem ck74 : ∀ pc, b_Tape_begin pc = [] ∨ chkB (cd 74) 8 74 pc (b_Tape_begin pc) = true := by
  intro pc
  unfold b_Tape_begin
  split
  · exact Or.inr (by decide +kernel)
  · exact Or.inl rfl
theorem ck75 : ∀ pc, b_Tape_advance pc = [] ∨ chkB (cd 75) 8 75 pc (b_Tape_advance pc) = true := by
  intro pc
  unfold b_Tape_advance
  split
  · exact Or.inr (by decide +kernel)
  · exact Or.inr (by decide +kernel)
  · exact Or.inr (by decide +kernel)
  · exact Or.inr (by decide +kernel)
  · exact Or.inr (by decide +kernel)
  · exact Or.inr (by decide +kernel)
  · exact Or.inr (by decide +kernel)
  · exact Or.inl rfl
theorem ck76 : ∀ pc, b_Tape_readWord pc = [] ∨ chkB (cd 76) 8 76 pc (b_Tape_readWord pc) = true := by
  intro pc
  unfold b_Tape_readWord
  split
  · exact Or.inr (by decide +kernel)
  · exact Or.inr (by decide +kernel)
  · exact Or.inr (by decide +kernel)
  · exact Or.inr (by decide +kernel)
  · exact Or.inr (by decide +kernel)
  · exact Or.inr (by decide +kernel)
  · exact Or.inr (by decide +kernel)
  · exact Or.inl rfl
theorem ck77 : ∀ pc, b_Tape_readNumber pc = [] ∨ chkB (cd 77) 8 77 pc (b_Tape_readNumber pc) = true := by
  intro pc
  unfold b_Tape_readNumber
  split
  · exact Or.inr (by decide +kernel)
  · exact Or.inr (by decide +kernel)
  · exact Or.inr (by decide +kernel)
  · exact Or.inr (by decide +kernel)
  · exact Or.inl rfl
theorem ck78 : ∀ pc, b_Tape_readSign pc = [] ∨ chkB (cd 78) 8 78 pc (b_Tape_readSign pc) = true := by
  intro pc
  unfold b_Tape_readSign
  split
  · exact Or.inr (by decide +kernel)
  · exact Or.inr (by decide +kernel)
  · exact Or.inr (by decide +kernel)
  · exact Or.inr (by decide +kernel)
  · exact Or.inr (by decide +kernel)
  · exact Or.inr (by decide +kernel)
  · exact Or.inl rfl
theorem ck79 : ∀ pc, b_Tape_fail pc = [] ∨ chkB (cd 79) 8 79 pc (b_Tape_fail pc) = true := by
  intro pc
  unfold b_Tape_fail
  split
  · exact Or.inr (by decide +kernel)
  · exact Or.inr (by decide +kernel)
  · exact Or.inr (by decide +kernel)
  · exact Or.inl rfl
theorem ck80 : ∀ pc, b_Tape_isName pc = [] ∨ chkB (cd 80) 8 80 pc (b_Tape_isName pc) = true := by
  intro pc
  unfold b_Tape_isName
  split
  · exact Or.inr (by decide +kernel)
  · exact Or.inr (by decide +kernel)
  · exact Or.inr (by decide +kernel)
  · exact Or.inl rfl
theorem ck81 : ∀ pc, b_Tape_skipWord pc = [] ∨ chkB (cd 81) 8 81 pc (b_Tape_skipWord pc) = true := by
  intro pc
  unfold b_Tape_skipWord
  split
  · exact Or.inr (by decide +kernel)
  · exact Or.inr (by decide +kernel)
  · exact Or.inl rfl
theorem ck82 : ∀ pc, b_Tape_skipSemicolon pc = [] ∨ chkB (cd 82) 8 82 pc (b_Tape_skipSemicolon pc) = true := by
  intro pc
  unfold b_Tape_skipSemicolon
  split
  · exact Or.inr (by decide +kernel)
  · exact Or.inr (by decide +kernel)
  · exact Or.inr (by decide +kernel)
  · exact Or.inl rfl
theorem ck83 : ∀ pc, b_Tape_skipName pc = [] ∨ chkB (cd 83) 8 83 pc (b_Tape_skipName pc) = true := by
  intro pc
  unfold b_Tape_skipName
  split
  · exact Or.inr (by decide +kernel)
  · exact Or.inr (by decide +kernel)
  · exact Or.inr (by decide +kernel)
  · exact Or.inl rfl
theorem ck84 : ∀ pc, b_Tape_takeCompare pc = [] ∨ chkB (cd 84) 8 84 pc (b_Tape_takeCompare pc) = true := by
  intro pc
  unfold b_Tape_takeCompare
  split
  · exact Or.inr (by decide +kernel)
  · exact Or.inr (by decide +kernel)
  · exact Or.inr (by decide +kernel)
  · exact Or.inl rfl
theorem ck85 : ∀ pc, b_Tape_takeNumber pc = [] ∨ chkB (cd 85) 8 85 pc (b_Tape_takeNumber pc) = true := by
  intro pc
  unfold b_Tape_takeNumber
  split
  · exact Or.inr (by decide +kernel)
  · exact Or.inr (by decide +kernel)
  · exact Or.inr (by decide +kernel)
  · exact Or.inr (by decide +kernel)
  · exact Or.inr (by decide +kernel)
  · exact Or.inl rfl
theorem ck86 : ∀ pc, b_Topics_copy pc = [] ∨ chkB (cd 86) 9 86 pc (b_Topics_copy pc) = true := by
  intro pc
  unfold b_Topics_copy
  split
  · exact Or.inr (by decide +kernel)
  · exact Or.inl rfl
theorem ck87 : ∀ pc, b_Topics_add pc = [] ∨ chkB (cd 87) 9 87 pc (b_Topics_add pc) = true := by
  intro pc
  unfold b_Topics_add
  split
  · exact Or.inr (by decide +kernel)
  · exact Or.inr (by decide +kernel)
  · exact Or.inl rfl
theorem ck88 : ∀ pc, b_Topics_find pc = [] ∨ chkB (cd 88) 9 88 pc (b_Topics_find pc) = true := by
  intro pc
  unfold b_Topics_find
  split
  · exact Or.inr (by decide +kernel)
  · exact Or.inr (by decide +kernel)
  · exact Or.inr (by decide +kernel)
  · exact Or.inr (by decide +kernel)
  · exact Or.inl rfl
theorem ck89 : ∀ pc, b_Topics_before pc = [] ∨ chkB (cd 89) 9 89 pc (b_Topics_before pc) = true := by
  intro pc
  unfold b_Topics_before
  split
  · exact Or.inr (by decide +kernel)
  · exact Or.inr (by decide +kernel)
  · exact Or.inr (by decide +kernel)
  · exact Or.inl rfl
theorem ck90 : ∀ pc, b_Topics_costingAtMost pc = [] ∨ chkB (cd 90) 9 90 pc (b_Topics_costingAtMost pc) = true := by
  intro pc
  unfold b_Topics_costingAtMost
  split
  · exact Or.inr (by decide +kernel)
  · exact Or.inr (by decide +kernel)
  · exact Or.inr (by decide +kernel)
  · exact Or.inr (by decide +kernel)
  · exact Or.inl rfl
theorem ck91 : ∀ pc, b_Topics_firstCosting pc = [] ∨ chkB (cd 91) 9 91 pc (b_Topics_firstCosting pc) = true := by
  intro pc
  unfold b_Topics_firstCosting
  split
  · exact Or.inr (by decide +kernel)
  · exact Or.inr (by decide +kernel)
  · exact Or.inr (by decide +kernel)
  · exact Or.inr (by decide +kernel)
  · exact Or.inl rfl
theorem ck92 : ∀ pc, b_Tray_lay pc = [] ∨ chkB (cd 92) 10 92 pc (b_Tray_lay pc) = true := by
  intro pc
  unfold b_Tray_lay
  split
  · exact Or.inr (by decide +kernel)
  · exact Or.inl rfl
theorem ck93 : ∀ pc, b_Tray_holds pc = [] ∨ chkB (cd 93) 10 93 pc (b_Tray_holds pc) = true := by
  intro pc
  unfold b_Tray_holds
  split
  · exact Or.inr (by decide +kernel)
  · exact Or.inr (by decide +kernel)
  · exact Or.inr (by decide +kernel)
  · exact Or.inl rfl
theorem ck94 : ∀ pc, b_Tray_put pc = [] ∨ chkB (cd 94) 10 94 pc (b_Tray_put pc) = true := by
  intro pc
  unfold b_Tray_put
  split
  · exact Or.inr (by decide +kernel)
  · exact Or.inl rfl
theorem ck95 : ∀ pc, b_Tray_cut pc = [] ∨ chkB (cd 95) 10 95 pc (b_Tray_cut pc) = true := by
  intro pc
  unfold b_Tray_cut
  split
  · exact Or.inr (by decide +kernel)
  · exact Or.inr (by decide +kernel)
  · exact Or.inr (by decide +kernel)
  · exact Or.inr (by decide +kernel)
  · exact Or.inr (by decide +kernel)
  · exact Or.inl rfl
theorem ck96 : ∀ pc, b_x_status pc = [] ∨ chkB (cd 96) 11 96 pc (b_x_status pc) = true := by
  intro pc
  unfold b_x_status
  split
  · exact Or.inr (by decide +kernel)
  · exact Or.inl rfl
theorem ck97 : ∀ pc, b_x_top pc = [] ∨ chkB (cd 97) 11 97 pc (b_x_top pc) = true := by
  intro pc
  unfold b_x_top
  split
  · exact Or.inr (by decide +kernel)
  · exact Or.inl rfl
theorem ck98 : ∀ pc, b_x_bottom pc = [] ∨ chkB (cd 98) 11 98 pc (b_x_bottom pc) = true := by
  intro pc
  unfold b_x_bottom
  split
  · exact Or.inr (by decide +kernel)
  · exact Or.inl rfl
theorem ck99 : ∀ pc, b_x_tray pc = [] ∨ chkB (cd 99) 11 99 pc (b_x_tray pc) = true := by
  intro pc
  unfold b_x_tray
  split
  · exact Or.inr (by decide +kernel)
  · exact Or.inr (by decide +kernel)
  · exact Or.inr (by decide +kernel)
  · exact Or.inl rfl
theorem ck100 : ∀ pc, b_x_write pc = [] ∨ chkB (cd 100) 11 100 pc (b_x_write pc) = true := by
  intro pc
  unfold b_x_write
  split
  · exact Or.inr (by decide +kernel)
  · exact Or.inr (by decide +kernel)
  · exact Or.inl rfl
theorem ck101 : ∀ pc, b_x_read pc = [] ∨ chkB (cd 101) 11 101 pc (b_x_read pc) = true := by
  intro pc
  unfold b_x_read
  split
  · exact Or.inr (by decide +kernel)
  · exact Or.inr (by decide +kernel)
  · exact Or.inl rfl
theorem ck102 : ∀ pc, b_x_pour pc = [] ∨ chkB (cd 102) 11 102 pc (b_x_pour pc) = true := by
  intro pc
  unfold b_x_pour
  split
  · exact Or.inr (by decide +kernel)
  · exact Or.inr (by decide +kernel)
  · exact Or.inr (by decide +kernel)
  · exact Or.inr (by decide +kernel)
  · exact Or.inr (by decide +kernel)
  · exact Or.inr (by decide +kernel)
  · exact Or.inr (by decide +kernel)
  · exact Or.inr (by decide +kernel)
  · exact Or.inl rfl
theorem ck103 : ∀ pc, b_x_feed pc = [] ∨ chkB (cd 103) 11 103 pc (b_x_feed pc) = true := by
  intro pc
  unfold b_x_feed
  split
  · exact Or.inr (by decide +kernel)
  · exact Or.inr (by decide +kernel)
  · exact Or.inl rfl
theorem ck104 : ∀ pc, b_x_house pc = [] ∨ chkB (cd 104) 11 104 pc (b_x_house pc) = true := by
  intro pc
  unfold b_x_house
  split
  · exact Or.inr (by decide +kernel)
  · exact Or.inr (by decide +kernel)
  · exact Or.inr (by decide +kernel)
  · exact Or.inl rfl
theorem ck105 : ∀ pc, b_x_days pc = [] ∨ chkB (cd 105) 11 105 pc (b_x_days pc) = true := by
  intro pc
  unfold b_x_days
  split
  · exact Or.inr (by decide +kernel)
  · exact Or.inr (by decide +kernel)
  · exact Or.inr (by decide +kernel)
  · exact Or.inr (by decide +kernel)
  · exact Or.inl rfl
theorem ck106 : ∀ pc, b_x_fault pc = [] ∨ chkB (cd 106) 11 106 pc (b_x_fault pc) = true := by
  intro pc
  unfold b_x_fault
  split
  · exact Or.inr (by decide +kernel)
  · exact Or.inr (by decide +kernel)
  · exact Or.inr (by decide +kernel)
  · exact Or.inr (by decide +kernel)
  · exact Or.inl rfl
theorem ck107 : ∀ pc, b_x_told pc = [] ∨ chkB (cd 107) 11 107 pc (b_x_told pc) = true := by
  intro pc
  unfold b_x_told
  split
  · exact Or.inr (by decide +kernel)
  · exact Or.inr (by decide +kernel)
  · exact Or.inr (by decide +kernel)
  · exact Or.inr (by decide +kernel)
  · exact Or.inr (by decide +kernel)
  · exact Or.inr (by decide +kernel)
  · exact Or.inr (by decide +kernel)
  · exact Or.inr (by decide +kernel)
  · exact Or.inr (by decide +kernel)
  · exact Or.inr (by decide +kernel)
  · exact Or.inr (by decide +kernel)
  · exact Or.inl rfl
theorem ck108 : ∀ pc, b_x_topic pc = [] ∨ chkB (cd 108) 11 108 pc (b_x_topic pc) = true := by
  intro pc
  unfold b_x_topic
  split
  · exact Or.inr (by decide +kernel)
  · exact Or.inr (by decide +kernel)
  · exact Or.inr (by decide +kernel)
  · exact Or.inr (by decide +kernel)
  · exact Or.inr (by decide +kernel)
  · exact Or.inr (by decide +kernel)
  · exact Or.inl rfl
theorem ck109 : ∀ pc, b_x_monk pc = [] ∨ chkB (cd 109) 11 109 pc (b_x_monk pc) = true := by
  intro pc
  unfold b_x_monk
  split
  · exact Or.inr (by decide +kernel)
  · exact Or.inr (by decide +kernel)
  · exact Or.inr (by decide +kernel)
  · exact Or.inr (by decide +kernel)
  · exact Or.inr (by decide +kernel)
  · exact Or.inr (by decide +kernel)
  · exact Or.inr (by decide +kernel)
  · exact Or.inr (by decide +kernel)
  · exact Or.inr (by decide +kernel)
  · exact Or.inr (by decide +kernel)
  · exact Or.inl rfl
theorem ck110 : ∀ pc, b_x_entry pc = [] ∨ chkB (cd 110) 11 110 pc (b_x_entry pc) = true := by
  intro pc
  unfold b_x_entry
  split
  · exact Or.inr (by decide +kernel)
  · exact Or.inr (by decide +kernel)
  · exact Or.inr (by decide +kernel)
  · exact Or.inr (by decide +kernel)
  · exact Or.inr (by decide +kernel)
  · exact Or.inl rfl
theorem ck111 : ∀ pc, b_x_silent pc = [] ∨ chkB (cd 111) 11 111 pc (b_x_silent pc) = true := by
  intro pc
  unfold b_x_silent
  split
  · exact Or.inr (by decide +kernel)
  · exact Or.inr (by decide +kernel)
  · exact Or.inr (by decide +kernel)
  · exact Or.inl rfl
theorem ck112 : ∀ pc, b_x_last pc = [] ∨ chkB (cd 112) 11 112 pc (b_x_last pc) = true := by
  intro pc
  unfold b_x_last
  split
  · exact Or.inr (by decide +kernel)
  · exact Or.inl rfl
theorem ck113 : ∀ pc, b_x_minute pc = [] ∨ chkB (cd 113) 11 113 pc (b_x_minute pc) = true := by
  intro pc
  unfold b_x_minute
  split
  · exact Or.inr (by decide +kernel)
  · exact Or.inr (by decide +kernel)
  · exact Or.inr (by decide +kernel)
  · exact Or.inl rfl
theorem ck114 : ∀ pc, b_x_change pc = [] ∨ chkB (cd 114) 11 114 pc (b_x_change pc) = true := by
  intro pc
  unfold b_x_change
  split
  · exact Or.inr (by decide +kernel)
  · exact Or.inr (by decide +kernel)
  · exact Or.inr (by decide +kernel)
  · exact Or.inl rfl
theorem ck115 : ∀ pc, b_x_wake pc = [] ∨ chkB (cd 115) 11 115 pc (b_x_wake pc) = true := by
  intro pc
  unfold b_x_wake
  split
  · exact Or.inr (by decide +kernel)
  · exact Or.inr (by decide +kernel)
  · exact Or.inr (by decide +kernel)
  · exact Or.inl rfl
theorem ck116 : ∀ pc, b_x_follow pc = [] ∨ chkB (cd 116) 11 116 pc (b_x_follow pc) = true := by
  intro pc
  unfold b_x_follow
  split
  · exact Or.inr (by decide +kernel)
  · exact Or.inr (by decide +kernel)
  · exact Or.inr (by decide +kernel)
  · exact Or.inr (by decide +kernel)
  · exact Or.inl rfl
theorem ck117 : ∀ pc, b_x_hear pc = [] ∨ chkB (cd 117) 11 117 pc (b_x_hear pc) = true := by
  intro pc
  unfold b_x_hear
  split
  · exact Or.inr (by decide +kernel)
  · exact Or.inr (by decide +kernel)
  · exact Or.inr (by decide +kernel)
  · exact Or.inr (by decide +kernel)
  · exact Or.inl rfl
theorem ck118 : ∀ pc, b_x_enter pc = [] ∨ chkB (cd 118) 11 118 pc (b_x_enter pc) = true := by
  intro pc
  unfold b_x_enter
  split
  · exact Or.inr (by decide +kernel)
  · exact Or.inr (by decide +kernel)
  · exact Or.inr (by decide +kernel)
  · exact Or.inr (by decide +kernel)
  · exact Or.inl rfl
theorem ck119 : ∀ pc, b_x_strike pc = [] ∨ chkB (cd 119) 11 119 pc (b_x_strike pc) = true := by
  intro pc
  unfold b_x_strike
  split
  · exact Or.inr (by decide +kernel)
  · exact Or.inr (by decide +kernel)
  · exact Or.inl rfl
theorem ck120 : ∀ pc, b_x_breathe pc = [] ∨ chkB (cd 120) 11 120 pc (b_x_breathe pc) = true := by
  intro pc
  unfold b_x_breathe
  split
  · exact Or.inr (by decide +kernel)
  · exact Or.inr (by decide +kernel)
  · exact Or.inr (by decide +kernel)
  · exact Or.inl rfl
