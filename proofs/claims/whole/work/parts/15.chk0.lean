theorem ck1 : ∀ pc, b_Ahead_in pc = [] ∨ chkB (cd 1) 0 1 pc (b_Ahead_in pc) = true := by
  intro pc
  unfold b_Ahead_in
  split
  · exact Or.inr (by decide +kernel)
  · exact Or.inl rfl
theorem ck2 : ∀ pc, b_Ahead_firstPause pc = [] ∨ chkB (cd 2) 0 2 pc (b_Ahead_firstPause pc) = true := by
  intro pc
  unfold b_Ahead_firstPause
  split
  · exact Or.inr (by decide +kernel)
  · exact Or.inl rfl
theorem ck3 : ∀ pc, b_Ahead_firstPauseOf pc = [] ∨ chkB (cd 3) 0 3 pc (b_Ahead_firstPauseOf pc) = true := by
  intro pc
  unfold b_Ahead_firstPauseOf
  split
  · exact Or.inr (by decide +kernel)
  · exact Or.inr (by decide +kernel)
  · exact Or.inr (by decide +kernel)
  · exact Or.inr (by decide +kernel)
  · exact Or.inl rfl
theorem ck4 : ∀ pc, b_Ahead_suffices pc = [] ∨ chkB (cd 4) 0 4 pc (b_Ahead_suffices pc) = true := by
  intro pc
  unfold b_Ahead_suffices
  split
  · exact Or.inr (by decide +kernel)
  · exact Or.inr (by decide +kernel)
  · exact Or.inr (by decide +kernel)
  · exact Or.inl rfl
theorem ck5 : ∀ pc, b_Ahead_smallest pc = [] ∨ chkB (cd 5) 0 5 pc (b_Ahead_smallest pc) = true := by
  intro pc
  unfold b_Ahead_smallest
  split
  · exact Or.inr (by decide +kernel)
  · exact Or.inr (by decide +kernel)
  · exact Or.inr (by decide +kernel)
  · exact Or.inr (by decide +kernel)
  · exact Or.inr (by decide +kernel)
  · exact Or.inr (by decide +kernel)
  · exact Or.inl rfl
theorem ck6 : ∀ pc, b_Ahead_easiest pc = [] ∨ chkB (cd 6) 0 6 pc (b_Ahead_easiest pc) = true := by
  intro pc
  unfold b_Ahead_easiest
  split
  · exact Or.inr (by decide +kernel)
  · exact Or.inl rfl
theorem ck7 : ∀ pc, b_Ahead_tryMinute pc = [] ∨ chkB (cd 7) 0 7 pc (b_Ahead_tryMinute pc) = true := by
  intro pc
  unfold b_Ahead_tryMinute
  split
  · exact Or.inr (by decide +kernel)
  · exact Or.inr (by decide +kernel)
  · exact Or.inr (by decide +kernel)
  · exact Or.inr (by decide +kernel)
  · exact Or.inr (by decide +kernel)
  · exact Or.inr (by decide +kernel)
  · exact Or.inr (by decide +kernel)
  · exact Or.inr (by decide +kernel)
  · exact Or.inr (by decide +kernel)
  · exact Or.inr (by decide +kernel)
  · exact Or.inr (by decide +kernel)
  · exact Or.inl rfl
theorem ck8 : ∀ pc, b_Ahead_weigh pc = [] ∨ chkB (cd 8) 0 8 pc (b_Ahead_weigh pc) = true := by
  intro pc
  unfold b_Ahead_weigh
  split
  · exact Or.inr (by decide +kernel)
  · exact Or.inr (by decide +kernel)
  · exact Or.inl rfl
theorem ck9 : ∀ pc, b_Ahead_next pc = [] ∨ chkB (cd 9) 0 9 pc (b_Ahead_next pc) = true := by
  intro pc
  unfold b_Ahead_next
  split
  · exact Or.inr (by decide +kernel)
  · exact Or.inl rfl
theorem ck10 : ∀ pc, b_Ahead_ways pc = [] ∨ chkB (cd 10) 0 10 pc (b_Ahead_ways pc) = true := by
  intro pc
  unfold b_Ahead_ways
  split
  · exact Or.inr (by decide +kernel)
  · exact Or.inr (by decide +kernel)
  · exact Or.inr (by decide +kernel)
  · exact Or.inl rfl
theorem ck11 : ∀ pc, b_Ahead_waysFrom pc = [] ∨ chkB (cd 11) 0 11 pc (b_Ahead_waysFrom pc) = true := by
  intro pc
  unfold b_Ahead_waysFrom
  split
  · exact Or.inr (by decide +kernel)
  · exact Or.inr (by decide +kernel)
  · exact Or.inr (by decide +kernel)
  · exact Or.inr (by decide +kernel)
  · exact Or.inr (by decide +kernel)
  · exact Or.inr (by decide +kernel)
  · exact Or.inr (by decide +kernel)
  · exact Or.inr (by decide +kernel)
  · exact Or.inr (by decide +kernel)
  · exact Or.inl rfl
theorem ck12 : ∀ pc, b_Days_clear pc = [] ∨ chkB (cd 12) 1 12 pc (b_Days_clear pc) = true := by
  intro pc
  unfold b_Days_clear
  split
  · exact Or.inr (by decide +kernel)
  · exact Or.inl rfl
theorem ck13 : ∀ pc, b_Days_copy pc = [] ∨ chkB (cd 13) 1 13 pc (b_Days_copy pc) = true := by
  intro pc
  unfold b_Days_copy
  split
  · exact Or.inr (by decide +kernel)
  · exact Or.inl rfl
theorem ck14 : ∀ pc, b_Days_add pc = [] ∨ chkB (cd 14) 1 14 pc (b_Days_add pc) = true := by
  intro pc
  unfold b_Days_add
  split
  · exact Or.inr (by decide +kernel)
  · exact Or.inr (by decide +kernel)
  · exact Or.inl rfl
theorem ck15 : ∀ pc, b_DaysReader_takes pc = [] ∨ chkB (cd 15) 2 15 pc (b_DaysReader_takes pc) = true := by
  intro pc
  unfold b_DaysReader_takes
  split
  · exact Or.inr (by decide +kernel)
  · exact Or.inr (by decide +kernel)
  · exact Or.inr (by decide +kernel)
  · exact Or.inr (by decide +kernel)
  · exact Or.inr (by decide +kernel)
  · exact Or.inr (by decide +kernel)
  · exact Or.inr (by decide +kernel)
  · exact Or.inr (by decide +kernel)
  · exact Or.inr (by decide +kernel)
  · exact Or.inr (by decide +kernel)
  · exact Or.inr (by decide +kernel)
  · exact Or.inl rfl
theorem ck16 : ∀ pc, b_DaysReader_takesEnd pc = [] ∨ chkB (cd 16) 2 16 pc (b_DaysReader_takesEnd pc) = true := by
  intro pc
  unfold b_DaysReader_takesEnd
  split
  · exact Or.inr (by decide +kernel)
  · exact Or.inr (by decide +kernel)
  · exact Or.inr (by decide +kernel)
  · exact Or.inr (by decide +kernel)
  · exact Or.inl rfl
theorem ck17 : ∀ pc, b_DaysReader_takesStep pc = [] ∨ chkB (cd 17) 2 17 pc (b_DaysReader_takesStep pc) = true := by
  intro pc
  unfold b_DaysReader_takesStep
  split
  · exact Or.inr (by decide +kernel)
  · exact Or.inr (by decide +kernel)
  · exact Or.inr (by decide +kernel)
  · exact Or.inr (by decide +kernel)
  · exact Or.inr (by decide +kernel)
  · exact Or.inr (by decide +kernel)
  · exact Or.inr (by decide +kernel)
  · exact Or.inr (by decide +kernel)
  · exact Or.inr (by decide +kernel)
  · exact Or.inr (by decide +kernel)
  · exact Or.inr (by decide +kernel)
  · exact Or.inr (by decide +kernel)
  · exact Or.inr (by decide +kernel)
  · exact Or.inr (by decide +kernel)
  · exact Or.inr (by decide +kernel)
  · exact Or.inl rfl
theorem ck18 : ∀ pc, b_DaysReader_addStep pc = [] ∨ chkB (cd 18) 2 18 pc (b_DaysReader_addStep pc) = true := by
  intro pc
  unfold b_DaysReader_addStep
  split
  · exact Or.inr (by decide +kernel)
  · exact Or.inr (by decide +kernel)
  · exact Or.inr (by decide +kernel)
  · exact Or.inr (by decide +kernel)
  · exact Or.inr (by decide +kernel)
  · exact Or.inr (by decide +kernel)
  · exact Or.inr (by decide +kernel)
  · exact Or.inr (by decide +kernel)
  · exact Or.inr (by decide +kernel)
  · exact Or.inl rfl
theorem ck19 : ∀ pc, b_DaysReader_isStepWord pc = [] ∨ chkB (cd 19) 2 19 pc (b_DaysReader_isStepWord pc) = true := by
  intro pc
  unfold b_DaysReader_isStepWord
  split
  · exact Or.inr (by decide +kernel)
  · exact Or.inr (by decide +kernel)
  · exact Or.inr (by decide +kernel)
  · exact Or.inr (by decide +kernel)
  · exact Or.inl rfl
theorem ck20 : ∀ pc, b_DaysReader_takesTest pc = [] ∨ chkB (cd 20) 2 20 pc (b_DaysReader_takesTest pc) = true := by
  intro pc
  unfold b_DaysReader_takesTest
  split
  · exact Or.inr (by decide +kernel)
  · exact Or.inr (by decide +kernel)
  · exact Or.inr (by decide +kernel)
  · exact Or.inr (by decide +kernel)
  · exact Or.inr (by decide +kernel)
  · exact Or.inr (by decide +kernel)
  · exact Or.inr (by decide +kernel)
  · exact Or.inr (by decide +kernel)
  · exact Or.inl rfl
theorem ck21 : ∀ pc, b_DaysReader_takesMonk pc = [] ∨ chkB (cd 21) 2 21 pc (b_DaysReader_takesMonk pc) = true := by
  intro pc
  unfold b_DaysReader_takesMonk
  split
  · exact Or.inr (by decide +kernel)
  · exact Or.inl rfl
theorem ck22 : ∀ pc, b_DaysReader_takesNumber pc = [] ∨ chkB (cd 22) 2 22 pc (b_DaysReader_takesNumber pc) = true := by
  intro pc
  unfold b_DaysReader_takesNumber
  split
  · exact Or.inr (by decide +kernel)
  · exact Or.inr (by decide +kernel)
  · exact Or.inr (by decide +kernel)
  · exact Or.inl rfl
theorem ck23 : ∀ pc, b_House_clear pc = [] ∨ chkB (cd 23) 3 23 pc (b_House_clear pc) = true := by
  intro pc
  unfold b_House_clear
  split
  · exact Or.inr (by decide +kernel)
  · exact Or.inl rfl
theorem ck24 : ∀ pc, b_House_copy pc = [] ∨ chkB (cd 24) 3 24 pc (b_House_copy pc) = true := by
  intro pc
  unfold b_House_copy
  split
  · exact Or.inr (by decide +kernel)
  · exact Or.inl rfl
theorem ck25 : ∀ pc, b_House_addEntry pc = [] ∨ chkB (cd 25) 3 25 pc (b_House_addEntry pc) = true := by
  intro pc
  unfold b_House_addEntry
  split
  · exact Or.inr (by decide +kernel)
  · exact Or.inr (by decide +kernel)
  · exact Or.inl rfl
theorem ck26 : ∀ pc, b_House_dropEntry pc = [] ∨ chkB (cd 26) 3 26 pc (b_House_dropEntry pc) = true := by
  intro pc
  unfold b_House_dropEntry
  split
  · exact Or.inr (by decide +kernel)
  · exact Or.inr (by decide +kernel)
  · exact Or.inr (by decide +kernel)
  · exact Or.inl rfl
theorem ck27 : ∀ pc, b_House_mayTalk pc = [] ∨ chkB (cd 27) 3 27 pc (b_House_mayTalk pc) = true := by
  intro pc
  unfold b_House_mayTalk
  split
  · exact Or.inr (by decide +kernel)
  · exact Or.inr (by decide +kernel)
  · exact Or.inr (by decide +kernel)
  · exact Or.inl rfl
theorem ck28 : ∀ pc, b_House_open pc = [] ∨ chkB (cd 28) 3 28 pc (b_House_open pc) = true := by
  intro pc
  unfold b_House_open
  split
  · exact Or.inr (by decide +kernel)
  · exact Or.inr (by decide +kernel)
  · exact Or.inr (by decide +kernel)
  · exact Or.inl rfl
theorem ck29 : ∀ pc, b_House_canSay pc = [] ∨ chkB (cd 29) 3 29 pc (b_House_canSay pc) = true := by
  intro pc
  unfold b_House_canSay
  split
  · exact Or.inr (by decide +kernel)
  · exact Or.inr (by decide +kernel)
  · exact Or.inr (by decide +kernel)
  · exact Or.inl rfl
theorem ck30 : ∀ pc, b_House_sayable pc = [] ∨ chkB (cd 30) 3 30 pc (b_House_sayable pc) = true := by
  intro pc
  unfold b_House_sayable
  split
  · exact Or.inr (by decide +kernel)
  · exact Or.inr (by decide +kernel)
  · exact Or.inr (by decide +kernel)
  · exact Or.inl rfl
theorem ck31 : ∀ pc, b_House_speech pc = [] ∨ chkB (cd 31) 3 31 pc (b_House_speech pc) = true := by
  intro pc
  unfold b_House_speech
  split
  · exact Or.inr (by decide +kernel)
  · exact Or.inr (by decide +kernel)
  · exact Or.inr (by decide +kernel)
  · exact Or.inl rfl
theorem ck32 : ∀ pc, b_House_rosteredSpeech pc = [] ∨ chkB (cd 32) 3 32 pc (b_House_rosteredSpeech pc) = true := by
  intro pc
  unfold b_House_rosteredSpeech
  split
  · exact Or.inr (by decide +kernel)
  · exact Or.inr (by decide +kernel)
  · exact Or.inr (by decide +kernel)
  · exact Or.inr (by decide +kernel)
  · exact Or.inl rfl
theorem ck33 : ∀ pc, b_House_helpingSpeech pc = [] ∨ chkB (cd 33) 3 33 pc (b_House_helpingSpeech pc) = true := by
  intro pc
  unfold b_House_helpingSpeech
  split
  · exact Or.inr (by decide +kernel)
  · exact Or.inr (by decide +kernel)
  · exact Or.inr (by decide +kernel)
  · exact Or.inr (by decide +kernel)
  · exact Or.inr (by decide +kernel)
  · exact Or.inr (by decide +kernel)
  · exact Or.inl rfl
theorem ck34 : ∀ pc, b_House_pass pc = [] ∨ chkB (cd 34) 3 34 pc (b_House_pass pc) = true := by
  intro pc
  unfold b_House_pass
  split
  · exact Or.inr (by decide +kernel)
  · exact Or.inr (by decide +kernel)
  · exact Or.inr (by decide +kernel)
  · exact Or.inl rfl
theorem ck35 : ∀ pc, b_House_passOne pc = [] ∨ chkB (cd 35) 3 35 pc (b_House_passOne pc) = true := by
  intro pc
  unfold b_House_passOne
  split
  · exact Or.inr (by decide +kernel)
  · exact Or.inr (by decide +kernel)
  · exact Or.inr (by decide +kernel)
  · exact Or.inr (by decide +kernel)
  · exact Or.inr (by decide +kernel)
  · exact Or.inl rfl
theorem ck36 : ∀ pc, b_House_goBy pc = [] ∨ chkB (cd 36) 3 36 pc (b_House_goBy pc) = true := by
  intro pc
  unfold b_House_goBy
  split
  · exact Or.inr (by decide +kernel)
  · exact Or.inr (by decide +kernel)
  · exact Or.inr (by decide +kernel)
  · exact Or.inr (by decide +kernel)
  · exact Or.inr (by decide +kernel)
  · exact Or.inr (by decide +kernel)
  · exact Or.inr (by decide +kernel)
  · exact Or.inl rfl
theorem ck37 : ∀ pc, b_House_untilSilent pc = [] ∨ chkB (cd 37) 3 37 pc (b_House_untilSilent pc) = true := by
  intro pc
  unfold b_House_untilSilent
  split
  · exact Or.inr (by decide +kernel)
  · exact Or.inr (by decide +kernel)
  · exact Or.inr (by decide +kernel)
  · exact Or.inl rfl
theorem ck38 : ∀ pc, b_HouseReader_takes pc = [] ∨ chkB (cd 38) 4 38 pc (b_HouseReader_takes pc) = true := by
  intro pc
  unfold b_HouseReader_takes
  split
  · exact Or.inr (by decide +kernel)
  · exact Or.inr (by decide +kernel)
  · exact Or.inr (by decide +kernel)
  · exact Or.inr (by decide +kernel)
  · exact Or.inl rfl
theorem ck39 : ∀ pc, b_HouseReader_takesPart pc = [] ∨ chkB (cd 39) 4 39 pc (b_HouseReader_takesPart pc) = true := by
  intro pc
  unfold b_HouseReader_takesPart
  split
  · exact Or.inr (by decide +kernel)
  · exact Or.inr (by decide +kernel)
  · exact Or.inr (by decide +kernel)
  · exact Or.inr (by decide +kernel)
  · exact Or.inr (by decide +kernel)
  · exact Or.inr (by decide +kernel)
  · exact Or.inr (by decide +kernel)
  · exact Or.inr (by decide +kernel)
  · exact Or.inr (by decide +kernel)
  · exact Or.inl rfl
theorem ck40 : ∀ pc, b_HouseReader_takesTurn pc = [] ∨ chkB (cd 40) 4 40 pc (b_HouseReader_takesTurn pc) = true := by
  intro pc
  unfold b_HouseReader_takesTurn
  split
  · exact Or.inr (by decide +kernel)
  · exact Or.inr (by decide +kernel)
  · exact Or.inr (by decide +kernel)
  · exact Or.inl rfl
theorem ck41 : ∀ pc, b_HouseReader_takesOdds pc = [] ∨ chkB (cd 41) 4 41 pc (b_HouseReader_takesOdds pc) = true := by
  intro pc
  unfold b_HouseReader_takesOdds
  split
  · exact Or.inr (by decide +kernel)
  · exact Or.inr (by decide +kernel)
  · exact Or.inr (by decide +kernel)
  · exact Or.inl rfl
theorem ck42 : ∀ pc, b_HouseReader_takesTopic pc = [] ∨ chkB (cd 42) 4 42 pc (b_HouseReader_takesTopic pc) = true := by
  intro pc
  unfold b_HouseReader_takesTopic
  split
  · exact Or.inr (by decide +kernel)
  · exact Or.inr (by decide +kernel)
  · exact Or.inr (by decide +kernel)
  · exact Or.inr (by decide +kernel)
  · exact Or.inr (by decide +kernel)
  · exact Or.inl rfl
theorem ck43 : ∀ pc, b_HouseReader_takesMonk pc = [] ∨ chkB (cd 43) 4 43 pc (b_HouseReader_takesMonk pc) = true := by
  intro pc
  unfold b_HouseReader_takesMonk
  split
  · exact Or.inr (by decide +kernel)
  · exact Or.inr (by decide +kernel)
  · exact Or.inr (by decide +kernel)
  · exact Or.inr (by decide +kernel)
  · exact Or.inr (by decide +kernel)
  · exact Or.inr (by decide +kernel)
  · exact Or.inr (by decide +kernel)
  · exact Or.inr (by decide +kernel)
  · exact Or.inr (by decide +kernel)
  · exact Or.inr (by decide +kernel)
  · exact Or.inr (by decide +kernel)
  · exact Or.inr (by decide +kernel)
  · exact Or.inl rfl
theorem ck44 : ∀ pc, b_HouseReader_takeNewName pc = [] ∨ chkB (cd 44) 4 44 pc (b_HouseReader_takeNewName pc) = true := by
  intro pc
  unfold b_HouseReader_takeNewName
  split
  · exact Or.inr (by decide +kernel)
  · exact Or.inr (by decide +kernel)
  · exact Or.inr (by decide +kernel)
  · exact Or.inr (by decide +kernel)
  · exact Or.inl rfl
theorem ck45 : ∀ pc, b_HouseReader_takesFollows pc = [] ∨ chkB (cd 45) 4 45 pc (b_HouseReader_takesFollows pc) = true := by
  intro pc
  unfold b_HouseReader_takesFollows
  split
  · exact Or.inr (by decide +kernel)
  · exact Or.inr (by decide +kernel)
  · exact Or.inr (by decide +kernel)
  · exact Or.inl rfl
theorem ck46 : ∀ pc, b_HouseReader_takesRoster pc = [] ∨ chkB (cd 46) 4 46 pc (b_HouseReader_takesRoster pc) = true := by
  intro pc
  unfold b_HouseReader_takesRoster
  split
  · exact Or.inr (by decide +kernel)
  · exact Or.inr (by decide +kernel)
  · exact Or.inr (by decide +kernel)
  · exact Or.inr (by decide +kernel)
  · exact Or.inl rfl
theorem ck47 : ∀ pc, b_HouseReader_takesHears pc = [] ∨ chkB (cd 47) 4 47 pc (b_HouseReader_takesHears pc) = true := by
  intro pc
  unfold b_HouseReader_takesHears
  split
  · exact Or.inr (by decide +kernel)
  · exact Or.inr (by decide +kernel)
  · exact Or.inr (by decide +kernel)
  · exact Or.inr (by decide +kernel)
  · exact Or.inl rfl
theorem ck48 : ∀ pc, b_Life_run pc = [] ∨ chkB (cd 48) 5 48 pc (b_Life_run pc) = true := by
  intro pc
  unfold b_Life_run
  split
  · exact Or.inr (by decide +kernel)
  · exact Or.inr (by decide +kernel)
  · exact Or.inr (by decide +kernel)
  · exact Or.inr (by decide +kernel)
  · exact Or.inr (by decide +kernel)
  · exact Or.inr (by decide +kernel)
  · exact Or.inl rfl
theorem ck49 : ∀ pc, b_Life_behindEnd pc = [] ∨ chkB (cd 49) 5 49 pc (b_Life_behindEnd pc) = true := by
  intro pc
  unfold b_Life_behindEnd
  split
  · exact Or.inr (by decide +kernel)
  · exact Or.inr (by decide +kernel)
  · exact Or.inr (by decide +kernel)
  · exact Or.inr (by decide +kernel)
  · exact Or.inr (by decide +kernel)
  · exact Or.inl rfl
theorem ck50 : ∀ pc, b_Life_behindStep pc = [] ∨ chkB (cd 50) 5 50 pc (b_Life_behindStep pc) = true := by
  intro pc
  unfold b_Life_behindStep
  split
  · exact Or.inr (by decide +kernel)
  · exact Or.inr (by decide +kernel)
  · exact Or.inr (by decide +kernel)
  · exact Or.inr (by decide +kernel)
  · exact Or.inr (by decide +kernel)
  · exact Or.inr (by decide +kernel)
  · exact Or.inr (by decide +kernel)
  · exact Or.inr (by decide +kernel)
  · exact Or.inr (by decide +kernel)
  · exact Or.inr (by decide +kernel)
  · exact Or.inr (by decide +kernel)
  · exact Or.inr (by decide +kernel)
  · exact Or.inr (by decide +kernel)
  · exact Or.inr (by decide +kernel)
  · exact Or.inr (by decide +kernel)
  · exact Or.inr (by decide +kernel)
  · exact Or.inr (by decide +kernel)
  · exact Or.inr (by decide +kernel)
  · exact Or.inr (by decide +kernel)
  · exact Or.inr (by decide +kernel)
  · exact Or.inr (by decide +kernel)
  · exact Or.inr (by decide +kernel)
  · exact Or.inl rfl
theorem ck51 : ∀ pc, b_Life_miss pc = [] ∨ chkB (cd 51) 5 51 pc (b_Life_miss pc) = true := by
  intro pc
  unfold b_Life_miss
  split
  · exact Or.inr (by decide +kernel)
  · exact Or.inl rfl
theorem ck52 : ∀ pc, b_Life_coughed pc = [] ∨ chkB (cd 52) 5 52 pc (b_Life_coughed pc) = true := by
  intro pc
  unfold b_Life_coughed
  split
  · exact Or.inr (by decide +kernel)
  · exact Or.inr (by decide +kernel)
  · exact Or.inl rfl
theorem ck53 : ∀ pc, b_Life_draw pc = [] ∨ chkB (cd 53) 5 53 pc (b_Life_draw pc) = true := by
  intro pc
  unfold b_Life_draw
  split
  · exact Or.inr (by decide +kernel)
  · exact Or.inr (by decide +kernel)
  · exact Or.inr (by decide +kernel)
  · exact Or.inl rfl
theorem ck54 : ∀ pc, b_Life_holds pc = [] ∨ chkB (cd 54) 5 54 pc (b_Life_holds pc) = true := by
  intro pc
  unfold b_Life_holds
  split
  · exact Or.inr (by decide +kernel)
  · exact Or.inr (by decide +kernel)
  · exact Or.inr (by decide +kernel)
  · exact Or.inr (by decide +kernel)
  · exact Or.inr (by decide +kernel)
  · exact Or.inr (by decide +kernel)
  · exact Or.inr (by decide +kernel)
  · exact Or.inr (by decide +kernel)
  · exact Or.inr (by decide +kernel)
  · exact Or.inl rfl
theorem ck55 : ∀ pc, b_Life_compares pc = [] ∨ chkB (cd 55) 5 55 pc (b_Life_compares pc) = true := by
  intro pc
  unfold b_Life_compares
  split
  · exact Or.inr (by decide +kernel)
  · exact Or.inr (by decide +kernel)
  · exact Or.inr (by decide +kernel)
  · exact Or.inr (by decide +kernel)
  · exact Or.inr (by decide +kernel)
  · exact Or.inr (by decide +kernel)
  · exact Or.inr (by decide +kernel)
  · exact Or.inr (by decide +kernel)
  · exact Or.inr (by decide +kernel)
  · exact Or.inr (by decide +kernel)
  · exact Or.inl rfl
theorem ck56 : ∀ pc, b_Monks_clear pc = [] ∨ chkB (cd 56) 6 56 pc (b_Monks_clear pc) = true := by
  intro pc
  unfold b_Monks_clear
  split
  · exact Or.inr (by decide +kernel)
  · exact Or.inl rfl
theorem ck57 : ∀ pc, b_Monks_copy pc = [] ∨ chkB (cd 57) 6 57 pc (b_Monks_copy pc) = true := by
  intro pc
  unfold b_Monks_copy
  split
  · exact Or.inr (by decide +kernel)
  · exact Or.inl rfl
theorem ck58 : ∀ pc, b_Monks_add pc = [] ∨ chkB (cd 58) 6 58 pc (b_Monks_add pc) = true := by
  intro pc
  unfold b_Monks_add
  split
  · exact Or.inr (by decide +kernel)
  · exact Or.inr (by decide +kernel)
  · exact Or.inl rfl
theorem ck59 : ∀ pc, b_Monks_find pc = [] ∨ chkB (cd 59) 6 59 pc (b_Monks_find pc) = true := by
  intro pc
  unfold b_Monks_find
  split
  · exact Or.inr (by decide +kernel)
  · exact Or.inr (by decide +kernel)
  · exact Or.inr (by decide +kernel)
  · exact Or.inr (by decide +kernel)
  · exact Or.inl rfl
theorem ck60 : ∀ pc, b_Monks_isAwake pc = [] ∨ chkB (cd 60) 6 60 pc (b_Monks_isAwake pc) = true := by
  intro pc
  unfold b_Monks_isAwake
  split
  · exact Or.inr (by decide +kernel)
  · exact Or.inl rfl
