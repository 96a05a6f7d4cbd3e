theorem ck181 : ∀ pc, b_m_status pc = [] ∨ chkB (cd 181) 12 181 pc (b_m_status pc) = true := by
  intro pc
  unfold b_m_status
  split
  · exact Or.inr (by decide +kernel)
  · exact Or.inl rfl
theorem ck182 : ∀ pc, b_m_top pc = [] ∨ chkB (cd 182) 12 182 pc (b_m_top pc) = true := by
  intro pc
  unfold b_m_top
  split
  · exact Or.inr (by decide +kernel)
  · exact Or.inl rfl
theorem ck183 : ∀ pc, b_m_bottom pc = [] ∨ chkB (cd 183) 12 183 pc (b_m_bottom pc) = true := by
  intro pc
  unfold b_m_bottom
  split
  · exact Or.inr (by decide +kernel)
  · exact Or.inl rfl
theorem ck184 : ∀ pc, b_m_is pc = [] ∨ chkB (cd 184) 12 184 pc (b_m_is pc) = true := by
  intro pc
  unfold b_m_is
  split
  · exact Or.inr (by decide +kernel)
  · exact Or.inr (by decide +kernel)
  · exact Or.inr (by decide +kernel)
  · exact Or.inl rfl
theorem ck185 : ∀ pc, b_m_refuse pc = [] ∨ chkB (cd 185) 12 185 pc (b_m_refuse pc) = true := by
  intro pc
  unfold b_m_refuse
  split
  · exact Or.inr (by decide +kernel)
  · exact Or.inl rfl
theorem ck186 : ∀ pc, b_m_gives pc = [] ∨ chkB (cd 186) 12 186 pc (b_m_gives pc) = true := by
  intro pc
  unfold b_m_gives
  split
  · exact Or.inr (by decide +kernel)
  · exact Or.inl rfl
theorem ck187 : ∀ pc, b_m_orNone pc = [] ∨ chkB (cd 187) 12 187 pc (b_m_orNone pc) = true := by
  intro pc
  unfold b_m_orNone
  split
  · exact Or.inr (by decide +kernel)
  · exact Or.inr (by decide +kernel)
  · exact Or.inr (by decide +kernel)
  · exact Or.inl rfl
theorem ck188 : ∀ pc, b_m_tellsBy pc = [] ∨ chkB (cd 188) 12 188 pc (b_m_tellsBy pc) = true := by
  intro pc
  unfold b_m_tellsBy
  split
  · exact Or.inr (by decide +kernel)
  · exact Or.inr (by decide +kernel)
  · exact Or.inr (by decide +kernel)
  · exact Or.inl rfl
theorem ck189 : ∀ pc, b_m_isTray pc = [] ∨ chkB (cd 189) 12 189 pc (b_m_isTray pc) = true := by
  intro pc
  unfold b_m_isTray
  split
  · exact Or.inr (by decide +kernel)
  · exact Or.inr (by decide +kernel)
  · exact Or.inr (by decide +kernel)
  · exact Or.inl rfl
theorem ck190 : ∀ pc, b_m_cut pc = [] ∨ chkB (cd 190) 12 190 pc (b_m_cut pc) = true := by
  intro pc
  unfold b_m_cut
  split
  · exact Or.inr (by decide +kernel)
  · exact Or.inr (by decide +kernel)
  · exact Or.inr (by decide +kernel)
  · exact Or.inr (by decide +kernel)
  · exact Or.inr (by decide +kernel)
  · exact Or.inl rfl
theorem ck191 : ∀ pc, b_m_tray pc = [] ∨ chkB (cd 191) 12 191 pc (b_m_tray pc) = true := by
  intro pc
  unfold b_m_tray
  split
  · exact Or.inr (by decide +kernel)
  · exact Or.inr (by decide +kernel)
  · exact Or.inr (by decide +kernel)
  · exact Or.inr (by decide +kernel)
  · exact Or.inr (by decide +kernel)
  · exact Or.inl rfl
theorem ck192 : ∀ pc, b_m_wrongPlace pc = [] ∨ chkB (cd 192) 12 192 pc (b_m_wrongPlace pc) = true := by
  intro pc
  unfold b_m_wrongPlace
  split
  · exact Or.inr (by decide +kernel)
  · exact Or.inr (by decide +kernel)
  · exact Or.inr (by decide +kernel)
  · exact Or.inr (by decide +kernel)
  · exact Or.inr (by decide +kernel)
  · exact Or.inr (by decide +kernel)
  · exact Or.inl rfl
theorem ck193 : ∀ pc, b_m_write pc = [] ∨ chkB (cd 193) 12 193 pc (b_m_write pc) = true := by
  intro pc
  unfold b_m_write
  split
  · exact Or.inr (by decide +kernel)
  · exact Or.inr (by decide +kernel)
  · exact Or.inl rfl
theorem ck194 : ∀ pc, b_m_read pc = [] ∨ chkB (cd 194) 12 194 pc (b_m_read pc) = true := by
  intro pc
  unfold b_m_read
  split
  · exact Or.inr (by decide +kernel)
  · exact Or.inr (by decide +kernel)
  · exact Or.inr (by decide +kernel)
  · exact Or.inl rfl
theorem ck195 : ∀ pc, b_m_pour pc = [] ∨ chkB (cd 195) 12 195 pc (b_m_pour pc) = true := by
  intro pc
  unfold b_m_pour
  split
  · exact Or.inr (by decide +kernel)
  · exact Or.inr (by decide +kernel)
  · exact Or.inr (by decide +kernel)
  · exact Or.inr (by decide +kernel)
  · exact Or.inr (by decide +kernel)
  · exact Or.inr (by decide +kernel)
  · exact Or.inr (by decide +kernel)
  · exact Or.inr (by decide +kernel)
  · exact Or.inr (by decide +kernel)
  · exact Or.inr (by decide +kernel)
  · exact Or.inr (by decide +kernel)
  · exact Or.inr (by decide +kernel)
  · exact Or.inl rfl
theorem ck196 : ∀ pc, b_m_isFrom pc = [] ∨ chkB (cd 196) 12 196 pc (b_m_isFrom pc) = true := by
  intro pc
  unfold b_m_isFrom
  split
  · exact Or.inr (by decide +kernel)
  · exact Or.inr (by decide +kernel)
  · exact Or.inr (by decide +kernel)
  · exact Or.inl rfl
theorem ck197 : ∀ pc, b_m_feed pc = [] ∨ chkB (cd 197) 12 197 pc (b_m_feed pc) = true := by
  intro pc
  unfold b_m_feed
  split
  · exact Or.inr (by decide +kernel)
  · exact Or.inr (by decide +kernel)
  · exact Or.inl rfl
theorem ck198 : ∀ pc, b_m_four pc = [] ∨ chkB (cd 198) 12 198 pc (b_m_four pc) = true := by
  intro pc
  unfold b_m_four
  split
  · exact Or.inr (by decide +kernel)
  · exact Or.inr (by decide +kernel)
  · exact Or.inr (by decide +kernel)
  · exact Or.inl rfl
theorem ck199 : ∀ pc, b_m_byteAt pc = [] ∨ chkB (cd 199) 12 199 pc (b_m_byteAt pc) = true := by
  intro pc
  unfold b_m_byteAt
  split
  · exact Or.inr (by decide +kernel)
  · exact Or.inr (by decide +kernel)
  · exact Or.inr (by decide +kernel)
  · exact Or.inl rfl
theorem ck200 : ∀ pc, b_m_isSmall pc = [] ∨ chkB (cd 200) 12 200 pc (b_m_isSmall pc) = true := by
  intro pc
  unfold b_m_isSmall
  split
  · exact Or.inr (by decide +kernel)
  · exact Or.inr (by decide +kernel)
  · exact Or.inr (by decide +kernel)
  · exact Or.inl rfl
theorem ck201 : ∀ pc, b_m_isDigit pc = [] ∨ chkB (cd 201) 12 201 pc (b_m_isDigit pc) = true := by
  intro pc
  unfold b_m_isDigit
  split
  · exact Or.inr (by decide +kernel)
  · exact Or.inr (by decide +kernel)
  · exact Or.inr (by decide +kernel)
  · exact Or.inl rfl
theorem ck202 : ∀ pc, b_m_ahead pc = [] ∨ chkB (cd 202) 12 202 pc (b_m_ahead pc) = true := by
  intro pc
  unfold b_m_ahead
  split
  · exact Or.inr (by decide +kernel)
  · exact Or.inr (by decide +kernel)
  · exact Or.inr (by decide +kernel)
  · exact Or.inr (by decide +kernel)
  · exact Or.inr (by decide +kernel)
  · exact Or.inr (by decide +kernel)
  · exact Or.inr (by decide +kernel)
  · exact Or.inr (by decide +kernel)
  · exact Or.inr (by decide +kernel)
  · exact Or.inr (by decide +kernel)
  · exact Or.inr (by decide +kernel)
  · exact Or.inr (by decide +kernel)
  · exact Or.inr (by decide +kernel)
  · exact Or.inr (by decide +kernel)
  · exact Or.inr (by decide +kernel)
  · exact Or.inr (by decide +kernel)
  · exact Or.inl rfl
theorem ck203 : ∀ pc, b_m_isSign pc = [] ∨ chkB (cd 203) 12 203 pc (b_m_isSign pc) = true := by
  intro pc
  unfold b_m_isSign
  split
  · exact Or.inr (by decide +kernel)
  · exact Or.inr (by decide +kernel)
  · exact Or.inr (by decide +kernel)
  · exact Or.inl rfl
theorem ck204 : ∀ pc, b_m_inWords pc = [] ∨ chkB (cd 204) 12 204 pc (b_m_inWords pc) = true := by
  intro pc
  unfold b_m_inWords
  split
  · exact Or.inr (by decide +kernel)
  · exact Or.inr (by decide +kernel)
  · exact Or.inr (by decide +kernel)
  · exact Or.inr (by decide +kernel)
  · exact Or.inr (by decide +kernel)
  · exact Or.inr (by decide +kernel)
  · exact Or.inr (by decide +kernel)
  · exact Or.inr (by decide +kernel)
  · exact Or.inr (by decide +kernel)
  · exact Or.inr (by decide +kernel)
  · exact Or.inr (by decide +kernel)
  · exact Or.inr (by decide +kernel)
  · exact Or.inr (by decide +kernel)
  · exact Or.inl rfl
theorem ck205 : ∀ pc, b_m_fails pc = [] ∨ chkB (cd 205) 12 205 pc (b_m_fails pc) = true := by
  intro pc
  unfold b_m_fails
  split
  · exact Or.inr (by decide +kernel)
  · exact Or.inr (by decide +kernel)
  · exact Or.inr (by decide +kernel)
  · exact Or.inr (by decide +kernel)
  · exact Or.inl rfl
theorem ck206 : ∀ pc, b_m_begins pc = [] ∨ chkB (cd 206) 12 206 pc (b_m_begins pc) = true := by
  intro pc
  unfold b_m_begins
  split
  · exact Or.inr (by decide +kernel)
  · exact Or.inr (by decide +kernel)
  · exact Or.inr (by decide +kernel)
  · exact Or.inr (by decide +kernel)
  · exact Or.inr (by decide +kernel)
  · exact Or.inl rfl
theorem ck207 : ∀ pc, b_m_wantSign pc = [] ∨ chkB (cd 207) 12 207 pc (b_m_wantSign pc) = true := by
  intro pc
  unfold b_m_wantSign
  split
  · exact Or.inr (by decide +kernel)
  · exact Or.inr (by decide +kernel)
  · exact Or.inl rfl
theorem ck208 : ∀ pc, b_m_wantWord pc = [] ∨ chkB (cd 208) 12 208 pc (b_m_wantWord pc) = true := by
  intro pc
  unfold b_m_wantWord
  split
  · exact Or.inr (by decide +kernel)
  · exact Or.inr (by decide +kernel)
  · exact Or.inl rfl
theorem ck209 : ∀ pc, b_m_number pc = [] ∨ chkB (cd 209) 12 209 pc (b_m_number pc) = true := by
  intro pc
  unfold b_m_number
  split
  · exact Or.inr (by decide +kernel)
  · exact Or.inr (by decide +kernel)
  · exact Or.inr (by decide +kernel)
  · exact Or.inr (by decide +kernel)
  · exact Or.inl rfl
theorem ck210 : ∀ pc, b_m_isName pc = [] ∨ chkB (cd 210) 12 210 pc (b_m_isName pc) = true := by
  intro pc
  unfold b_m_isName
  split
  · exact Or.inr (by decide +kernel)
  · exact Or.inr (by decide +kernel)
  · exact Or.inr (by decide +kernel)
  · exact Or.inl rfl
theorem ck211 : ∀ pc, b_m_nameHere pc = [] ∨ chkB (cd 211) 12 211 pc (b_m_nameHere pc) = true := by
  intro pc
  unfold b_m_nameHere
  split
  · exact Or.inr (by decide +kernel)
  · exact Or.inr (by decide +kernel)
  · exact Or.inr (by decide +kernel)
  · exact Or.inl rfl
theorem ck212 : ∀ pc, b_m_findHere pc = [] ∨ chkB (cd 212) 12 212 pc (b_m_findHere pc) = true := by
  intro pc
  unfold b_m_findHere
  split
  · exact Or.inr (by decide +kernel)
  · exact Or.inr (by decide +kernel)
  · exact Or.inr (by decide +kernel)
  · exact Or.inr (by decide +kernel)
  · exact Or.inl rfl
theorem ck213 : ∀ pc, b_m_fault pc = [] ∨ chkB (cd 213) 12 213 pc (b_m_fault pc) = true := by
  intro pc
  unfold b_m_fault
  split
  · exact Or.inr (by decide +kernel)
  · exact Or.inr (by decide +kernel)
  · exact Or.inr (by decide +kernel)
  · exact Or.inr (by decide +kernel)
  · exact Or.inl rfl
theorem ck214 : ∀ pc, b_m_taken pc = [] ∨ chkB (cd 214) 12 214 pc (b_m_taken pc) = true := by
  intro pc
  unfold b_m_taken
  split
  · exact Or.inr (by decide +kernel)
  · exact Or.inr (by decide +kernel)
  · exact Or.inr (by decide +kernel)
  · exact Or.inl rfl
theorem ck215 : ∀ pc, b_m_isThere pc = [] ∨ chkB (cd 215) 12 215 pc (b_m_isThere pc) = true := by
  intro pc
  unfold b_m_isThere
  split
  · exact Or.inr (by decide +kernel)
  · exact Or.inr (by decide +kernel)
  · exact Or.inl rfl
theorem ck216 : ∀ pc, b_m_newOne pc = [] ∨ chkB (cd 216) 12 216 pc (b_m_newOne pc) = true := by
  intro pc
  unfold b_m_newOne
  split
  · exact Or.inr (by decide +kernel)
  · exact Or.inr (by decide +kernel)
  · exact Or.inr (by decide +kernel)
  · exact Or.inr (by decide +kernel)
  · exact Or.inr (by decide +kernel)
  · exact Or.inl rfl
theorem ck217 : ∀ pc, b_m_oldOne pc = [] ∨ chkB (cd 217) 12 217 pc (b_m_oldOne pc) = true := by
  intro pc
  unfold b_m_oldOne
  split
  · exact Or.inr (by decide +kernel)
  · exact Or.inr (by decide +kernel)
  · exact Or.inr (by decide +kernel)
  · exact Or.inl rfl
theorem ck218 : ∀ pc, b_m_newTopicTo pc = [] ∨ chkB (cd 218) 12 218 pc (b_m_newTopicTo pc) = true := by
  intro pc
  unfold b_m_newTopicTo
  split
  · exact Or.inr (by decide +kernel)
  · exact Or.inl rfl
theorem ck219 : ∀ pc, b_m_newMonkTo pc = [] ∨ chkB (cd 219) 12 219 pc (b_m_newMonkTo pc) = true := by
  intro pc
  unfold b_m_newMonkTo
  split
  · exact Or.inr (by decide +kernel)
  · exact Or.inl rfl
theorem ck220 : ∀ pc, b_m_aTopic pc = [] ∨ chkB (cd 220) 12 220 pc (b_m_aTopic pc) = true := by
  intro pc
  unfold b_m_aTopic
  split
  · exact Or.inr (by decide +kernel)
  · exact Or.inr (by decide +kernel)
  · exact Or.inr (by decide +kernel)
  · exact Or.inl rfl
theorem ck221 : ∀ pc, b_m_aMonk pc = [] ∨ chkB (cd 221) 12 221 pc (b_m_aMonk pc) = true := by
  intro pc
  unfold b_m_aMonk
  split
  · exact Or.inr (by decide +kernel)
  · exact Or.inr (by decide +kernel)
  · exact Or.inr (by decide +kernel)
  · exact Or.inr (by decide +kernel)
  · exact Or.inr (by decide +kernel)
  · exact Or.inr (by decide +kernel)
  · exact Or.inl rfl
theorem ck222 : ∀ pc, b_m_aFollowing pc = [] ∨ chkB (cd 222) 12 222 pc (b_m_aFollowing pc) = true := by
  intro pc
  unfold b_m_aFollowing
  split
  · exact Or.inr (by decide +kernel)
  · exact Or.inr (by decide +kernel)
  · exact Or.inr (by decide +kernel)
  · exact Or.inl rfl
theorem ck223 : ∀ pc, b_m_anEntry pc = [] ∨ chkB (cd 223) 12 223 pc (b_m_anEntry pc) = true := by
  intro pc
  unfold b_m_anEntry
  split
  · exact Or.inr (by decide +kernel)
  · exact Or.inr (by decide +kernel)
  · exact Or.inr (by decide +kernel)
  · exact Or.inr (by decide +kernel)
  · exact Or.inl rfl
theorem ck224 : ∀ pc, b_m_aHearing pc = [] ∨ chkB (cd 224) 12 224 pc (b_m_aHearing pc) = true := by
  intro pc
  unfold b_m_aHearing
  split
  · exact Or.inr (by decide +kernel)
  · exact Or.inr (by decide +kernel)
  · exact Or.inr (by decide +kernel)
  · exact Or.inr (by decide +kernel)
  · exact Or.inl rfl
theorem ck225 : ∀ pc, b_m_housePart pc = [] ∨ chkB (cd 225) 12 225 pc (b_m_housePart pc) = true := by
  intro pc
  unfold b_m_housePart
  split
  · exact Or.inr (by decide +kernel)
  · exact Or.inr (by decide +kernel)
  · exact Or.inr (by decide +kernel)
  · exact Or.inr (by decide +kernel)
  · exact Or.inr (by decide +kernel)
  · exact Or.inr (by decide +kernel)
  · exact Or.inr (by decide +kernel)
  · exact Or.inr (by decide +kernel)
  · exact Or.inr (by decide +kernel)
  · exact Or.inr (by decide +kernel)
  · exact Or.inr (by decide +kernel)
  · exact Or.inr (by decide +kernel)
  · exact Or.inr (by decide +kernel)
  · exact Or.inr (by decide +kernel)
  · exact Or.inr (by decide +kernel)
  · exact Or.inl rfl
theorem ck226 : ∀ pc, b_m_house pc = [] ∨ chkB (cd 226) 12 226 pc (b_m_house pc) = true := by
  intro pc
  unfold b_m_house
  split
  · exact Or.inr (by decide +kernel)
  · exact Or.inr (by decide +kernel)
  · exact Or.inr (by decide +kernel)
  · exact Or.inr (by decide +kernel)
  · exact Or.inr (by decide +kernel)
  · exact Or.inr (by decide +kernel)
  · exact Or.inr (by decide +kernel)
  · exact Or.inr (by decide +kernel)
  · exact Or.inl rfl
theorem ck227 : ∀ pc, b_m_monkTo pc = [] ∨ chkB (cd 227) 12 227 pc (b_m_monkTo pc) = true := by
  intro pc
  unfold b_m_monkTo
  split
  · exact Or.inr (by decide +kernel)
  · exact Or.inl rfl
theorem ck228 : ∀ pc, b_m_test pc = [] ∨ chkB (cd 228) 12 228 pc (b_m_test pc) = true := by
  intro pc
  unfold b_m_test
  split
  · exact Or.inr (by decide +kernel)
  · exact Or.inr (by decide +kernel)
  · exact Or.inr (by decide +kernel)
  · exact Or.inr (by decide +kernel)
  · exact Or.inr (by decide +kernel)
  · exact Or.inr (by decide +kernel)
  · exact Or.inr (by decide +kernel)
  · exact Or.inr (by decide +kernel)
  · exact Or.inl rfl
theorem ck229 : ∀ pc, b_m_dayOrder pc = [] ∨ chkB (cd 229) 12 229 pc (b_m_dayOrder pc) = true := by
  intro pc
  unfold b_m_dayOrder
  split
  · exact Or.inr (by decide +kernel)
  · exact Or.inr (by decide +kernel)
  · exact Or.inr (by decide +kernel)
  · exact Or.inr (by decide +kernel)
  · exact Or.inr (by decide +kernel)
  · exact Or.inr (by decide +kernel)
  · exact Or.inl rfl
theorem ck230 : ∀ pc, b_m_dayStep pc = [] ∨ chkB (cd 230) 12 230 pc (b_m_dayStep pc) = true := by
  intro pc
  unfold b_m_dayStep
  split
  · exact Or.inr (by decide +kernel)
  · exact Or.inr (by decide +kernel)
  · exact Or.inr (by decide +kernel)
  · exact Or.inr (by decide +kernel)
  · exact Or.inr (by decide +kernel)
  · exact Or.inr (by decide +kernel)
  · exact Or.inr (by decide +kernel)
  · exact Or.inr (by decide +kernel)
  · exact Or.inr (by decide +kernel)
  · exact Or.inr (by decide +kernel)
  · exact Or.inr (by decide +kernel)
  · exact Or.inr (by decide +kernel)
  · exact Or.inr (by decide +kernel)
  · exact Or.inr (by decide +kernel)
  · exact Or.inr (by decide +kernel)
  · exact Or.inl rfl
theorem ck231 : ∀ pc, b_m_days pc = [] ∨ chkB (cd 231) 12 231 pc (b_m_days pc) = true := by
  intro pc
  unfold b_m_days
  split
  · exact Or.inr (by decide +kernel)
  · exact Or.inr (by decide +kernel)
  · exact Or.inr (by decide +kernel)
  · exact Or.inr (by decide +kernel)
  · exact Or.inr (by decide +kernel)
  · exact Or.inr (by decide +kernel)
  · exact Or.inr (by decide +kernel)
  · exact Or.inl rfl
theorem ck232 : ∀ pc, b_m_topicRow pc = [] ∨ chkB (cd 232) 12 232 pc (b_m_topicRow pc) = true := by
  intro pc
  unfold b_m_topicRow
  split
  · exact Or.inr (by decide +kernel)
  · exact Or.inl rfl
theorem ck233 : ∀ pc, b_m_monkRow pc = [] ∨ chkB (cd 233) 12 233 pc (b_m_monkRow pc) = true := by
  intro pc
  unfold b_m_monkRow
  split
  · exact Or.inr (by decide +kernel)
  · exact Or.inl rfl
theorem ck234 : ∀ pc, b_m_entryRow pc = [] ∨ chkB (cd 234) 12 234 pc (b_m_entryRow pc) = true := by
  intro pc
  unfold b_m_entryRow
  split
  · exact Or.inr (by decide +kernel)
  · exact Or.inl rfl
theorem ck235 : ∀ pc, b_m_isTopic pc = [] ∨ chkB (cd 235) 12 235 pc (b_m_isTopic pc) = true := by
  intro pc
  unfold b_m_isTopic
  split
  · exact Or.inr (by decide +kernel)
  · exact Or.inr (by decide +kernel)
  · exact Or.inr (by decide +kernel)
  · exact Or.inl rfl
theorem ck236 : ∀ pc, b_m_isMonk pc = [] ∨ chkB (cd 236) 12 236 pc (b_m_isMonk pc) = true := by
  intro pc
  unfold b_m_isMonk
  split
  · exact Or.inr (by decide +kernel)
  · exact Or.inr (by decide +kernel)
  · exact Or.inr (by decide +kernel)
  · exact Or.inl rfl
theorem ck237 : ∀ pc, b_m_isEntry pc = [] ∨ chkB (cd 237) 12 237 pc (b_m_isEntry pc) = true := by
  intro pc
  unfold b_m_isEntry
  split
  · exact Or.inr (by decide +kernel)
  · exact Or.inr (by decide +kernel)
  · exact Or.inr (by decide +kernel)
  · exact Or.inl rfl
theorem ck238 : ∀ pc, b_m_areMonks pc = [] ∨ chkB (cd 238) 12 238 pc (b_m_areMonks pc) = true := by
  intro pc
  unfold b_m_areMonks
  split
  · exact Or.inr (by decide +kernel)
  · exact Or.inl rfl
theorem ck239 : ∀ pc, b_m_isIn pc = [] ∨ chkB (cd 239) 12 239 pc (b_m_isIn pc) = true := by
  intro pc
  unfold b_m_isIn
  split
  · exact Or.inr (by decide +kernel)
  · exact Or.inr (by decide +kernel)
  · exact Or.inr (by decide +kernel)
  · exact Or.inl rfl
theorem ck240 : ∀ pc, b_m_bits pc = [] ∨ chkB (cd 240) 12 240 pc (b_m_bits pc) = true := by
  intro pc
  unfold b_m_bits
  split
  · exact Or.inr (by decide +kernel)
  · exact Or.inr (by decide +kernel)
  · exact Or.inr (by decide +kernel)
  · exact Or.inl rfl
