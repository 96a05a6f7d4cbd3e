theorem ck121 : ∀ pc, b_x_price pc = [] ∨ chkB (cd 121) 11 121 pc (b_x_price pc) = true := by
  intro pc
  unfold b_x_price
  split
  · exact Or.inr (by decide +kernel)
  · exact Or.inr (by decide +kernel)
  · exact Or.inr (by decide +kernel)
  · exact Or.inl rfl
theorem ck122 : ∀ pc, b_x_rule pc = [] ∨ chkB (cd 122) 11 122 pc (b_x_rule pc) = true := by
  intro pc
  unfold b_x_rule
  split
  · exact Or.inr (by decide +kernel)
  · exact Or.inr (by decide +kernel)
  · exact Or.inr (by decide +kernel)
  · exact Or.inl rfl
theorem ck123 : ∀ pc, b_x_can pc = [] ∨ chkB (cd 123) 11 123 pc (b_x_can pc) = true := by
  intro pc
  unfold b_x_can
  split
  · exact Or.inr (by decide +kernel)
  · exact Or.inr (by decide +kernel)
  · exact Or.inr (by decide +kernel)
  · exact Or.inl rfl
theorem ck124 : ∀ pc, b_x_topics pc = [] ∨ chkB (cd 124) 11 124 pc (b_x_topics pc) = true := by
  intro pc
  unfold b_x_topics
  split
  · exact Or.inr (by decide +kernel)
  · exact Or.inr (by decide +kernel)
  · exact Or.inr (by decide +kernel)
  · exact Or.inl rfl
theorem ck125 : ∀ pc, b_x_speakers pc = [] ∨ chkB (cd 125) 11 125 pc (b_x_speakers pc) = true := by
  intro pc
  unfold b_x_speakers
  split
  · exact Or.inr (by decide +kernel)
  · exact Or.inr (by decide +kernel)
  · exact Or.inr (by decide +kernel)
  · exact Or.inr (by decide +kernel)
  · exact Or.inl rfl
theorem ck126 : ∀ pc, b_x_speaker pc = [] ∨ chkB (cd 126) 11 126 pc (b_x_speaker pc) = true := by
  intro pc
  unfold b_x_speaker
  split
  · exact Or.inr (by decide +kernel)
  · exact Or.inl rfl
theorem ck127 : ∀ pc, b_x_spoken pc = [] ∨ chkB (cd 127) 11 127 pc (b_x_spoken pc) = true := by
  intro pc
  unfold b_x_spoken
  split
  · exact Or.inr (by decide +kernel)
  · exact Or.inl rfl
theorem ck128 : ∀ pc, b_x_speakerIn pc = [] ∨ chkB (cd 128) 11 128 pc (b_x_speakerIn pc) = true := by
  intro pc
  unfold b_x_speakerIn
  split
  · exact Or.inr (by decide +kernel)
  · exact Or.inr (by decide +kernel)
  · exact Or.inl rfl
theorem ck129 : ∀ pc, b_x_breathIn pc = [] ∨ chkB (cd 129) 11 129 pc (b_x_breathIn pc) = true := by
  intro pc
  unfold b_x_breathIn
  split
  · exact Or.inr (by decide +kernel)
  · exact Or.inr (by decide +kernel)
  · exact Or.inr (by decide +kernel)
  · exact Or.inl rfl
theorem ck130 : ∀ pc, b_x_pauseIn pc = [] ∨ chkB (cd 130) 11 130 pc (b_x_pauseIn pc) = true := by
  intro pc
  unfold b_x_pauseIn
  split
  · exact Or.inr (by decide +kernel)
  · exact Or.inl rfl
theorem ck131 : ∀ pc, b_x_pausesIn pc = [] ∨ chkB (cd 131) 11 131 pc (b_x_pausesIn pc) = true := by
  intro pc
  unfold b_x_pausesIn
  split
  · exact Or.inr (by decide +kernel)
  · exact Or.inr (by decide +kernel)
  · exact Or.inl rfl
theorem ck132 : ∀ pc, b_x_turnIn pc = [] ∨ chkB (cd 132) 11 132 pc (b_x_turnIn pc) = true := by
  intro pc
  unfold b_x_turnIn
  split
  · exact Or.inr (by decide +kernel)
  · exact Or.inr (by decide +kernel)
  · exact Or.inr (by decide +kernel)
  · exact Or.inl rfl
theorem ck133 : ∀ pc, b_x_unfair pc = [] ∨ chkB (cd 133) 11 133 pc (b_x_unfair pc) = true := by
  intro pc
  unfold b_x_unfair
  split
  · exact Or.inr (by decide +kernel)
  · exact Or.inl rfl
theorem ck134 : ∀ pc, b_x_enough pc = [] ∨ chkB (cd 134) 11 134 pc (b_x_enough pc) = true := by
  intro pc
  unfold b_x_enough
  split
  · exact Or.inr (by decide +kernel)
  · exact Or.inr (by decide +kernel)
  · exact Or.inr (by decide +kernel)
  · exact Or.inl rfl
theorem ck135 : ∀ pc, b_x_fewest pc = [] ∨ chkB (cd 135) 11 135 pc (b_x_fewest pc) = true := by
  intro pc
  unfold b_x_fewest
  split
  · exact Or.inr (by decide +kernel)
  · exact Or.inr (by decide +kernel)
  · exact Or.inr (by decide +kernel)
  · exact Or.inr (by decide +kernel)
  · exact Or.inl rfl
theorem ck136 : ∀ pc, b_x_fewestSet pc = [] ∨ chkB (cd 136) 11 136 pc (b_x_fewestSet pc) = true := by
  intro pc
  unfold b_x_fewestSet
  split
  · exact Or.inr (by decide +kernel)
  · exact Or.inr (by decide +kernel)
  · exact Or.inl rfl
theorem ck137 : ∀ pc, b_x_shift pc = [] ∨ chkB (cd 137) 11 137 pc (b_x_shift pc) = true := by
  intro pc
  unfold b_x_shift
  split
  · exact Or.inr (by decide +kernel)
  · exact Or.inr (by decide +kernel)
  · exact Or.inl rfl
theorem ck138 : ∀ pc, b_x_shiftAt pc = [] ∨ chkB (cd 138) 11 138 pc (b_x_shiftAt pc) = true := by
  intro pc
  unfold b_x_shiftAt
  split
  · exact Or.inr (by decide +kernel)
  · exact Or.inr (by decide +kernel)
  · exact Or.inr (by decide +kernel)
  · exact Or.inr (by decide +kernel)
  · exact Or.inr (by decide +kernel)
  · exact Or.inr (by decide +kernel)
  · exact Or.inl rfl
theorem ck139 : ∀ pc, b_x_talk pc = [] ∨ chkB (cd 139) 11 139 pc (b_x_talk pc) = true := by
  intro pc
  unfold b_x_talk
  split
  · exact Or.inr (by decide +kernel)
  · exact Or.inr (by decide +kernel)
  · exact Or.inr (by decide +kernel)
  · exact Or.inl rfl
theorem ck140 : ∀ pc, b_x_talkAt pc = [] ∨ chkB (cd 140) 11 140 pc (b_x_talkAt pc) = true := by
  intro pc
  unfold b_x_talkAt
  split
  · exact Or.inr (by decide +kernel)
  · exact Or.inr (by decide +kernel)
  · exact Or.inr (by decide +kernel)
  · exact Or.inr (by decide +kernel)
  · exact Or.inr (by decide +kernel)
  · exact Or.inl rfl
theorem ck141 : ∀ pc, b_x_ring pc = [] ∨ chkB (cd 141) 11 141 pc (b_x_ring pc) = true := by
  intro pc
  unfold b_x_ring
  split
  · exact Or.inr (by decide +kernel)
  · exact Or.inl rfl
theorem ck142 : ∀ pc, b_x_ringAt pc = [] ∨ chkB (cd 142) 11 142 pc (b_x_ringAt pc) = true := by
  intro pc
  unfold b_x_ringAt
  split
  · exact Or.inr (by decide +kernel)
  · exact Or.inr (by decide +kernel)
  · exact Or.inr (by decide +kernel)
  · exact Or.inr (by decide +kernel)
  · exact Or.inl rfl
theorem ck143 : ∀ pc, b_x_reach pc = [] ∨ chkB (cd 143) 11 143 pc (b_x_reach pc) = true := by
  intro pc
  unfold b_x_reach
  split
  · exact Or.inr (by decide +kernel)
  · exact Or.inr (by decide +kernel)
  · exact Or.inr (by decide +kernel)
  · exact Or.inl rfl
theorem ck144 : ∀ pc, b_x_wins pc = [] ∨ chkB (cd 144) 11 144 pc (b_x_wins pc) = true := by
  intro pc
  unfold b_x_wins
  split
  · exact Or.inr (by decide +kernel)
  · exact Or.inr (by decide +kernel)
  · exact Or.inr (by decide +kernel)
  · exact Or.inr (by decide +kernel)
  · exact Or.inl rfl
theorem ck145 : ∀ pc, b_x_best pc = [] ∨ chkB (cd 145) 11 145 pc (b_x_best pc) = true := by
  intro pc
  unfold b_x_best
  split
  · exact Or.inr (by decide +kernel)
  · exact Or.inr (by decide +kernel)
  · exact Or.inr (by decide +kernel)
  · exact Or.inl rfl
theorem ck146 : ∀ pc, b_x_heard pc = [] ∨ chkB (cd 146) 11 146 pc (b_x_heard pc) = true := by
  intro pc
  unfold b_x_heard
  split
  · exact Or.inr (by decide +kernel)
  · exact Or.inr (by decide +kernel)
  · exact Or.inr (by decide +kernel)
  · exact Or.inr (by decide +kernel)
  · exact Or.inl rfl
theorem ck147 : ∀ pc, b_x_sure pc = [] ∨ chkB (cd 147) 11 147 pc (b_x_sure pc) = true := by
  intro pc
  unfold b_x_sure
  split
  · exact Or.inr (by decide +kernel)
  · exact Or.inr (by decide +kernel)
  · exact Or.inr (by decide +kernel)
  · exact Or.inr (by decide +kernel)
  · exact Or.inl rfl
theorem ck148 : ∀ pc, b_x_couples pc = [] ∨ chkB (cd 148) 11 148 pc (b_x_couples pc) = true := by
  intro pc
  unfold b_x_couples
  split
  · exact Or.inr (by decide +kernel)
  · exact Or.inr (by decide +kernel)
  · exact Or.inr (by decide +kernel)
  · exact Or.inl rfl
theorem ck149 : ∀ pc, b_x_allRead pc = [] ∨ chkB (cd 149) 11 149 pc (b_x_allRead pc) = true := by
  intro pc
  unfold b_x_allRead
  split
  · exact Or.inr (by decide +kernel)
  · exact Or.inr (by decide +kernel)
  · exact Or.inr (by decide +kernel)
  · exact Or.inr (by decide +kernel)
  · exact Or.inl rfl
theorem ck150 : ∀ pc, b_x_coughs pc = [] ∨ chkB (cd 150) 11 150 pc (b_x_coughs pc) = true := by
  intro pc
  unfold b_x_coughs
  split
  · exact Or.inr (by decide +kernel)
  · exact Or.inr (by decide +kernel)
  · exact Or.inr (by decide +kernel)
  · exact Or.inr (by decide +kernel)
  · exact Or.inr (by decide +kernel)
  · exact Or.inr (by decide +kernel)
  · exact Or.inl rfl
theorem ck151 : ∀ pc, b_x_copyBreath pc = [] ∨ chkB (cd 151) 11 151 pc (b_x_copyBreath pc) = true := by
  intro pc
  unfold b_x_copyBreath
  split
  · exact Or.inr (by decide +kernel)
  · exact Or.inr (by decide +kernel)
  · exact Or.inr (by decide +kernel)
  · exact Or.inr (by decide +kernel)
  · exact Or.inr (by decide +kernel)
  · exact Or.inr (by decide +kernel)
  · exact Or.inl rfl
theorem ck152 : ∀ pc, b_x_live pc = [] ∨ chkB (cd 152) 11 152 pc (b_x_live pc) = true := by
  intro pc
  unfold b_x_live
  split
  · exact Or.inr (by decide +kernel)
  · exact Or.inr (by decide +kernel)
  · exact Or.inr (by decide +kernel)
  · exact Or.inl rfl
theorem ck153 : ∀ pc, b_x_lived pc = [] ∨ chkB (cd 153) 11 153 pc (b_x_lived pc) = true := by
  intro pc
  unfold b_x_lived
  split
  · exact Or.inr (by decide +kernel)
  · exact Or.inr (by decide +kernel)
  · exact Or.inr (by decide +kernel)
  · exact Or.inr (by decide +kernel)
  · exact Or.inr (by decide +kernel)
  · exact Or.inr (by decide +kernel)
  · exact Or.inr (by decide +kernel)
  · exact Or.inr (by decide +kernel)
  · exact Or.inl rfl
theorem ck154 : ∀ pc, b_x_mean pc = [] ∨ chkB (cd 154) 11 154 pc (b_x_mean pc) = true := by
  intro pc
  unfold b_x_mean
  split
  · exact Or.inr (by decide +kernel)
  · exact Or.inr (by decide +kernel)
  · exact Or.inr (by decide +kernel)
  · exact Or.inr (by decide +kernel)
  · exact Or.inr (by decide +kernel)
  · exact Or.inr (by decide +kernel)
  · exact Or.inl rfl
theorem ck155 : ∀ pc, b_x_mark pc = [] ∨ chkB (cd 155) 11 155 pc (b_x_mark pc) = true := by
  intro pc
  unfold b_x_mark
  split
  · exact Or.inr (by decide +kernel)
  · exact Or.inr (by decide +kernel)
  · exact Or.inl rfl
theorem ck156 : ∀ pc, b_x_undo pc = [] ∨ chkB (cd 156) 11 156 pc (b_x_undo pc) = true := by
  intro pc
  unfold b_x_undo
  split
  · exact Or.inr (by decide +kernel)
  · exact Or.inr (by decide +kernel)
  · exact Or.inl rfl
theorem ck157 : ∀ pc, b_x_give pc = [] ∨ chkB (cd 157) 11 157 pc (b_x_give pc) = true := by
  intro pc
  unfold b_x_give
  split
  · exact Or.inr (by decide +kernel)
  · exact Or.inl rfl
theorem ck158 : ∀ pc, b_x_giveOrNone pc = [] ∨ chkB (cd 158) 11 158 pc (b_x_giveOrNone pc) = true := by
  intro pc
  unfold b_x_giveOrNone
  split
  · exact Or.inr (by decide +kernel)
  · exact Or.inr (by decide +kernel)
  · exact Or.inr (by decide +kernel)
  · exact Or.inl rfl
theorem ck159 : ∀ pc, b_x_none pc = [] ∨ chkB (cd 159) 11 159 pc (b_x_none pc) = true := by
  intro pc
  unfold b_x_none
  split
  · exact Or.inr (by decide +kernel)
  · exact Or.inl rfl
theorem ck160 : ∀ pc, b_x_agree pc = [] ∨ chkB (cd 160) 11 160 pc (b_x_agree pc) = true := by
  intro pc
  unfold b_x_agree
  split
  · exact Or.inr (by decide +kernel)
  · exact Or.inl rfl
theorem ck161 : ∀ pc, b_x_refuse pc = [] ∨ chkB (cd 161) 11 161 pc (b_x_refuse pc) = true := by
  intro pc
  unfold b_x_refuse
  split
  · exact Or.inr (by decide +kernel)
  · exact Or.inl rfl
theorem ck162 : ∀ pc, b_x_isTray pc = [] ∨ chkB (cd 162) 11 162 pc (b_x_isTray pc) = true := by
  intro pc
  unfold b_x_isTray
  split
  · exact Or.inr (by decide +kernel)
  · exact Or.inl rfl
theorem ck163 : ∀ pc, b_x_isTopic pc = [] ∨ chkB (cd 163) 11 163 pc (b_x_isTopic pc) = true := by
  intro pc
  unfold b_x_isTopic
  split
  · exact Or.inr (by decide +kernel)
  · exact Or.inl rfl
theorem ck164 : ∀ pc, b_x_isMonk pc = [] ∨ chkB (cd 164) 11 164 pc (b_x_isMonk pc) = true := by
  intro pc
  unfold b_x_isMonk
  split
  · exact Or.inr (by decide +kernel)
  · exact Or.inl rfl
theorem ck165 : ∀ pc, b_x_isSet pc = [] ∨ chkB (cd 165) 11 165 pc (b_x_isSet pc) = true := by
  intro pc
  unfold b_x_isSet
  split
  · exact Or.inr (by decide +kernel)
  · exact Or.inl rfl
theorem ck166 : ∀ pc, b_x_placeStatus pc = [] ∨ chkB (cd 166) 11 166 pc (b_x_placeStatus pc) = true := by
  intro pc
  unfold b_x_placeStatus
  split
  · exact Or.inr (by decide +kernel)
  · exact Or.inr (by decide +kernel)
  · exact Or.inr (by decide +kernel)
  · exact Or.inr (by decide +kernel)
  · exact Or.inr (by decide +kernel)
  · exact Or.inl rfl
theorem ck167 : ∀ pc, b_x_heardStatus pc = [] ∨ chkB (cd 167) 11 167 pc (b_x_heardStatus pc) = true := by
  intro pc
  unfold b_x_heardStatus
  split
  · exact Or.inr (by decide +kernel)
  · exact Or.inr (by decide +kernel)
  · exact Or.inr (by decide +kernel)
  · exact Or.inr (by decide +kernel)
  · exact Or.inr (by decide +kernel)
  · exact Or.inr (by decide +kernel)
  · exact Or.inr (by decide +kernel)
  · exact Or.inr (by decide +kernel)
  · exact Or.inl rfl
theorem ck168 : ∀ pc, b_x_weighCoughs pc = [] ∨ chkB (cd 168) 11 168 pc (b_x_weighCoughs pc) = true := by
  intro pc
  unfold b_x_weighCoughs
  split
  · exact Or.inr (by decide +kernel)
  · exact Or.inr (by decide +kernel)
  · exact Or.inr (by decide +kernel)
  · exact Or.inr (by decide +kernel)
  · exact Or.inr (by decide +kernel)
  · exact Or.inr (by decide +kernel)
  · exact Or.inr (by decide +kernel)
  · exact Or.inl rfl
theorem ck169 : ∀ pc, b_x_tellFraction pc = [] ∨ chkB (cd 169) 11 169 pc (b_x_tellFraction pc) = true := by
  intro pc
  unfold b_x_tellFraction
  split
  · exact Or.inr (by decide +kernel)
  · exact Or.inr (by decide +kernel)
  · exact Or.inl rfl
theorem ck170 : ∀ pc, b_x_commonDivisor pc = [] ∨ chkB (cd 170) 11 170 pc (b_x_commonDivisor pc) = true := by
  intro pc
  unfold b_x_commonDivisor
  split
  · exact Or.inr (by decide +kernel)
  · exact Or.inr (by decide +kernel)
  · exact Or.inr (by decide +kernel)
  · exact Or.inl rfl
theorem ck171 : ∀ pc, b_x_within pc = [] ∨ chkB (cd 171) 11 171 pc (b_x_within pc) = true := by
  intro pc
  unfold b_x_within
  split
  · exact Or.inr (by decide +kernel)
  · exact Or.inr (by decide +kernel)
  · exact Or.inr (by decide +kernel)
  · exact Or.inl rfl
theorem ck172 : ∀ pc, b_x_truth pc = [] ∨ chkB (cd 172) 11 172 pc (b_x_truth pc) = true := by
  intro pc
  unfold b_x_truth
  split
  · exact Or.inr (by decide +kernel)
  · exact Or.inr (by decide +kernel)
  · exact Or.inr (by decide +kernel)
  · exact Or.inl rfl
theorem ck173 : ∀ pc, b_x_has pc = [] ∨ chkB (cd 173) 11 173 pc (b_x_has pc) = true := by
  intro pc
  unfold b_x_has
  split
  · exact Or.inr (by decide +kernel)
  · exact Or.inr (by decide +kernel)
  · exact Or.inr (by decide +kernel)
  · exact Or.inl rfl
theorem ck174 : ∀ pc, b_x_with pc = [] ∨ chkB (cd 174) 11 174 pc (b_x_with pc) = true := by
  intro pc
  unfold b_x_with
  split
  · exact Or.inr (by decide +kernel)
  · exact Or.inr (by decide +kernel)
  · exact Or.inr (by decide +kernel)
  · exact Or.inl rfl
theorem ck175 : ∀ pc, b_x_leastOf pc = [] ∨ chkB (cd 175) 11 175 pc (b_x_leastOf pc) = true := by
  intro pc
  unfold b_x_leastOf
  split
  · exact Or.inr (by decide +kernel)
  · exact Or.inr (by decide +kernel)
  · exact Or.inr (by decide +kernel)
  · exact Or.inr (by decide +kernel)
  · exact Or.inl rfl
theorem ck176 : ∀ pc, b_x_onlyOneOf pc = [] ∨ chkB (cd 176) 11 176 pc (b_x_onlyOneOf pc) = true := by
  intro pc
  unfold b_x_onlyOneOf
  split
  · exact Or.inr (by decide +kernel)
  · exact Or.inr (by decide +kernel)
  · exact Or.inr (by decide +kernel)
  · exact Or.inl rfl
theorem ck177 : ∀ pc, b_x_speechOf pc = [] ∨ chkB (cd 177) 11 177 pc (b_x_speechOf pc) = true := by
  intro pc
  unfold b_x_speechOf
  split
  · exact Or.inr (by decide +kernel)
  · exact Or.inl rfl
theorem ck178 : ∀ pc, b_x_monkOf pc = [] ∨ chkB (cd 178) 11 178 pc (b_x_monkOf pc) = true := by
  intro pc
  unfold b_x_monkOf
  split
  · exact Or.inr (by decide +kernel)
  · exact Or.inr (by decide +kernel)
  · exact Or.inr (by decide +kernel)
  · exact Or.inl rfl
theorem ck179 : ∀ pc, b_x_topicOf pc = [] ∨ chkB (cd 179) 11 179 pc (b_x_topicOf pc) = true := by
  intro pc
  unfold b_x_topicOf
  split
  · exact Or.inr (by decide +kernel)
  · exact Or.inr (by decide +kernel)
  · exact Or.inr (by decide +kernel)
  · exact Or.inl rfl
theorem ck180 : ∀ pc, b_m_plain pc = [] ∨ chkB (cd 180) 12 180 pc (b_m_plain pc) = true := by
  intro pc
  unfold b_m_plain
  split
  · exact Or.inr (by decide +kernel)
  · exact Or.inr (by decide +kernel)
  · exact Or.inr (by decide +kernel)
  · exact Or.inl rfl
