theorem ck241 : ∀ pc, b_m_monkOf pc = [] ∨ chkB (cd 241) 12 241 pc (b_m_monkOf pc) = true := by
  intro pc
  unfold b_m_monkOf
  split
  · exact Or.inr (by decide +kernel)
  · exact Or.inl rfl
theorem ck242 : ∀ pc, b_m_costOf pc = [] ∨ chkB (cd 242) 12 242 pc (b_m_costOf pc) = true := by
  intro pc
  unfold b_m_costOf
  split
  · exact Or.inr (by decide +kernel)
  · exact Or.inl rfl
theorem ck243 : ∀ pc, b_m_nextOf pc = [] ∨ chkB (cd 243) 12 243 pc (b_m_nextOf pc) = true := by
  intro pc
  unfold b_m_nextOf
  split
  · exact Or.inr (by decide +kernel)
  · exact Or.inl rfl
theorem ck244 : ∀ pc, b_m_awake pc = [] ∨ chkB (cd 244) 12 244 pc (b_m_awake pc) = true := by
  intro pc
  unfold b_m_awake
  split
  · exact Or.inr (by decide +kernel)
  · exact Or.inr (by decide +kernel)
  · exact Or.inr (by decide +kernel)
  · exact Or.inr (by decide +kernel)
  · exact Or.inr (by decide +kernel)
  · exact Or.inl rfl
theorem ck245 : ∀ pc, b_m_aheadOf pc = [] ∨ chkB (cd 245) 12 245 pc (b_m_aheadOf pc) = true := by
  intro pc
  unfold b_m_aheadOf
  split
  · exact Or.inr (by decide +kernel)
  · exact Or.inr (by decide +kernel)
  · exact Or.inr (by decide +kernel)
  · exact Or.inr (by decide +kernel)
  · exact Or.inr (by decide +kernel)
  · exact Or.inl rfl
theorem ck246 : ∀ pc, b_m_told pc = [] ∨ chkB (cd 246) 12 246 pc (b_m_told pc) = true := by
  intro pc
  unfold b_m_told
  split
  · exact Or.inr (by decide +kernel)
  · exact Or.inr (by decide +kernel)
  · exact Or.inr (by decide +kernel)
  · exact Or.inr (by decide +kernel)
  · exact Or.inr (by decide +kernel)
  · exact Or.inl rfl
theorem ck247 : ∀ pc, b_m_topic pc = [] ∨ chkB (cd 247) 12 247 pc (b_m_topic pc) = true := by
  intro pc
  unfold b_m_topic
  split
  · exact Or.inr (by decide +kernel)
  · exact Or.inr (by decide +kernel)
  · exact Or.inr (by decide +kernel)
  · exact Or.inr (by decide +kernel)
  · exact Or.inr (by decide +kernel)
  · exact Or.inl rfl
theorem ck248 : ∀ pc, b_m_monk pc = [] ∨ chkB (cd 248) 12 248 pc (b_m_monk pc) = true := by
  intro pc
  unfold b_m_monk
  split
  · exact Or.inr (by decide +kernel)
  · exact Or.inr (by decide +kernel)
  · exact Or.inr (by decide +kernel)
  · exact Or.inl rfl
theorem ck249 : ∀ pc, b_m_entry pc = [] ∨ chkB (cd 249) 12 249 pc (b_m_entry pc) = true := by
  intro pc
  unfold b_m_entry
  split
  · exact Or.inr (by decide +kernel)
  · exact Or.inr (by decide +kernel)
  · exact Or.inr (by decide +kernel)
  · exact Or.inl rfl
theorem ck250 : ∀ pc, b_m_silent pc = [] ∨ chkB (cd 250) 12 250 pc (b_m_silent pc) = true := by
  intro pc
  unfold b_m_silent
  split
  · exact Or.inr (by decide +kernel)
  · exact Or.inr (by decide +kernel)
  · exact Or.inr (by decide +kernel)
  · exact Or.inl rfl
theorem ck251 : ∀ pc, b_m_last pc = [] ∨ chkB (cd 251) 12 251 pc (b_m_last pc) = true := by
  intro pc
  unfold b_m_last
  split
  · exact Or.inr (by decide +kernel)
  · exact Or.inl rfl
theorem ck252 : ∀ pc, b_m_doesFollow pc = [] ∨ chkB (cd 252) 12 252 pc (b_m_doesFollow pc) = true := by
  intro pc
  unfold b_m_doesFollow
  split
  · exact Or.inr (by decide +kernel)
  · exact Or.inr (by decide +kernel)
  · exact Or.inr (by decide +kernel)
  · exact Or.inr (by decide +kernel)
  · exact Or.inl rfl
theorem ck253 : ∀ pc, b_m_canSay pc = [] ∨ chkB (cd 253) 12 253 pc (b_m_canSay pc) = true := by
  intro pc
  unfold b_m_canSay
  split
  · exact Or.inr (by decide +kernel)
  · exact Or.inr (by decide +kernel)
  · exact Or.inr (by decide +kernel)
  · exact Or.inl rfl
theorem ck254 : ∀ pc, b_m_topicsOf pc = [] ∨ chkB (cd 254) 12 254 pc (b_m_topicsOf pc) = true := by
  intro pc
  unfold b_m_topicsOf
  split
  · exact Or.inr (by decide +kernel)
  · exact Or.inr (by decide +kernel)
  · exact Or.inr (by decide +kernel)
  · exact Or.inr (by decide +kernel)
  · exact Or.inr (by decide +kernel)
  · exact Or.inl rfl
theorem ck255 : ∀ pc, b_m_can pc = [] ∨ chkB (cd 255) 12 255 pc (b_m_can pc) = true := by
  intro pc
  unfold b_m_can
  split
  · exact Or.inr (by decide +kernel)
  · exact Or.inr (by decide +kernel)
  · exact Or.inr (by decide +kernel)
  · exact Or.inr (by decide +kernel)
  · exact Or.inr (by decide +kernel)
  · exact Or.inl rfl
theorem ck256 : ∀ pc, b_m_topics pc = [] ∨ chkB (cd 256) 12 256 pc (b_m_topics pc) = true := by
  intro pc
  unfold b_m_topics
  split
  · exact Or.inr (by decide +kernel)
  · exact Or.inr (by decide +kernel)
  · exact Or.inr (by decide +kernel)
  · exact Or.inl rfl
theorem ck257 : ∀ pc, b_m_speakers pc = [] ∨ chkB (cd 257) 12 257 pc (b_m_speakers pc) = true := by
  intro pc
  unfold b_m_speakers
  split
  · exact Or.inr (by decide +kernel)
  · exact Or.inr (by decide +kernel)
  · exact Or.inr (by decide +kernel)
  · exact Or.inr (by decide +kernel)
  · exact Or.inr (by decide +kernel)
  · exact Or.inr (by decide +kernel)
  · exact Or.inl rfl
theorem ck258 : ∀ pc, b_m_laysSpeaker pc = [] ∨ chkB (cd 258) 12 258 pc (b_m_laysSpeaker pc) = true := by
  intro pc
  unfold b_m_laysSpeaker
  split
  · exact Or.inr (by decide +kernel)
  · exact Or.inr (by decide +kernel)
  · exact Or.inr (by decide +kernel)
  · exact Or.inr (by decide +kernel)
  · exact Or.inr (by decide +kernel)
  · exact Or.inr (by decide +kernel)
  · exact Or.inr (by decide +kernel)
  · exact Or.inr (by decide +kernel)
  · exact Or.inl rfl
theorem ck259 : ∀ pc, b_m_speaker pc = [] ∨ chkB (cd 259) 12 259 pc (b_m_speaker pc) = true := by
  intro pc
  unfold b_m_speaker
  split
  · exact Or.inr (by decide +kernel)
  · exact Or.inl rfl
theorem ck260 : ∀ pc, b_m_spoken pc = [] ∨ chkB (cd 260) 12 260 pc (b_m_spoken pc) = true := by
  intro pc
  unfold b_m_spoken
  split
  · exact Or.inr (by decide +kernel)
  · exact Or.inl rfl
theorem ck261 : ∀ pc, b_m_saysBy pc = [] ∨ chkB (cd 261) 12 261 pc (b_m_saysBy pc) = true := by
  intro pc
  unfold b_m_saysBy
  split
  · exact Or.inr (by decide +kernel)
  · exact Or.inr (by decide +kernel)
  · exact Or.inr (by decide +kernel)
  · exact Or.inr (by decide +kernel)
  · exact Or.inr (by decide +kernel)
  · exact Or.inr (by decide +kernel)
  · exact Or.inr (by decide +kernel)
  · exact Or.inr (by decide +kernel)
  · exact Or.inl rfl
theorem ck262 : ∀ pc, b_m_minuteGoes pc = [] ∨ chkB (cd 262) 12 262 pc (b_m_minuteGoes pc) = true := by
  intro pc
  unfold b_m_minuteGoes
  split
  · exact Or.inr (by decide +kernel)
  · exact Or.inr (by decide +kernel)
  · exact Or.inr (by decide +kernel)
  · exact Or.inr (by decide +kernel)
  · exact Or.inr (by decide +kernel)
  · exact Or.inl rfl
theorem ck263 : ∀ pc, b_m_minutesGo pc = [] ∨ chkB (cd 263) 12 263 pc (b_m_minutesGo pc) = true := by
  intro pc
  unfold b_m_minutesGo
  split
  · exact Or.inr (by decide +kernel)
  · exact Or.inr (by decide +kernel)
  · exact Or.inr (by decide +kernel)
  · exact Or.inl rfl
theorem ck264 : ∀ pc, b_m_minute pc = [] ∨ chkB (cd 264) 12 264 pc (b_m_minute pc) = true := by
  intro pc
  unfold b_m_minute
  split
  · exact Or.inr (by decide +kernel)
  · exact Or.inr (by decide +kernel)
  · exact Or.inr (by decide +kernel)
  · exact Or.inr (by decide +kernel)
  · exact Or.inl rfl
theorem ck265 : ∀ pc, b_m_changes pc = [] ∨ chkB (cd 265) 12 265 pc (b_m_changes pc) = true := by
  intro pc
  unfold b_m_changes
  split
  · exact Or.inr (by decide +kernel)
  · exact Or.inr (by decide +kernel)
  · exact Or.inr (by decide +kernel)
  · exact Or.inl rfl
theorem ck266 : ∀ pc, b_m_change pc = [] ∨ chkB (cd 266) 12 266 pc (b_m_change pc) = true := by
  intro pc
  unfold b_m_change
  split
  · exact Or.inr (by decide +kernel)
  · exact Or.inr (by decide +kernel)
  · exact Or.inr (by decide +kernel)
  · exact Or.inr (by decide +kernel)
  · exact Or.inl rfl
theorem ck267 : ∀ pc, b_m_wakes pc = [] ∨ chkB (cd 267) 12 267 pc (b_m_wakes pc) = true := by
  intro pc
  unfold b_m_wakes
  split
  · exact Or.inr (by decide +kernel)
  · exact Or.inr (by decide +kernel)
  · exact Or.inr (by decide +kernel)
  · exact Or.inl rfl
theorem ck268 : ∀ pc, b_m_wake pc = [] ∨ chkB (cd 268) 12 268 pc (b_m_wake pc) = true := by
  intro pc
  unfold b_m_wake
  split
  · exact Or.inr (by decide +kernel)
  · exact Or.inr (by decide +kernel)
  · exact Or.inr (by decide +kernel)
  · exact Or.inr (by decide +kernel)
  · exact Or.inr (by decide +kernel)
  · exact Or.inr (by decide +kernel)
  · exact Or.inl rfl
theorem ck269 : ∀ pc, b_m_follow pc = [] ∨ chkB (cd 269) 12 269 pc (b_m_follow pc) = true := by
  intro pc
  unfold b_m_follow
  split
  · exact Or.inr (by decide +kernel)
  · exact Or.inr (by decide +kernel)
  · exact Or.inr (by decide +kernel)
  · exact Or.inr (by decide +kernel)
  · exact Or.inl rfl
theorem ck270 : ∀ pc, b_m_hear pc = [] ∨ chkB (cd 270) 12 270 pc (b_m_hear pc) = true := by
  intro pc
  unfold b_m_hear
  split
  · exact Or.inr (by decide +kernel)
  · exact Or.inr (by decide +kernel)
  · exact Or.inr (by decide +kernel)
  · exact Or.inr (by decide +kernel)
  · exact Or.inl rfl
theorem ck271 : ∀ pc, b_m_enter pc = [] ∨ chkB (cd 271) 12 271 pc (b_m_enter pc) = true := by
  intro pc
  unfold b_m_enter
  split
  · exact Or.inr (by decide +kernel)
  · exact Or.inr (by decide +kernel)
  · exact Or.inr (by decide +kernel)
  · exact Or.inr (by decide +kernel)
  · exact Or.inl rfl
theorem ck272 : ∀ pc, b_m_strike pc = [] ∨ chkB (cd 272) 12 272 pc (b_m_strike pc) = true := by
  intro pc
  unfold b_m_strike
  split
  · exact Or.inr (by decide +kernel)
  · exact Or.inr (by decide +kernel)
  · exact Or.inr (by decide +kernel)
  · exact Or.inr (by decide +kernel)
  · exact Or.inl rfl
theorem ck273 : ∀ pc, b_m_breathe pc = [] ∨ chkB (cd 273) 12 273 pc (b_m_breathe pc) = true := by
  intro pc
  unfold b_m_breathe
  split
  · exact Or.inr (by decide +kernel)
  · exact Or.inr (by decide +kernel)
  · exact Or.inr (by decide +kernel)
  · exact Or.inl rfl
theorem ck274 : ∀ pc, b_m_price pc = [] ∨ chkB (cd 274) 12 274 pc (b_m_price pc) = true := by
  intro pc
  unfold b_m_price
  split
  · exact Or.inr (by decide +kernel)
  · exact Or.inr (by decide +kernel)
  · exact Or.inr (by decide +kernel)
  · exact Or.inl rfl
theorem ck275 : ∀ pc, b_m_rule pc = [] ∨ chkB (cd 275) 12 275 pc (b_m_rule pc) = true := by
  intro pc
  unfold b_m_rule
  split
  · exact Or.inr (by decide +kernel)
  · exact Or.inr (by decide +kernel)
  · exact Or.inr (by decide +kernel)
  · exact Or.inr (by decide +kernel)
  · exact Or.inr (by decide +kernel)
  · exact Or.inr (by decide +kernel)
  · exact Or.inr (by decide +kernel)
  · exact Or.inl rfl
theorem ck276 : ∀ pc, b_m_keeps pc = [] ∨ chkB (cd 276) 12 276 pc (b_m_keeps pc) = true := by
  intro pc
  unfold b_m_keeps
  split
  · exact Or.inr (by decide +kernel)
  · exact Or.inr (by decide +kernel)
  · exact Or.inr (by decide +kernel)
  · exact Or.inl rfl
theorem ck277 : ∀ pc, b_m_restores pc = [] ∨ chkB (cd 277) 12 277 pc (b_m_restores pc) = true := by
  intro pc
  unfold b_m_restores
  split
  · exact Or.inr (by decide +kernel)
  · exact Or.inr (by decide +kernel)
  · exact Or.inr (by decide +kernel)
  · exact Or.inl rfl
theorem ck278 : ∀ pc, b_m_isSpan pc = [] ∨ chkB (cd 278) 12 278 pc (b_m_isSpan pc) = true := by
  intro pc
  unfold b_m_isSpan
  split
  · exact Or.inr (by decide +kernel)
  · exact Or.inl rfl
theorem ck279 : ∀ pc, b_m_speakerIn pc = [] ∨ chkB (cd 279) 12 279 pc (b_m_speakerIn pc) = true := by
  intro pc
  unfold b_m_speakerIn
  split
  · exact Or.inr (by decide +kernel)
  · exact Or.inr (by decide +kernel)
  · exact Or.inl rfl
theorem ck280 : ∀ pc, b_m_breathIn pc = [] ∨ chkB (cd 280) 12 280 pc (b_m_breathIn pc) = true := by
  intro pc
  unfold b_m_breathIn
  split
  · exact Or.inr (by decide +kernel)
  · exact Or.inr (by decide +kernel)
  · exact Or.inr (by decide +kernel)
  · exact Or.inl rfl
theorem ck281 : ∀ pc, b_m_firstPause pc = [] ∨ chkB (cd 281) 12 281 pc (b_m_firstPause pc) = true := by
  intro pc
  unfold b_m_firstPause
  split
  · exact Or.inr (by decide +kernel)
  · exact Or.inr (by decide +kernel)
  · exact Or.inr (by decide +kernel)
  · exact Or.inr (by decide +kernel)
  · exact Or.inl rfl
theorem ck282 : ∀ pc, b_m_pauseIn pc = [] ∨ chkB (cd 282) 12 282 pc (b_m_pauseIn pc) = true := by
  intro pc
  unfold b_m_pauseIn
  split
  · exact Or.inr (by decide +kernel)
  · exact Or.inl rfl
theorem ck283 : ∀ pc, b_m_pausesIn pc = [] ∨ chkB (cd 283) 12 283 pc (b_m_pausesIn pc) = true := by
  intro pc
  unfold b_m_pausesIn
  split
  · exact Or.inr (by decide +kernel)
  · exact Or.inr (by decide +kernel)
  · exact Or.inl rfl
theorem ck284 : ∀ pc, b_m_turnIn pc = [] ∨ chkB (cd 284) 12 284 pc (b_m_turnIn pc) = true := by
  intro pc
  unfold b_m_turnIn
  split
  · exact Or.inr (by decide +kernel)
  · exact Or.inr (by decide +kernel)
  · exact Or.inr (by decide +kernel)
  · exact Or.inr (by decide +kernel)
  · exact Or.inl rfl
theorem ck285 : ∀ pc, b_m_unfair pc = [] ∨ chkB (cd 285) 12 285 pc (b_m_unfair pc) = true := by
  intro pc
  unfold b_m_unfair
  split
  · exact Or.inr (by decide +kernel)
  · exact Or.inr (by decide +kernel)
  · exact Or.inr (by decide +kernel)
  · exact Or.inr (by decide +kernel)
  · exact Or.inr (by decide +kernel)
  · exact Or.inl rfl
theorem ck286 : ∀ pc, b_m_areEnough pc = [] ∨ chkB (cd 286) 12 286 pc (b_m_areEnough pc) = true := by
  intro pc
  unfold b_m_areEnough
  split
  · exact Or.inr (by decide +kernel)
  · exact Or.inr (by decide +kernel)
  · exact Or.inr (by decide +kernel)
  · exact Or.inr (by decide +kernel)
  · exact Or.inr (by decide +kernel)
  · exact Or.inr (by decide +kernel)
  · exact Or.inr (by decide +kernel)
  · exact Or.inl rfl
theorem ck287 : ∀ pc, b_m_isShort pc = [] ∨ chkB (cd 287) 12 287 pc (b_m_isShort pc) = true := by
  intro pc
  unfold b_m_isShort
  split
  · exact Or.inr (by decide +kernel)
  · exact Or.inl rfl
theorem ck288 : ∀ pc, b_m_enough pc = [] ∨ chkB (cd 288) 12 288 pc (b_m_enough pc) = true := by
  intro pc
  unfold b_m_enough
  split
  · exact Or.inr (by decide +kernel)
  · exact Or.inr (by decide +kernel)
  · exact Or.inr (by decide +kernel)
  · exact Or.inr (by decide +kernel)
  · exact Or.inr (by decide +kernel)
  · exact Or.inl rfl
theorem ck289 : ∀ pc, b_m_fewestOf pc = [] ∨ chkB (cd 289) 12 289 pc (b_m_fewestOf pc) = true := by
  intro pc
  unfold b_m_fewestOf
  split
  · exact Or.inr (by decide +kernel)
  · exact Or.inr (by decide +kernel)
  · exact Or.inr (by decide +kernel)
  · exact Or.inr (by decide +kernel)
  · exact Or.inr (by decide +kernel)
  · exact Or.inl rfl
theorem ck290 : ∀ pc, b_m_fewest pc = [] ∨ chkB (cd 290) 12 290 pc (b_m_fewest pc) = true := by
  intro pc
  unfold b_m_fewest
  split
  · exact Or.inr (by decide +kernel)
  · exact Or.inr (by decide +kernel)
  · exact Or.inr (by decide +kernel)
  · exact Or.inr (by decide +kernel)
  · exact Or.inl rfl
theorem ck291 : ∀ pc, b_m_fewestSet pc = [] ∨ chkB (cd 291) 12 291 pc (b_m_fewestSet pc) = true := by
  intro pc
  unfold b_m_fewestSet
  split
  · exact Or.inr (by decide +kernel)
  · exact Or.inr (by decide +kernel)
  · exact Or.inr (by decide +kernel)
  · exact Or.inl rfl
theorem ck292 : ∀ pc, b_m_levelAt pc = [] ∨ chkB (cd 292) 12 292 pc (b_m_levelAt pc) = true := by
  intro pc
  unfold b_m_levelAt
  split
  · exact Or.inr (by decide +kernel)
  · exact Or.inl rfl
theorem ck293 : ∀ pc, b_m_leastBreath pc = [] ∨ chkB (cd 293) 12 293 pc (b_m_leastBreath pc) = true := by
  intro pc
  unfold b_m_leastBreath
  split
  · exact Or.inr (by decide +kernel)
  · exact Or.inr (by decide +kernel)
  · exact Or.inr (by decide +kernel)
  · exact Or.inl rfl
theorem ck294 : ∀ pc, b_m_shifting pc = [] ∨ chkB (cd 294) 12 294 pc (b_m_shifting pc) = true := by
  intro pc
  unfold b_m_shifting
  split
  · exact Or.inr (by decide +kernel)
  · exact Or.inr (by decide +kernel)
  · exact Or.inr (by decide +kernel)
  · exact Or.inr (by decide +kernel)
  · exact Or.inr (by decide +kernel)
  · exact Or.inr (by decide +kernel)
  · exact Or.inr (by decide +kernel)
  · exact Or.inr (by decide +kernel)
  · exact Or.inl rfl
theorem ck295 : ∀ pc, b_m_shift pc = [] ∨ chkB (cd 295) 12 295 pc (b_m_shift pc) = true := by
  intro pc
  unfold b_m_shift
  split
  · exact Or.inr (by decide +kernel)
  · exact Or.inr (by decide +kernel)
  · exact Or.inr (by decide +kernel)
  · exact Or.inl rfl
theorem ck296 : ∀ pc, b_m_shiftAt pc = [] ∨ chkB (cd 296) 12 296 pc (b_m_shiftAt pc) = true := by
  intro pc
  unfold b_m_shiftAt
  split
  · exact Or.inr (by decide +kernel)
  · exact Or.inr (by decide +kernel)
  · exact Or.inr (by decide +kernel)
  · exact Or.inr (by decide +kernel)
  · exact Or.inr (by decide +kernel)
  · exact Or.inr (by decide +kernel)
  · exact Or.inl rfl
theorem ck297 : ∀ pc, b_m_laysTalk pc = [] ∨ chkB (cd 297) 12 297 pc (b_m_laysTalk pc) = true := by
  intro pc
  unfold b_m_laysTalk
  split
  · exact Or.inr (by decide +kernel)
  · exact Or.inr (by decide +kernel)
  · exact Or.inr (by decide +kernel)
  · exact Or.inr (by decide +kernel)
  · exact Or.inr (by decide +kernel)
  · exact Or.inr (by decide +kernel)
  · exact Or.inr (by decide +kernel)
  · exact Or.inr (by decide +kernel)
  · exact Or.inr (by decide +kernel)
  · exact Or.inl rfl
theorem ck298 : ∀ pc, b_m_talkFrom pc = [] ∨ chkB (cd 298) 12 298 pc (b_m_talkFrom pc) = true := by
  intro pc
  unfold b_m_talkFrom
  split
  · exact Or.inr (by decide +kernel)
  · exact Or.inl rfl
theorem ck299 : ∀ pc, b_m_talk pc = [] ∨ chkB (cd 299) 12 299 pc (b_m_talk pc) = true := by
  intro pc
  unfold b_m_talk
  split
  · exact Or.inr (by decide +kernel)
  · exact Or.inr (by decide +kernel)
  · exact Or.inr (by decide +kernel)
  · exact Or.inl rfl
theorem ck300 : ∀ pc, b_m_talkAt pc = [] ∨ chkB (cd 300) 12 300 pc (b_m_talkAt pc) = true := by
  intro pc
  unfold b_m_talkAt
  split
  · exact Or.inr (by decide +kernel)
  · exact Or.inr (by decide +kernel)
  · exact Or.inr (by decide +kernel)
  · exact Or.inr (by decide +kernel)
  · exact Or.inr (by decide +kernel)
  · exact Or.inr (by decide +kernel)
  · exact Or.inr (by decide +kernel)
  · exact Or.inr (by decide +kernel)
  · exact Or.inr (by decide +kernel)
  · exact Or.inl rfl
