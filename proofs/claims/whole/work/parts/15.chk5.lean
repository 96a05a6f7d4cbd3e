theorem ck301 : ∀ pc, b_m_laysFar pc = [] ∨ chkB (cd 301) 12 301 pc (b_m_laysFar pc) = true := by
  intro pc
  unfold b_m_laysFar
  split
  · exact Or.inr (by decide +kernel)
  · exact Or.inr (by decide +kernel)
  · exact Or.inr (by decide +kernel)
  · exact Or.inr (by decide +kernel)
  · exact Or.inr (by decide +kernel)
  · exact Or.inr (by decide +kernel)
  · exact Or.inr (by decide +kernel)
  · exact Or.inr (by decide +kernel)
  · exact Or.inr (by decide +kernel)
  · exact Or.inl rfl
theorem ck302 : ∀ pc, b_m_nearest pc = [] ∨ chkB (cd 302) 12 302 pc (b_m_nearest pc) = true := by
  intro pc
  unfold b_m_nearest
  split
  · exact Or.inr (by decide +kernel)
  · exact Or.inr (by decide +kernel)
  · exact Or.inr (by decide +kernel)
  · exact Or.inr (by decide +kernel)
  · exact Or.inl rfl
theorem ck303 : ∀ pc, b_m_laysRing pc = [] ∨ chkB (cd 303) 12 303 pc (b_m_laysRing pc) = true := by
  intro pc
  unfold b_m_laysRing
  split
  · exact Or.inr (by decide +kernel)
  · exact Or.inr (by decide +kernel)
  · exact Or.inr (by decide +kernel)
  · exact Or.inr (by decide +kernel)
  · exact Or.inr (by decide +kernel)
  · exact Or.inl rfl
theorem ck304 : ∀ pc, b_m_ring pc = [] ∨ chkB (cd 304) 12 304 pc (b_m_ring pc) = true := by
  intro pc
  unfold b_m_ring
  split
  · exact Or.inr (by decide +kernel)
  · exact Or.inr (by decide +kernel)
  · exact Or.inr (by decide +kernel)
  · exact Or.inl rfl
theorem ck305 : ∀ pc, b_m_ringAt pc = [] ∨ chkB (cd 305) 12 305 pc (b_m_ringAt pc) = true := by
  intro pc
  unfold b_m_ringAt
  split
  · exact Or.inr (by decide +kernel)
  · exact Or.inr (by decide +kernel)
  · exact Or.inr (by decide +kernel)
  · exact Or.inr (by decide +kernel)
  · exact Or.inr (by decide +kernel)
  · exact Or.inr (by decide +kernel)
  · exact Or.inr (by decide +kernel)
  · exact Or.inr (by decide +kernel)
  · exact Or.inr (by decide +kernel)
  · exact Or.inl rfl
theorem ck306 : ∀ pc, b_m_reach pc = [] ∨ chkB (cd 306) 12 306 pc (b_m_reach pc) = true := by
  intro pc
  unfold b_m_reach
  split
  · exact Or.inr (by decide +kernel)
  · exact Or.inr (by decide +kernel)
  · exact Or.inr (by decide +kernel)
  · exact Or.inr (by decide +kernel)
  · exact Or.inr (by decide +kernel)
  · exact Or.inr (by decide +kernel)
  · exact Or.inr (by decide +kernel)
  · exact Or.inr (by decide +kernel)
  · exact Or.inl rfl
theorem ck307 : ∀ pc, b_m_wins pc = [] ∨ chkB (cd 307) 12 307 pc (b_m_wins pc) = true := by
  intro pc
  unfold b_m_wins
  split
  · exact Or.inr (by decide +kernel)
  · exact Or.inr (by decide +kernel)
  · exact Or.inr (by decide +kernel)
  · exact Or.inr (by decide +kernel)
  · exact Or.inl rfl
theorem ck308 : ∀ pc, b_m_best pc = [] ∨ chkB (cd 308) 12 308 pc (b_m_best pc) = true := by
  intro pc
  unfold b_m_best
  split
  · exact Or.inr (by decide +kernel)
  · exact Or.inr (by decide +kernel)
  · exact Or.inr (by decide +kernel)
  · exact Or.inr (by decide +kernel)
  · exact Or.inr (by decide +kernel)
  · exact Or.inr (by decide +kernel)
  · exact Or.inl rfl
theorem ck309 : ∀ pc, b_m_wrongHeard pc = [] ∨ chkB (cd 309) 12 309 pc (b_m_wrongHeard pc) = true := by
  intro pc
  unfold b_m_wrongHeard
  split
  · exact Or.inr (by decide +kernel)
  · exact Or.inr (by decide +kernel)
  · exact Or.inr (by decide +kernel)
  · exact Or.inr (by decide +kernel)
  · exact Or.inr (by decide +kernel)
  · exact Or.inr (by decide +kernel)
  · exact Or.inr (by decide +kernel)
  · exact Or.inr (by decide +kernel)
  · exact Or.inl rfl
theorem ck310 : ∀ pc, b_m_counts pc = [] ∨ chkB (cd 310) 12 310 pc (b_m_counts pc) = true := by
  intro pc
  unfold b_m_counts
  split
  · exact Or.inr (by decide +kernel)
  · exact Or.inr (by decide +kernel)
  · exact Or.inr (by decide +kernel)
  · exact Or.inr (by decide +kernel)
  · exact Or.inr (by decide +kernel)
  · exact Or.inr (by decide +kernel)
  · exact Or.inl rfl
theorem ck311 : ∀ pc, b_m_laysHeard pc = [] ∨ chkB (cd 311) 12 311 pc (b_m_laysHeard pc) = true := by
  intro pc
  unfold b_m_laysHeard
  split
  · exact Or.inr (by decide +kernel)
  · exact Or.inr (by decide +kernel)
  · exact Or.inr (by decide +kernel)
  · exact Or.inr (by decide +kernel)
  · exact Or.inr (by decide +kernel)
  · exact Or.inr (by decide +kernel)
  · exact Or.inr (by decide +kernel)
  · exact Or.inr (by decide +kernel)
  · exact Or.inr (by decide +kernel)
  · exact Or.inr (by decide +kernel)
  · exact Or.inl rfl
theorem ck312 : ∀ pc, b_m_heard pc = [] ∨ chkB (cd 312) 12 312 pc (b_m_heard pc) = true := by
  intro pc
  unfold b_m_heard
  split
  · exact Or.inr (by decide +kernel)
  · exact Or.inr (by decide +kernel)
  · exact Or.inl rfl
theorem ck313 : ∀ pc, b_m_sure pc = [] ∨ chkB (cd 313) 12 313 pc (b_m_sure pc) = true := by
  intro pc
  unfold b_m_sure
  split
  · exact Or.inr (by decide +kernel)
  · exact Or.inr (by decide +kernel)
  · exact Or.inr (by decide +kernel)
  · exact Or.inr (by decide +kernel)
  · exact Or.inr (by decide +kernel)
  · exact Or.inr (by decide +kernel)
  · exact Or.inr (by decide +kernel)
  · exact Or.inr (by decide +kernel)
  · exact Or.inl rfl
theorem ck314 : ∀ pc, b_m_couplesOf pc = [] ∨ chkB (cd 314) 12 314 pc (b_m_couplesOf pc) = true := by
  intro pc
  unfold b_m_couplesOf
  split
  · exact Or.inr (by decide +kernel)
  · exact Or.inr (by decide +kernel)
  · exact Or.inr (by decide +kernel)
  · exact Or.inr (by decide +kernel)
  · exact Or.inr (by decide +kernel)
  · exact Or.inr (by decide +kernel)
  · exact Or.inr (by decide +kernel)
  · exact Or.inr (by decide +kernel)
  · exact Or.inr (by decide +kernel)
  · exact Or.inl rfl
theorem ck315 : ∀ pc, b_m_couples pc = [] ∨ chkB (cd 315) 12 315 pc (b_m_couples pc) = true := by
  intro pc
  unfold b_m_couples
  split
  · exact Or.inr (by decide +kernel)
  · exact Or.inr (by decide +kernel)
  · exact Or.inr (by decide +kernel)
  · exact Or.inl rfl
theorem ck316 : ∀ pc, b_m_allRead pc = [] ∨ chkB (cd 316) 12 316 pc (b_m_allRead pc) = true := by
  intro pc
  unfold b_m_allRead
  split
  · exact Or.inr (by decide +kernel)
  · exact Or.inr (by decide +kernel)
  · exact Or.inr (by decide +kernel)
  · exact Or.inr (by decide +kernel)
  · exact Or.inr (by decide +kernel)
  · exact Or.inl rfl
theorem ck317 : ∀ pc, b_m_coughs pc = [] ∨ chkB (cd 317) 12 317 pc (b_m_coughs pc) = true := by
  intro pc
  unfold b_m_coughs
  split
  · exact Or.inr (by decide +kernel)
  · exact Or.inr (by decide +kernel)
  · exact Or.inr (by decide +kernel)
  · exact Or.inr (by decide +kernel)
  · exact Or.inr (by decide +kernel)
  · exact Or.inr (by decide +kernel)
  · exact Or.inr (by decide +kernel)
  · exact Or.inr (by decide +kernel)
  · exact Or.inr (by decide +kernel)
  · exact Or.inr (by decide +kernel)
  · exact Or.inr (by decide +kernel)
  · exact Or.inr (by decide +kernel)
  · exact Or.inr (by decide +kernel)
  · exact Or.inr (by decide +kernel)
  · exact Or.inl rfl
theorem ck318 : ∀ pc, b_m_copyBreath pc = [] ∨ chkB (cd 318) 12 318 pc (b_m_copyBreath pc) = true := by
  intro pc
  unfold b_m_copyBreath
  split
  · exact Or.inr (by decide +kernel)
  · exact Or.inr (by decide +kernel)
  · exact Or.inr (by decide +kernel)
  · exact Or.inr (by decide +kernel)
  · exact Or.inr (by decide +kernel)
  · exact Or.inr (by decide +kernel)
  · exact Or.inl rfl
theorem ck319 : ∀ pc, b_m_draw pc = [] ∨ chkB (cd 319) 12 319 pc (b_m_draw pc) = true := by
  intro pc
  unfold b_m_draw
  split
  · exact Or.inr (by decide +kernel)
  · exact Or.inl rfl
theorem ck320 : ∀ pc, b_m_minutesBy pc = [] ∨ chkB (cd 320) 12 320 pc (b_m_minutesBy pc) = true := by
  intro pc
  unfold b_m_minutesBy
  split
  · exact Or.inr (by decide +kernel)
  · exact Or.inr (by decide +kernel)
  · exact Or.inl rfl
theorem ck321 : ∀ pc, b_m_coughsAny pc = [] ∨ chkB (cd 321) 12 321 pc (b_m_coughsAny pc) = true := by
  intro pc
  unfold b_m_coughsAny
  split
  · exact Or.inr (by decide +kernel)
  · exact Or.inr (by decide +kernel)
  · exact Or.inl rfl
theorem ck322 : ∀ pc, b_m_does pc = [] ∨ chkB (cd 322) 12 322 pc (b_m_does pc) = true := by
  intro pc
  unfold b_m_does
  split
  · exact Or.inr (by decide +kernel)
  · exact Or.inr (by decide +kernel)
  · exact Or.inr (by decide +kernel)
  · exact Or.inr (by decide +kernel)
  · exact Or.inr (by decide +kernel)
  · exact Or.inr (by decide +kernel)
  · exact Or.inr (by decide +kernel)
  · exact Or.inl rfl
theorem ck323 : ∀ pc, b_m_holds pc = [] ∨ chkB (cd 323) 12 323 pc (b_m_holds pc) = true := by
  intro pc
  unfold b_m_holds
  split
  · exact Or.inr (by decide +kernel)
  · exact Or.inr (by decide +kernel)
  · exact Or.inr (by decide +kernel)
  · exact Or.inr (by decide +kernel)
  · exact Or.inr (by decide +kernel)
  · exact Or.inr (by decide +kernel)
  · exact Or.inr (by decide +kernel)
  · exact Or.inr (by decide +kernel)
  · exact Or.inr (by decide +kernel)
  · exact Or.inr (by decide +kernel)
  · exact Or.inr (by decide +kernel)
  · exact Or.inr (by decide +kernel)
  · exact Or.inr (by decide +kernel)
  · exact Or.inr (by decide +kernel)
  · exact Or.inr (by decide +kernel)
  · exact Or.inl rfl
theorem ck324 : ∀ pc, b_m_behindEnds pc = [] ∨ chkB (cd 324) 12 324 pc (b_m_behindEnds pc) = true := by
  intro pc
  unfold b_m_behindEnds
  split
  · exact Or.inr (by decide +kernel)
  · exact Or.inr (by decide +kernel)
  · exact Or.inr (by decide +kernel)
  · exact Or.inr (by decide +kernel)
  · exact Or.inr (by decide +kernel)
  · exact Or.inr (by decide +kernel)
  · exact Or.inr (by decide +kernel)
  · exact Or.inr (by decide +kernel)
  · exact Or.inr (by decide +kernel)
  · exact Or.inl rfl
theorem ck325 : ∀ pc, b_m_lives pc = [] ∨ chkB (cd 325) 12 325 pc (b_m_lives pc) = true := by
  intro pc
  unfold b_m_lives
  split
  · exact Or.inr (by decide +kernel)
  · exact Or.inr (by decide +kernel)
  · exact Or.inr (by decide +kernel)
  · exact Or.inr (by decide +kernel)
  · exact Or.inr (by decide +kernel)
  · exact Or.inr (by decide +kernel)
  · exact Or.inr (by decide +kernel)
  · exact Or.inr (by decide +kernel)
  · exact Or.inr (by decide +kernel)
  · exact Or.inr (by decide +kernel)
  · exact Or.inr (by decide +kernel)
  · exact Or.inr (by decide +kernel)
  · exact Or.inl rfl
theorem ck326 : ∀ pc, b_m_live pc = [] ∨ chkB (cd 326) 12 326 pc (b_m_live pc) = true := by
  intro pc
  unfold b_m_live
  split
  · exact Or.inr (by decide +kernel)
  · exact Or.inr (by decide +kernel)
  · exact Or.inr (by decide +kernel)
  · exact Or.inr (by decide +kernel)
  · exact Or.inr (by decide +kernel)
  · exact Or.inl rfl
theorem ck327 : ∀ pc, b_m_lived pc = [] ∨ chkB (cd 327) 12 327 pc (b_m_lived pc) = true := by
  intro pc
  unfold b_m_lived
  split
  · exact Or.inr (by decide +kernel)
  · exact Or.inr (by decide +kernel)
  · exact Or.inr (by decide +kernel)
  · exact Or.inr (by decide +kernel)
  · exact Or.inr (by decide +kernel)
  · exact Or.inl rfl
theorem ck328 : ∀ pc, b_m_mean pc = [] ∨ chkB (cd 328) 12 328 pc (b_m_mean pc) = true := by
  intro pc
  unfold b_m_mean
  split
  · exact Or.inr (by decide +kernel)
  · exact Or.inr (by decide +kernel)
  · exact Or.inr (by decide +kernel)
  · exact Or.inr (by decide +kernel)
  · exact Or.inr (by decide +kernel)
  · exact Or.inr (by decide +kernel)
  · exact Or.inl rfl
theorem ck329 : ∀ pc, b_m_copies pc = [] ∨ chkB (cd 329) 12 329 pc (b_m_copies pc) = true := by
  intro pc
  unfold b_m_copies
  split
  · exact Or.inr (by decide +kernel)
  · exact Or.inr (by decide +kernel)
  · exact Or.inr (by decide +kernel)
  · exact Or.inr (by decide +kernel)
  · exact Or.inr (by decide +kernel)
  · exact Or.inl rfl
theorem ck330 : ∀ pc, b_m_mark pc = [] ∨ chkB (cd 330) 12 330 pc (b_m_mark pc) = true := by
  intro pc
  unfold b_m_mark
  split
  · exact Or.inr (by decide +kernel)
  · exact Or.inr (by decide +kernel)
  · exact Or.inl rfl
theorem ck331 : ∀ pc, b_m_undo pc = [] ∨ chkB (cd 331) 12 331 pc (b_m_undo pc) = true := by
  intro pc
  unfold b_m_undo
  split
  · exact Or.inr (by decide +kernel)
  · exact Or.inr (by decide +kernel)
  · exact Or.inl rfl
theorem ck332 : ∀ pc, b_Integer_bitCount pc = [] ∨ chkB (cd 332) 13 332 pc (b_Integer_bitCount pc) = true := by
  intro pc
  unfold b_Integer_bitCount
  split
  · exact Or.inr (by decide +kernel)
  · exact Or.inl rfl
theorem ck333 : ∀ pc, b_Math_floorMod pc = [] ∨ chkB (cd 333) 14 333 pc (b_Math_floorMod pc) = true := by
  intro pc
  unfold b_Math_floorMod
  split
  · exact Or.inr (by decide +kernel)
  · exact Or.inr (by decide +kernel)
  · exact Or.inl rfl
theorem ck334 : ∀ pc, b_Math_max pc = [] ∨ chkB (cd 334) 14 334 pc (b_Math_max pc) = true := by
  intro pc
  unfold b_Math_max
  split
  · exact Or.inr (by decide +kernel)
  · exact Or.inr (by decide +kernel)
  · exact Or.inr (by decide +kernel)
  · exact Or.inl rfl
theorem ck335 : ∀ pc, b_Math_min pc = [] ∨ chkB (cd 335) 14 335 pc (b_Math_min pc) = true := by
  intro pc
  unfold b_Math_min
  split
  · exact Or.inr (by decide +kernel)
  · exact Or.inr (by decide +kernel)
  · exact Or.inr (by decide +kernel)
  · exact Or.inl rfl
theorem ck336 : ∀ pc, b_Arrays_fill pc = [] ∨ chkB (cd 336) 15 336 pc (b_Arrays_fill pc) = true := by
  intro pc
  unfold b_Arrays_fill
  split
  · exact Or.inr (by decide +kernel)
  · exact Or.inr (by decide +kernel)
  · exact Or.inr (by decide +kernel)
  · exact Or.inl rfl
