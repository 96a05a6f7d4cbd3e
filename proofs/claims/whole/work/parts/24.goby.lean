/-- what a minute does once its speaker and topic stand -/
def goF (h : Nat → Int) (sp : Sp) (j : Nat) : Int :=
  if j = 5 then h 5 + 1 else if j = 9 then spT sp else if j = 8 then (if 0 < h 1 ∧ (h 5 + 1) % h 3 = 0 then (h 8 + 1) % h 1 else h 8)
  else if 24 ≤ j ∧ (((j - 24) / 7 : Nat) : Int) < h 1 then
    (if (j - 24) % 7 = 0 then (if spM sp = (((j - 24) / 7 : Nat) : Int) then h j - h (12 + 2 * (spT sp).toNat) else min (h (j + 1)) (h j + h (j + 2)))
     else if (j - 24) % 7 = 4 then (if spM sp = (((j - 24) / 7 : Nat) : Int) then h j + 1 else h j)
     else if (j - 24) % 7 = 5 then (if h 8 = (((j - 24) / 7 : Nat) : Int) then h j + 1 else h j) else h j)
  else h j
theorem goF_lo (h : Nat → Int) (sp : Sp) {j : Nat} (h5 : j ≠ 5) (h8 : j ≠ 8) (h9 : j ≠ 9) (hj : j < 24) : goF h sp j = h j := by
  unfold goF
  rw [if_neg h5, if_neg h9, if_neg h8, if_neg (by omega)]
theorem goF_hi (h : Nat → Int) (sp : Sp) {j : Nat} (hw : WF h) (hj : 73 ≤ j) : goF h sp j = h j := by
  have b := hw.1
  unfold goF
  rw [if_neg (by omega), if_neg (by omega), if_neg (by omega), if_neg (by omega)]
theorem goF_0 (h : Nat → Int) (sp : Sp) {m : Nat} (hm : (m : Int) < h 1) : goF h sp (24 + 7 * m) = if spM sp = (m : Int) then h (24 + 7 * m) - h (12 + 2 * (spT sp).toNat) else min (h (25 + 7 * m)) (h (24 + 7 * m) + h (26 + 7 * m)) := by
  have e : (24 + 7 * m - 24) / 7 = m := by omega
  unfold goF
  rw [e, if_neg (by omega), if_neg (by omega), if_neg (by omega), if_pos ⟨by omega, hm⟩, if_pos (by omega), show 24 + 7 * m + 1 = 25 + 7 * m by omega, show 24 + 7 * m + 2 = 26 + 7 * m by omega]
theorem goF_4 (h : Nat → Int) (sp : Sp) {m : Nat} (hm : (m : Int) < h 1) : goF h sp (28 + 7 * m) = if spM sp = (m : Int) then h (28 + 7 * m) + 1 else h (28 + 7 * m) := by
  have e : (28 + 7 * m - 24) / 7 = m := by omega
  unfold goF
  rw [e, if_neg (by omega), if_neg (by omega), if_neg (by omega), if_pos ⟨by omega, hm⟩, if_neg (by omega), if_pos (by omega)]
theorem goF_5 (h : Nat → Int) (sp : Sp) {m : Nat} (hm : (m : Int) < h 1) : goF h sp (29 + 7 * m) = if h 8 = (m : Int) then h (29 + 7 * m) + 1 else h (29 + 7 * m) := by
  have e : (29 + 7 * m - 24) / 7 = m := by omega
  unfold goF
  rw [e, if_neg (by omega), if_neg (by omega), if_neg (by omega), if_pos ⟨by omega, hm⟩, if_neg (by omega), if_neg (by omega), if_pos (by omega)]
theorem goF_w (h : Nat → Int) (sp : Sp) {m w : Nat} (hw : w < 7) (h0 : w ≠ 0) (h4 : w ≠ 4) (h5 : w ≠ 5) : goF h sp (24 + w + 7 * m) = h (24 + w + 7 * m) := by
  have e : (24 + w + 7 * m - 24) / 7 = m := by omega
  have e2 : (24 + w + 7 * m - 24) % 7 = w := by omega
  unfold goF
  rw [e, e2, if_neg (by omega), if_neg (by omega), if_neg (by omega)]
  by_cases hc : 24 ≤ 24 + w + 7 * m ∧ (m : Int) < h 1
  · rw [if_pos hc, if_neg h0, if_neg h4, if_neg h5]
  · rw [if_neg hc]
theorem goF_aw (h : Nat → Int) (sp : Sp) : awS (goF h sp) = awS h := by
  unfold awS
  congr 1
  funext a m
  rw [goF_lo h sp (by omega) (by omega) (by omega) (by omega : 1 < 24), goF_w h sp (w := 3) (by omega) (by omega) (by omega) (by omega)]
theorem spM_ok {h : Nat → Int} {sp : Sp} (hw : WF h) (ho : spOk h sp) : -1 ≤ spM sp ∧ spM sp < 7 ∧ -1 ≤ spT sp ∧ spT sp < 6 ∧ (spM sp = -1 ↔ spT sp = -1) ∧ (spT sp ≠ -1 → spT sp < h 0 ∧ spM sp < h 1 ∧ h (12 + 2 * (spT sp).toNat) ≤ h (24 + 7 * (spM sp).toNat)) := by
  have b := hw.1
  cases sp with
  | none => simp [spM, spT]
  | some q =>
    obtain ⟨m, t⟩ := q
    obtain ⟨h1, h2, h3⟩ := ho
    simp only [spM, spT, Int.toNat_natCast]
    omega
theorem goF_WF {h : Nat → Int} {sp : Sp} (hw : WF h) (ho : spOk h sp) (h5 : h 5 < 20000) : WF (goF h sp) := by
  have b := hw.1
  have hs := spM_ok hw ho
  have e0 : goF h sp 0 = h 0 := goF_lo h sp (by omega) (by omega) (by omega) (by omega)
  have e1 : goF h sp 1 = h 1 := goF_lo h sp (by omega) (by omega) (by omega) (by omega)
  have e2 : goF h sp 2 = h 2 := goF_lo h sp (by omega) (by omega) (by omega) (by omega)
  have e3 : goF h sp 3 = h 3 := goF_lo h sp (by omega) (by omega) (by omega) (by omega)
  have e4 : goF h sp 4 = h 4 := goF_lo h sp (by omega) (by omega) (by omega) (by omega)
  have e6 : goF h sp 6 = h 6 := goF_lo h sp (by omega) (by omega) (by omega) (by omega)
  have e7 : goF h sp 7 = h 7 := goF_lo h sp (by omega) (by omega) (by omega) (by omega)
  have e5 : goF h sp 5 = h 5 + 1 := by unfold goF; rw [if_pos rfl]
  have e9 : goF h sp 9 = spT sp := by unfold goF; rw [if_neg (by omega), if_pos rfl]
  have e8 : goF h sp 8 = if 0 < h 1 ∧ (h 5 + 1) % h 3 = 0 then (h 8 + 1) % h 1 else h 8 := by unfold goF; rw [if_neg (by omega), if_neg (by omega), if_pos rfl]
  have b8 : 0 ≤ goF h sp 8 ∧ (goF h sp 8 < h 1 ∨ (h 1 = 0 ∧ goF h sp 8 = 0)) := by
    rw [e8]
    split
    · rename_i hc
      have h1 := Int.emod_nonneg (h 8 + 1) (by omega : h 1 ≠ 0)
      have h2 := Int.emod_lt_of_pos (h 8 + 1) hc.1
      omega
    · omega
  refine ⟨?_, fun t ht => ?_, fun m hm => ?_, fun e he => ?_⟩
  · rw [e0, e1, e2, e3, e4, e5, e6, e7, e9]
    omega
  · rw [e0] at ht
    rw [goF_lo h sp (j := 12 + 2 * t) (by omega) (by omega) (by omega) (by omega), goF_lo h sp (j := 13 + 2 * t) (by omega) (by omega) (by omega) (by omega)]
    exact hw.2.1 t ht
  · rw [e1] at hm
    have hq := hw.2.2.1 m hm
    rw [goF_0 h sp hm, goF_4 h sp hm, goF_5 h sp hm, goF_w h sp (w := 1) (by omega) (by omega) (by omega) (by omega), goF_w h sp (w := 2) (by omega) (by omega) (by omega) (by omega), goF_w h sp (w := 3) (by omega) (by omega) (by omega) (by omega), goF_w h sp (w := 6) (by omega) (by omega) (by omega) (by omega), e5]
    simp only [Nat.reduceAdd]
    have k1 : 0 ≤ (if spM sp = (m : Int) then h (24 + 7 * m) - h (12 + 2 * (spT sp).toNat) else min (h (25 + 7 * m)) (h (24 + 7 * m) + h (26 + 7 * m))) ∧ (if spM sp = (m : Int) then h (24 + 7 * m) - h (12 + 2 * (spT sp).toNat) else min (h (25 + 7 * m)) (h (24 + 7 * m) + h (26 + 7 * m))) ≤ h (25 + 7 * m) := by
      split
      · rename_i hc
        have h6 := hs.2.2.2.2.2 (by omega)
        have h7 := hw.2.1 (spT sp).toNat (by omega)
        rw [hc, Int.toNat_natCast] at h6
        omega
      · omega
    have k2 : 0 ≤ (if spM sp = (m : Int) then h (28 + 7 * m) + 1 else h (28 + 7 * m)) ∧ (if spM sp = (m : Int) then h (28 + 7 * m) + 1 else h (28 + 7 * m)) ≤ h 5 + 1 := by split <;> omega
    have k3 : 0 ≤ (if h 8 = (m : Int) then h (29 + 7 * m) + 1 else h (29 + 7 * m)) ∧ (if h 8 = (m : Int) then h (29 + 7 * m) + 1 else h (29 + 7 * m)) ≤ h 5 + 1 := by split <;> omega
    omega
  · rw [e2] at he
    rw [goF_hi h sp (j := 73 + 2 * e) hw (by omega), goF_hi h sp (j := 74 + 2 * e) hw (by omega), e0, e1]
    exact hw.2.2.2 e he
theorem s_goBy {CALL : CT} (hC : RuleAll CALL) {r : Nat} {σ : AM} {K : AV → AM → Prop} {n : Nat} {sp : Sp} {h0 : Nat → Int} (hr : HRep σ n h0) (hw : WF h0) (ho : spOk h0 sp) (h5 : h0 5 < 20000) (h : ∀ σ' : AM, HRep σ' n (goF h0 sp) → Fr (HS n) σ σ' → σ'.2 = σ.2 → K unset σ') : CALL (r + 2) n_House_goBy [.inr (.inr (22, n)), .inl (Int32.ofInt (spM sp)), .inl (Int32.ofInt (spT sp))] σ K := by
  refine r_House_goBy hC (fun J hJ => ?_)
  refine hJ _ _ _ _ ?_
  conv => whnf
  have b := hw.1
  have hs := spM_ok hw ho
  obtain ⟨q0, q1, q2, q3, q4, q5, q6, q7, q8, q9, qa, qt, qm, qe⟩ := id hr
  have loop : ∀ (k i : Nat) (σi : AM), i + k = (h0 1).toNat → Fr (HS n) σ σi → σi.2 = σ.2 → (∀ t j, t ≠ 29 → t ≠ 32 → σi.1 t n j = σ.1 t n j) → (∀ m : Nat, σi.1 29 n m = if m < i then Int32.ofInt (goF h0 sp (24 + 7 * m)) else σ.1 29 n m) → (∀ m : Nat, σi.1 32 n m = if m < i then Int32.ofInt (goF h0 sp (28 + 7 * m)) else σ.1 32 n m) → J 2 [.inr (.inr (22, n)), .inl (Int32.ofInt (spM sp)), .inl (Int32.ofInt (spT sp)), .inl (Int32.ofInt (i : Int))] [] σi := by
    intro k
    induction k with
    | zero =>
      intro i σi hi hf h2 ho1 h29 h32
      have hib : (i : Int) = h0 1 := by omega
      refine hJ _ _ _ _ ?_
      conv => whnf
      rw [ho1 27 8 (by decide) (by decide), q1]
      refine ⟨fun c => ?_, fun c => ?_⟩
      · refine hJ _ _ _ _ ?_
        conv => whnf
        rw [show (wI σi 22 n 11 (Int32.ofInt (spT sp))).1 22 n 7 = Int32.ofInt (h0 5) by rw [wI1, if_neg (by omega), ho1 22 7 (by decide) (by decide), q5], oi_add]
        rw [show (wI (wI σi 22 n 11 (Int32.ofInt (spT sp))) 22 n 7 (Int32.ofInt (h0 5 + 1))).1 27 n 8 = Int32.ofInt (h0 1) by simp [wI1, ho1, q1]]
        -- the memory behind, but for who was silent and the turn
        have base : ∀ (σ2 : AM), Fr (HS n) σ σ2 → σ2.2 = σ.2 → (∀ t j, t ≠ 22 → t ≠ 33 → σ2.1 t n j = σi.1 t n j) → (∀ j, j ≠ 7 → j ≠ 10 → j ≠ 11 → σ2.1 22 n j = σ.1 22 n j) → σ2.1 22 n 7 = Int32.ofInt (h0 5 + 1) → σ2.1 22 n 11 = Int32.ofInt (spT sp) → σ2.1 22 n 10 = Int32.ofInt (goF h0 sp 8) → (∀ m : Nat, (m : Int) < h0 1 → σ2.1 33 n m = Int32.ofInt (goF h0 sp (29 + 7 * m))) → K unset σ2 := by
          intro σ2 f1 f2 f3 f4 f5 f6 f7 f8
          refine h σ2 ?_ f1 f2
          have z : ∀ {j : Nat}, j ≠ 5 → j ≠ 8 → j ≠ 9 → j < 24 → goF h0 sp j = h0 j := fun a1 a2 a3 a4 => goF_lo h0 sp a1 a2 a3 a4
          refine ⟨?_, ?_, ?_, ?_, ?_, ?_, ?_, ?_, f7, ?_, ?_, fun t ht => ?_, fun m hm => ?_, fun e he => ?_⟩
          · rw [z (by omega) (by omega) (by omega) (by omega), f3 23 3 (by decide) (by decide), ho1 23 3 (by decide) (by decide), q0]
          · rw [z (by omega) (by omega) (by omega) (by omega), f3 27 8 (by decide) (by decide), ho1 27 8 (by decide) (by decide), q1]
          · rw [z (by omega) (by omega) (by omega) (by omega), f4 4 (by decide) (by decide) (by decide), q2]
          · rw [z (by omega) (by omega) (by omega) (by omega), f4 5 (by decide) (by decide) (by decide), q3]
          · rw [z (by omega) (by omega) (by omega) (by omega), f4 6 (by decide) (by decide) (by decide), q4]
          · rw [f5]; congr 1
          · rw [z (by omega) (by omega) (by omega) (by omega), f4 8 (by decide) (by decide) (by decide), q6]
          · rw [z (by omega) (by omega) (by omega) (by omega), f4 9 (by decide) (by decide) (by decide), q7]
          · rw [f6]; congr 1
          · rw [goF_aw, f3 27 7 (by decide) (by decide), ho1 27 7 (by decide) (by decide), qa]
          · rw [z (by omega) (by omega) (by omega) (by omega)] at ht
            rw [z (by omega) (by omega) (by omega) (by omega), z (by omega) (by omega) (by omega) (by omega), f3 25 t (by decide) (by decide), f3 26 t (by decide) (by decide), ho1 25 t (by decide) (by decide), ho1 26 t (by decide) (by decide)]
            exact qt t ht
          · rw [z (by omega) (by omega) (by omega) (by omega)] at hm
            have hq := qm m hm
            have hmi : m < i := by omega
            rw [f3 29 m (by decide) (by decide), f3 30 m (by decide) (by decide), f3 31 m (by decide) (by decide), f3 32 m (by decide) (by decide), f3 34 m (by decide) (by decide), h29, h32, if_pos hmi, if_pos hmi, ho1 30 m (by decide) (by decide), ho1 31 m (by decide) (by decide), ho1 34 m (by decide) (by decide), hq.2.1, hq.2.2.1, hq.2.2.2.2.2, f8 m hm]
            have w1 := goF_w h0 sp (m := m) (w := 1) (by omega) (by omega) (by omega) (by omega)
            have w2 := goF_w h0 sp (m := m) (w := 2) (by omega) (by omega) (by omega) (by omega)
            have w6 := goF_w h0 sp (m := m) (w := 6) (by omega) (by omega) (by omega) (by omega)
            simp only [Nat.reduceAdd] at w1 w2 w6
            rw [w1, w2, w6]
            exact ⟨rfl, rfl, rfl, rfl, rfl, rfl⟩
          · rw [z (by omega) (by omega) (by omega) (by omega)] at he
            rw [goF_hi h0 sp (j := 73 + 2 * e) hw (by omega), goF_hi h0 sp (j := 74 + 2 * e) hw (by omega), f3 35 e (by decide) (by decide), f3 36 e (by decide) (by decide), ho1 35 e (by decide) (by decide), ho1 36 e (by decide) (by decide)]
            exact qe e he
        have fr1 : Fr (HS n) σ (wI (wI σi 22 n 11 (Int32.ofInt (spT sp))) 22 n 7 (Int32.ofInt (h0 5 + 1))) := (hf.tr (Fr.wI ⟨by omega, by omega, rfl⟩)).tr (Fr.wI ⟨by omega, by omega, rfl⟩)
        refine ⟨fun c2 => ?_, fun c2 => ?_⟩
        · rw [oi_0lt (by omega) (by omega)] at c2
          refine hJ _ _ _ _ ?_
          conv => whnf
          have eq8 : (wI (wI σi 22 n 11 (Int32.ofInt (spT sp))) 22 n 7 (Int32.ofInt (h0 5 + 1))).1 22 n 10 = Int32.ofInt (h0 8) := by simp [wI1, ho1, q8]
          rw [eq8]
          refine ⟨(oi_in (by omega) (by omega)).mpr ⟨by omega, by omega⟩, ?_⟩
          conv => whnf
          refine ⟨(oi_in (by omega) (by omega)).mpr ⟨by omega, by omega⟩, ?_⟩
          conv => whnf
          have hm8 := hw.2.2.1 (h0 8).toNat (by omega)
          have e33 : (wI (wI σi 22 n 11 (Int32.ofInt (spT sp))) 22 n 7 (Int32.ofInt (h0 5 + 1))).1 33 n (h0 8).toNat = Int32.ofInt (h0 (29 + 7 * (h0 8).toNat)) := by
            simp only [wI1]
            rw [if_neg (by omega), if_neg (by omega), ho1 33 _ (by decide) (by decide), (qm (h0 8).toNat (by omega)).2.2.2.2.1]
          rw [oi_nat (by omega) (by omega), e33, oi_add]
          generalize hσ2 : wI (wI (wI σi 22 n 11 (Int32.ofInt (spT sp))) 22 n 7 (Int32.ofInt (h0 5 + 1))) 33 n (h0 8).toNat (Int32.ofInt (h0 (29 + 7 * (h0 8).toNat) + 1)) = σ2
          have g1 : Fr (HS n) σ σ2 := by rw [← hσ2]; exact fr1.tr (Fr.wI ⟨by omega, by omega, rfl⟩)
          have g2 : σ2.2 = σ.2 := by rw [← hσ2]; exact h2
          have g3 : ∀ t j, t ≠ 22 → t ≠ 33 → σ2.1 t n j = σi.1 t n j := by
            intro t j t1 t2
            rw [← hσ2]
            simp only [wI1]
            rw [if_neg (by omega), if_neg (by omega), if_neg (by omega)]
          have g4 : ∀ j, j ≠ 7 → j ≠ 11 → σ2.1 22 n j = σ.1 22 n j := by
            intro j j1 j2
            rw [← hσ2]
            simp only [wI1]
            rw [if_neg (by omega), if_neg (by omega), if_neg (by omega), ho1 22 j (by decide) (by decide)]
          have g5 : σ2.1 22 n 7 = Int32.ofInt (h0 5 + 1) := by rw [← hσ2]; simp [wI1]
          have g6 : σ2.1 22 n 11 = Int32.ofInt (spT sp) := by rw [← hσ2]; simp [wI1]
          have g8 : ∀ m : Nat, (m : Int) < h0 1 → σ2.1 33 n m = Int32.ofInt (goF h0 sp (29 + 7 * m)) := by
            intro m hm
            rw [goF_5 h0 sp hm, ← hσ2, wI1]
            by_cases hmm : m = (h0 8).toNat
            · rw [if_pos ⟨rfl, rfl, hmm⟩, if_pos (by omega), hmm]
            · rw [if_neg (fun z => hmm z.2.2), if_neg (by omega)]
              simp only [wI1]
              rw [if_neg (by omega), if_neg (by omega), ho1 33 _ (by decide) (by decide), (qm m hm).2.2.2.2.1]
          have e8 : goF h0 sp 8 = if 0 < h0 1 ∧ (h0 5 + 1) % h0 3 = 0 then (h0 8 + 1) % h0 1 else h0 8 := by unfold goF; rw [if_neg (by omega), if_neg (by omega), if_pos rfl]
          have hmo := Int.emod_nonneg (h0 5 + 1) (by omega : h0 3 ≠ 0)
          have hmo2 := Int.emod_lt_of_pos (h0 5 + 1) (by omega : 0 < h0 3)
          rw [g4 5 (by decide) (by decide), q3]
          refine ⟨fun c3 => ?_, fun c3 => ?_⟩
          · rw [oi_le0 (by omega) (by omega)] at c3
            omega
          · conv => whnf
            rw [g5, g4 5 (by decide) (by decide), q3]
            refine ⟨fun z => by rw [oi_eq0 (by omega) (by omega)] at z; omega, ?_⟩
            conv => whnf
            rw [oi_mod (by omega) (by omega) (by omega) (by omega)]
            refine ⟨fun c4 => ?_, fun c4 => ?_⟩
            · rw [oi_eq0 (by omega) (by omega)] at c4
              refine hJ _ _ _ _ ?_
              conv => whnf
              refine base σ2 g1 g2 g3 (fun j a1 a2 a3 => g4 j a1 a3) g5 g6 ?_ g8
              rw [e8, if_neg (fun z => c4 z.2), g4 10 (by decide) (by decide), q8]
            · rw [oi_eq0 (by omega) (by omega)] at c4
              conv => whnf
              rw [g4 10 (by decide) (by decide), q8, g3 27 8 (by decide) (by decide), ho1 27 8 (by decide) (by decide), q1]
              refine ⟨fun z => by rw [oi_eq0 (by omega) (by omega)] at z; omega, ?_⟩
              conv => whnf
              refine hJ _ _ _ _ ?_
              conv => whnf
              rw [oi_add, oi_mod (by omega) (by omega) (by omega) (by omega)]
              refine base _ (g1.tr (Fr.wI ⟨by omega, by omega, rfl⟩)) g2 (fun t j a1 a2 => ?_) (fun j a1 a2 a3 => ?_) ?_ ?_ ?_ (fun m hm => ?_)
              · rw [wI1, if_neg (by omega), g3 t j a1 a2]
              · rw [wI1, if_neg (by omega), g4 j a1 a3]
              · rw [wI1, if_neg (by omega), g5]
              · rw [wI1, if_neg (by omega), g6]
              · rw [wI1, if_pos ⟨rfl, rfl, rfl⟩, e8, if_pos ⟨c2, c4⟩]
              · rw [wI1, if_neg (by omega), g8 m hm]
        · rw [oi_0lt (by omega) (by omega)] at c2
          conv => whnf
          have e8 : goF h0 sp 8 = h0 8 := by unfold goF; rw [if_neg (by omega), if_neg (by omega), if_pos rfl, if_neg (fun z => c2 z.1)]
          refine base _ fr1 h2 (fun t j a1 a2 => ?_) (fun j a1 a2 a3 => ?_) ?_ ?_ ?_ (fun m hm => ?_)
          · simp only [wI1]
            rw [if_neg (by omega), if_neg (by omega)]
          · simp only [wI1]
            rw [if_neg (by omega), if_neg (by omega), ho1 22 j (by decide) (by decide)]
          · simp [wI1]
          · simp [wI1]
          · simp only [wI1]
            rw [if_neg (by omega), if_neg (by omega), ho1 22 10 (by decide) (by decide), q8, e8]
          · omega
      · rw [oi_le (by omega) (by omega) (by omega) (by omega)] at c
        omega
    | succ k ih =>
      intro i σi hi hf h2 ho1 h29 h32
      have hti : (i : Int) < h0 1 := by omega
      have hmw := hw.2.2.1 i hti
      have hq := qm i hti
      refine hJ _ _ _ _ ?_
      conv => whnf
      rw [ho1 27 8 (by decide) (by decide), q1]
      refine ⟨fun c => ?_, fun c => ?_⟩
      · rw [oi_le (by omega) (by omega) (by omega) (by omega)] at c
        omega
      · conv => whnf
        refine ⟨fun c2 => ?_, fun c2 => ?_⟩
        · rw [oi_eq (by omega) (by omega) (by omega) (by omega)] at c2
          refine hJ _ _ _ _ ?_
          conv => whnf
          have h6 := hs.2.2.2.2.2 (by omega)
          have htw := hw.2.1 (spT sp).toNat (by omega)
          refine ⟨fun c3 => ?_, fun c3 => ?_⟩
          · rw [oi_lt0 (by omega) (by omega)] at c3
            omega
          · conv => whnf
            refine ⟨(oi_in (by omega) (by omega)).mpr ⟨by omega, by omega⟩, ?_⟩
            conv => whnf
            refine ⟨(oi_in (by omega) (by omega)).mpr ⟨by omega, by omega⟩, ?_⟩
            conv => whnf
            refine ⟨(oi_in (by omega) (by omega)).mpr ⟨by omega, by omega⟩, ?_⟩
            conv => whnf
            refine ⟨(oi_in (by omega) (by omega)).mpr ⟨by omega, by omega⟩, ?_⟩
            conv => whnf
            refine ⟨(oi_in (by omega) (by omega)).mpr ⟨by omega, by omega⟩, ?_⟩
            conv => whnf
            rw [oi_nat (by omega) (by omega), oi_nat (by omega) (by omega), Int.toNat_natCast, ho1 25 _ (by decide) (by decide), (qt (spT sp).toNat (by omega)).1, h29, if_neg (by omega), hq.1, oi_sub]
            rw [show (wI σi 29 n i (Int32.ofInt (h0 (24 + 7 * i) - h0 (12 + 2 * (spT sp).toNat)))).1 32 n i = Int32.ofInt (h0 (28 + 7 * i)) by rw [wI1, if_neg (by omega), h32, if_neg (by omega), hq.2.2.2.1], oi_add]
            refine hJ _ _ _ _ ?_
            conv => whnf
            rw [oi_succ]
            refine ih (i + 1) _ (by omega) ((hf.tr (Fr.wI ⟨by omega, by omega, rfl⟩)).tr (Fr.wI ⟨by omega, by omega, rfl⟩)) h2 (fun t j a1 a2 => ?_) (fun m => ?_) (fun m => ?_)
            · simp only [wI1]
              rw [if_neg (by omega), if_neg (by omega), ho1 t j a1 a2]
            · simp only [wI1]
              by_cases hmi : m = i
              · subst hmi
                rw [if_neg (by omega), if_pos (by simp), if_pos (by omega), goF_0 h0 sp hti, if_pos (by omega)]
              · rw [if_neg (by omega), if_neg (by omega), h29]
                by_cases hlt : m < i
                · rw [if_pos hlt, if_pos (by omega)]
                · rw [if_neg hlt, if_neg (by omega)]
            · simp only [wI1]
              by_cases hmi : m = i
              · subst hmi
                rw [if_pos (by simp), if_pos (by omega), goF_4 h0 sp hti, if_pos (by omega)]
              · rw [if_neg (by omega), if_neg (by omega), h32]
                by_cases hlt : m < i
                · rw [if_pos hlt, if_pos (by omega)]
                · rw [if_neg hlt, if_neg (by omega)]
        · rw [oi_eq (by omega) (by omega) (by omega) (by omega)] at c2
          conv => whnf
          refine s_restedL hC (by omega) (b := h0 (24 + 7 * i)) (mo := h0 (25 + 7 * i)) (re := h0 (26 + 7 * i)) (by rw [h29, if_neg (by omega), hq.1]) (by rw [ho1 30 _ (by decide) (by decide), hq.2.1]) (by rw [ho1 31 _ (by decide) (by decide), hq.2.2.1]) (by omega) (by omega) (by omega) (by omega) ?_
          conv => whnf
          refine ⟨(oi_in (by omega) (by omega)).mpr ⟨by omega, by omega⟩, ?_⟩
          conv => whnf
          rw [oi_nat (by omega) (by omega), Int.toNat_natCast]
          refine hJ _ _ _ _ ?_
          conv => whnf
          rw [oi_succ]
          refine ih (i + 1) _ (by omega) (hf.tr (Fr.wI ⟨by omega, by omega, rfl⟩)) h2 (fun t j a1 a2 => ?_) (fun m => ?_) (fun m => ?_)
          · rw [wI1, if_neg (by omega), ho1 t j a1 a2]
          · rw [wI1]
            by_cases hmi : m = i
            · subst hmi
              rw [if_pos ⟨rfl, rfl, rfl⟩, if_pos (by omega), goF_0 h0 sp hti, if_neg (by omega), Int.mul_one]
            · rw [if_neg (by omega), h29]
              by_cases hlt : m < i
              · rw [if_pos hlt, if_pos (by omega)]
              · rw [if_neg hlt, if_neg (by omega)]
          · rw [wI1, if_neg (by omega), h32]
            by_cases hmi : m = i
            · subst hmi
              rw [if_neg (by omega), if_pos (by omega), goF_4 h0 sp hti, if_neg (by omega), hq.2.2.2.1]
            · by_cases hlt : m < i
              · rw [if_pos hlt, if_pos (by omega)]
              · rw [if_neg hlt, if_neg (by omega)]
  exact loop (h0 1).toNat 0 σ (by omega) Fr.rf rfl (fun _ _ _ _ => rfl) (fun m => by rw [if_neg (by omega)]) (fun m => by rw [if_neg (by omega)])
