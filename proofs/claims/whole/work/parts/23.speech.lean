theorem oi_succ (i : Nat) : Int32.ofInt (i : Int) + Int32.ofInt 1 = Int32.ofInt ((i + 1 : Nat) : Int) := by rw [oi_add]; rfl
theorem s_firstCosting {CALL : CT} (hC : RuleAll CALL) {r : Nat} {σ : AM} {K : AV → AM → Prop} {n set : Nat} {b : Int} {h0 : Nat → Int} (hr : HRep σ n h0) (hw : WF h0) (hset : set < 64) (hb : 0 ≤ b ∧ b ≤ 200) (h : K (.inl (Int32.ofInt (opI (firstF (costS h0 b set) (h0 0).toNat 0)))) σ) : CALL (r + 2) n_Topics_firstCosting [.inr (.inr (23, n)), .inl (Int32.ofInt set), .inl (Int32.ofInt b)] σ K := by
  refine r_Topics_firstCosting hC (fun J hJ => ?_)
  refine hJ _ _ _ _ ?_
  conv => whnf
  have bb := hw.1
  have loop : ∀ (k i : Nat), i + k = (h0 0).toNat → K (.inl (Int32.ofInt (opI (firstF (costS h0 b set) k i)))) σ → J 2 [.inr (.inr (23, n)), .inl (Int32.ofInt set), .inl (Int32.ofInt b), .inl (Int32.ofInt (i : Int))] [] σ := by
    intro k
    induction k with
    | zero =>
      intro i hi hk
      refine hJ _ _ _ _ ?_
      conv => whnf
      rw [hr.1]
      refine ⟨fun c => ?_, fun c => ?_⟩
      · refine hJ _ _ _ _ ?_
        conv => whnf
        exact hk
      · rw [oi_le (by omega) (by omega) (by omega) (by omega)] at c
        omega
    | succ k ih =>
      intro i hi hk
      have hti : (i : Int) < h0 0 := by omega
      have htw := hw.2.1 i hti
      refine hJ _ _ _ _ ?_
      conv => whnf
      rw [hr.1]
      refine ⟨fun c => ?_, fun c => ?_⟩
      · rw [oi_le (by omega) (by omega) (by omega) (by omega)] at c
        omega
      · conv => whnf
        refine ⟨(oi_in (by omega) (by omega)).mpr ⟨by omega, by omega⟩, ?_⟩
        conv => whnf
        have e1 : σ.1 25 n i = Int32.ofInt (h0 (12 + 2 * i)) := by
          obtain ⟨-, -, -, -, -, -, -, -, -, -, -, et, -⟩ := hr
          exact (et i hti).1
        rw [oi_nat (by omega) (by omega), Int.toNat_natCast, e1]
        refine ⟨fun c2 => ?_, fun c2 => ?_⟩
        · rw [oi_lt (by omega) (by omega) (by omega) (by omega)] at c2
          refine hJ _ _ _ _ ?_
          conv => whnf
          rw [oi_succ]
          refine ih (i + 1) (by omega) ?_
          have e2 : costS h0 b set i = false := by
            have : ¬ h0 (12 + 2 * i) ≤ b := by omega
            simp [costS, this]
          rw [firstF, e2] at hk
          exact hk
        · rw [oi_lt (by omega) (by omega) (by omega) (by omega)] at c2
          conv => whnf
          refine s_has hC (by omega) (by omega) ?_
          conv => whnf
          have e2 : costS h0 b set i = set.testBit i := by
            have : h0 (12 + 2 * i) ≤ b := by omega
            simp [costS, this]
          rw [firstF, e2] at hk
          refine ⟨fun c3 => ?_, fun c3 => ?_⟩
          · rw [bI_eq0] at c3
            refine hJ _ _ _ _ ?_
            conv => whnf
            rw [oi_succ]
            refine ih (i + 1) (by omega) ?_
            rw [c3] at hk
            exact hk
          · rw [bI_ne0] at c3
            conv => whnf
            rw [c3] at hk
            exact hk
  exact loop (h0 0).toNat 0 (by omega) h
theorem s_speechOf {CALL : CT} (hC : RuleAll CALL) {r : Nat} {σ : AM} {K : AV → AM → Prop} {m t : Nat} (h : K (.inl (Int32.ofInt (spI (some (m, t))))) σ) : CALL (r + 1) n_x_speechOf [.inl (Int32.ofInt m), .inl (Int32.ofInt t)] σ K := by
  refine r_x_speechOf hC (fun J hJ => ?_)
  refine hJ _ _ _ _ ?_
  conv => whnf
  rw [oi_mul, oi_add]
  rw [show spI (some (m, t)) = (m : Int) * 6 + t by simp only [spI]; omega] at h
  exact h
theorem spI_bd {h : Nat → Int} {sp : Sp} (hw : WF h) (ho : spOk h sp) : -1 ≤ spI sp ∧ spI sp < 42 := by
  have b := hw.1
  cases sp with
  | none => exact ⟨by simp [spI], by simp [spI]⟩
  | some q =>
    obtain ⟨m, t⟩ := q
    obtain ⟨h1, h2, -⟩ := ho
    simp only [spI]
    omega
theorem spI_neg {h : Nat → Int} {sp : Sp} (hw : WF h) (ho : spOk h sp) : (spI sp = -1 ↔ sp = none) ∧ (0 ≤ spI sp → spI sp / 6 = spM sp ∧ spI sp % 6 = spT sp) := by
  have b := hw.1
  cases sp with
  | none => exact ⟨⟨fun _ => rfl, fun _ => rfl⟩, fun z => by simp [spI] at z⟩
  | some q =>
    obtain ⟨m, t⟩ := q
    obtain ⟨h1, h2, -⟩ := ho
    simp only [spI, spM, spT]
    refine ⟨⟨fun z => by omega, fun z => by cases z⟩, fun _ => by omega⟩
theorem s_monkOf {CALL : CT} (hC : RuleAll CALL) {r : Nat} {σ : AM} {K : AV → AM → Prop} {sp : Sp} {h0 : Nat → Int} (hw : WF h0) (ho : spOk h0 sp) (h : K (.inl (Int32.ofInt (spM sp))) σ) : CALL (r + 1) n_x_monkOf [.inl (Int32.ofInt (spI sp))] σ K := by
  refine r_x_monkOf hC (fun J hJ => ?_)
  refine hJ _ _ _ _ ?_
  conv => whnf
  have b := spI_bd hw ho
  have e := spI_neg hw ho
  refine ⟨fun c => ?_, fun c => ?_⟩
  · rw [oi_0le (by omega) (by omega)] at c
    refine hJ _ _ _ _ ?_
    conv => whnf
    refine ⟨fun z => by rw [oi_eq0 (by omega) (by omega)] at z; omega, ?_⟩
    conv => whnf
    refine hJ _ _ _ _ ?_
    conv => whnf
    rw [oi_div (by omega) (by omega) (by omega) (by omega), (e.2 c).1]
    exact h
  · rw [oi_0le (by omega) (by omega)] at c
    conv => whnf
    refine hJ _ _ _ _ ?_
    conv => whnf
    have : sp = none := e.1.mp (by omega)
    subst this
    exact h
theorem s_topicOf {CALL : CT} (hC : RuleAll CALL) {r : Nat} {σ : AM} {K : AV → AM → Prop} {sp : Sp} {h0 : Nat → Int} (hw : WF h0) (ho : spOk h0 sp) (h : K (.inl (Int32.ofInt (spT sp))) σ) : CALL (r + 1) n_x_topicOf [.inl (Int32.ofInt (spI sp))] σ K := by
  refine r_x_topicOf hC (fun J hJ => ?_)
  refine hJ _ _ _ _ ?_
  conv => whnf
  have b := spI_bd hw ho
  have e := spI_neg hw ho
  refine ⟨fun c => ?_, fun c => ?_⟩
  · rw [oi_0le (by omega) (by omega)] at c
    refine hJ _ _ _ _ ?_
    conv => whnf
    refine ⟨fun z => by rw [oi_eq0 (by omega) (by omega)] at z; omega, ?_⟩
    conv => whnf
    refine hJ _ _ _ _ ?_
    conv => whnf
    rw [oi_mod (by omega) (by omega) (by omega) (by omega), (e.2 c).2]
    exact h
  · rw [oi_0le (by omega) (by omega)] at c
    conv => whnf
    refine hJ _ _ _ _ ?_
    conv => whnf
    have : sp = none := e.1.mp (by omega)
    subst this
    exact h
theorem s_rostered {CALL : CT} (hC : RuleAll CALL) {r : Nat} {σ : AM} {K : AV → AM → Prop} {n : Nat} {h0 : Nat → Int} (hr : HRep σ n h0) (hw : WF h0) (h : K (.inl (Int32.ofInt (spI (rostS h0)))) σ) : CALL (r + 3) n_House_rosteredSpeech [.inr (.inr (22, n))] σ K := by
  refine r_House_rosteredSpeech hC (fun J hJ => ?_)
  refine hJ _ _ _ _ ?_
  conv => whnf
  have b := hw.1
  obtain ⟨-, -, e2, -, -, e5, -, -, -, -, -, -, -, ee⟩ := id hr
  rw [e2]
  refine ⟨fun c => ?_, fun c => ?_⟩
  · rw [oi_0lt (by omega) (by omega)] at c
    refine hJ _ _ _ _ ?_
    conv => whnf
    rw [e2, e5]
    refine ⟨fun z => by rw [oi_eq0 (by omega) (by omega)] at z; omega, ?_⟩
    conv => whnf
    have hb : 0 ≤ h0 5 % h0 2 := Int.emod_nonneg _ (by omega)
    have hb2 : h0 5 % h0 2 < h0 2 := Int.emod_lt_of_pos _ c
    have he := hw.2.2.2 (h0 5 % h0 2).toNat (by omega)
    have hq := ee (h0 5 % h0 2).toNat (by omega)
    rw [oi_mod (by omega) (by omega) (by omega) (by omega)]
    refine ⟨(oi_in (by omega) (by omega)).mpr ⟨by omega, by omega⟩, ?_⟩
    conv => whnf
    refine ⟨(oi_in (by omega) (by omega)).mpr ⟨by omega, by omega⟩, ?_⟩
    conv => whnf
    rw [oi_nat (by omega) (by omega), hq.1, hq.2]
    obtain ⟨m, em⟩ : ∃ m : Nat, h0 (73 + 2 * (h0 5 % h0 2).toNat) = (m : Int) := ⟨(h0 (73 + 2 * (h0 5 % h0 2).toNat)).toNat, by omega⟩
    obtain ⟨t, et⟩ : ∃ t : Nat, h0 (74 + 2 * (h0 5 % h0 2).toNat) = (t : Int) := ⟨(h0 (74 + 2 * (h0 5 % h0 2).toNat)).toNat, by omega⟩
    have er : rostS h0 = if canS h0 m t then some (m, t) else none := by
      unfold rostS
      rw [if_pos c, em, et, Int.toNat_natCast, Int.toNat_natCast]
    rw [em, et] at he ⊢
    refine s_canSay hC hr hw (by omega) (by omega) ?_
    conv => whnf
    refine ⟨fun c2 => ?_, fun c2 => ?_⟩
    · rw [bI_eq0] at c2
      refine hJ _ _ _ _ ?_
      conv => whnf
      refine hJ _ _ _ _ ?_
      conv => whnf
      rw [er, c2] at h
      exact h
    · rw [bI_ne0] at c2
      conv => whnf
      refine s_speechOf hC ?_
      conv => whnf
      refine hJ _ _ _ _ ?_
      conv => whnf
      rw [er, c2] at h
      exact h
  · rw [oi_0lt (by omega) (by omega)] at c
    conv => whnf
    have er : rostS h0 = none := by unfold rostS; rw [if_neg c]
    rw [er] at h
    exact h
theorem s_helping {CALL : CT} (hC : RuleAll CALL) {r : Nat} {σ : AM} {K : AV → AM → Prop} {n : Nat} {h0 : Nat → Int} (hr : HRep σ n h0) (hw : WF h0) (h : K (.inl (Int32.ofInt (spI (helpS h0)))) σ) : CALL (r + 3) n_House_helpingSpeech [.inr (.inr (22, n))] σ K := by
  refine r_House_helpingSpeech hC (fun J hJ => ?_)
  refine hJ _ _ _ _ ?_
  conv => whnf
  have b := hw.1
  obtain ⟨-, e1, -, -, -, -, -, -, -, -, -, -, em, -⟩ := id hr
  have loop : ∀ (k i : Nat), i + k = (h0 1).toNat → K (.inl (Int32.ofInt (spI (firstG (fun m => if talkS h0 m then (firstF (costS h0 (h0 (24 + 7 * m)) (openS h0)) (h0 0).toNat 0).map (fun t => (m, t)) else none) k i)))) σ → ∀ x2 : AV, J 2 [.inr (.inr (22, n)), .inl (Int32.ofInt (i : Int)), x2] [] σ := by
    intro k
    induction k with
    | zero =>
      intro i hi hk x2
      refine hJ _ _ _ _ ?_
      conv => whnf
      rw [e1]
      refine ⟨fun c => ?_, fun c => ?_⟩
      · refine hJ _ _ _ _ ?_
        conv => whnf
        exact hk
      · rw [oi_le (by omega) (by omega) (by omega) (by omega)] at c
        omega
    | succ k ih =>
      intro i hi hk x2
      have hti : (i : Int) < h0 1 := by omega
      have htw := hw.2.2.1 i hti
      refine hJ _ _ _ _ ?_
      conv => whnf
      rw [e1]
      refine ⟨fun c => ?_, fun c => ?_⟩
      · rw [oi_le (by omega) (by omega) (by omega) (by omega)] at c
        omega
      · conv => whnf
        refine s_mayTalk hC hr hw hti ?_
        conv => whnf
        rw [firstG] at hk
        refine ⟨fun c2 => ?_, fun c2 => ?_⟩
        · rw [bI_eq0] at c2
          refine hJ _ _ _ _ ?_
          conv => whnf
          refine hJ _ _ _ _ ?_
          conv => whnf
          refine ⟨fun c3 => ?_, fun c3 => ?_⟩
          · refine hJ _ _ _ _ ?_
            conv => whnf
            rw [oi_succ]
            refine ih (i + 1) (by omega) ?_ _
            simp only [c2] at hk
            exact hk
          · exact absurd rfl c3
        · rw [bI_ne0] at c2
          conv => whnf
          refine s_open hC hr hw ?_
          conv => whnf
          refine ⟨(oi_in (by omega) (by omega)).mpr ⟨by omega, by omega⟩, ?_⟩
          conv => whnf
          rw [oi_nat (by omega) (by omega), Int.toNat_natCast, (em i hti).1]
          refine s_firstCosting hC hr hw (openS_lt hw) ⟨by omega, by omega⟩ ?_
          conv => whnf
          refine hJ _ _ _ _ ?_
          conv => whnf
          simp only [c2, if_true] at hk
          cases hf : firstF (costS h0 (h0 (24 + 7 * i)) (openS h0)) (h0 0).toNat 0 with
          | none =>
            rw [hf] at hk
            refine ⟨fun c3 => ?_, fun c3 => ?_⟩
            · refine hJ _ _ _ _ ?_
              conv => whnf
              rw [oi_succ]
              exact ih (i + 1) (by omega) hk _
            · exact absurd rfl c3
          | some t =>
            have htl := (firstF_lt hf).1
            rw [hf] at hk
            refine ⟨fun c3 => ?_, fun c3 => ?_⟩
            · rw [show opI (some t) = (t : Int) from rfl, oi_eq (by omega) (by omega) (by omega) (by omega)] at c3
              omega
            · conv => whnf
              refine s_speechOf hC ?_
              exact hk
  exact loop (h0 1).toNat 0 (by omega) h _
theorem s_speech {CALL : CT} (hC : RuleAll CALL) {r : Nat} {σ : AM} {K : AV → AM → Prop} {n : Nat} {h0 : Nat → Int} (hr : HRep σ n h0) (hw : WF h0) (h : K (.inl (Int32.ofInt (spI (speechS h0)))) σ) : CALL (r + 4) n_House_speech [.inr (.inr (22, n))] σ K := by
  refine r_House_speech hC (fun J hJ => ?_)
  refine hJ _ _ _ _ ?_
  conv => whnf
  refine s_rostered hC hr hw ?_
  conv => whnf
  have b := spI_bd hw (rostS_ok hw)
  have e := spI_neg hw (rostS_ok hw)
  refine ⟨fun c => ?_, fun c => ?_⟩
  · rw [oi_eq (by omega) (by omega) (by omega) (by omega), e.1] at c
    refine hJ _ _ _ _ ?_
    conv => whnf
    refine hJ _ _ _ _ ?_
    conv => whnf
    have e2 : speechS h0 = rostS h0 := by
      unfold speechS
      cases hq : rostS h0 with
      | none => exact absurd hq c
      | some q => rfl
    rw [e2] at h
    exact h
  · rw [oi_eq (by omega) (by omega) (by omega) (by omega), e.1] at c
    conv => whnf
    refine s_helping hC hr hw ?_
    conv => whnf
    refine hJ _ _ _ _ ?_
    conv => whnf
    have e2 : speechS h0 = helpS h0 := by
      unfold speechS
      rw [c]
    rw [e2] at h
    exact h
