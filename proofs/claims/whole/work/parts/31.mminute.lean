theorem firstF_can {h : Nat → Int} {m : Nat} : ∀ (k i : Nat), firstF (canS h m) k i = if talkS h m then firstF (costS h (h (24 + 7 * m)) (openS h)) k i else none
  | 0, i => by simp [firstF]
  | k + 1, i => by
    rw [firstF, firstF_can k (i + 1)]
    cases ht : talkS h m with
    | false => simp [canS, ht]
    | true => simp [canS, ht, costS, firstF]
def helpB (h : Nat → Int) (m : Nat) : Sp := (firstF (canS h m) (h 0).toNat 0).map (fun t => (m, t))
theorem helpS_eq (h : Nat → Int) : helpS h = firstG (helpB h) (h 1).toNat 0 := by
  unfold helpS
  congr 1
  funext m
  unfold helpB
  rw [firstF_can]
  cases talkS h m <;> simp
theorem s_m_laysSpeaker {CALL : CT} (hC : RuleAll CALL) {r : Nat} {σ : AM} {K : AV → AM → Prop} {h0 : Nat → Int} (hr : M0 σ h0) (hw : WF h0) (h : ∀ σ' : AM, M0 σ' h0 → MF σ σ' → (∀ j, σ'.1 47 0 j = σ.1 47 0 j) → σ'.1 46 0 24 = Int32.ofInt (spM (speechS h0)) → σ'.1 46 0 25 = Int32.ofInt (spT (speechS h0)) → σ'.1 46 0 26 = bI (decide (rostS h0 = none ∧ speechS h0 ≠ none)) → K unset σ') : CALL (r + 5) n_m_laysSpeaker [.inr (.inr (46, 0))] σ K := by
  refine r_m_laysSpeaker hC (fun J hJ => ?_)
  refine hJ _ _ _ _ ?_
  conv => whnf
  have b := hw.1
  refine ⟨Or.inl rfl, ?_⟩
  conv => whnf
  -- what holds from here on: his own fields may change
  have help : rostS h0 = none → ∀ (σ1 : AM) (x1 : AV), M0 σ1 h0 → MF σ σ1 → (∀ j, σ1.1 47 0 j = σ.1 47 0 j) → σ1.1 46 0 26 = 0 → J 69 [.inr (.inr (46, 0)), x1, unset] [] σ1 := by
    intro hro σ1 x1 hr1 hm1 hs1 h26
    have es : speechS h0 = firstG (helpB h0) (h0 1).toNat 0 := by
      unfold speechS
      rw [hro]
      exact helpS_eq h0
    have loop : ∀ (k i : Nat) (x2 : AV), i + k = (h0 1).toNat → speechS h0 = firstG (helpB h0) k i → J 71 [.inr (.inr (46, 0)), .inl (Int32.ofInt (i : Int)), x2] [] σ1 := by
      intro k
      induction k with
      | zero =>
        intro i x2 hi he
        refine hJ _ _ _ _ ?_
        conv => whnf
        refine ⟨(oi_in (by omega) (by omega)).mpr ⟨by omega, by omega⟩, ?_⟩
        conv => whnf
        rw [show (Int32.ofInt 1).toNatClampNeg = 1 from rfl, hr1 1 (by omega)]
        refine ⟨fun c => ?_, fun c => ?_⟩
        · refine hJ _ _ _ _ ?_
          conv => whnf
          have e0 : speechS h0 = none := he
          refine h _ (hr1.fd.fd) (hm1.tr ((MF.fd (by omega)).tr (MF.fd (by omega)))) (fun j => ?_) ?_ ?_ ?_
          · simp only [wI1]
            rw [if_neg (by omega), if_neg (by omega), hs1]
          · rw [e0]; simp [wI1]; rfl
          · rw [e0]; simp [wI1]; rfl
          · rw [show decide (rostS h0 = none ∧ speechS h0 ≠ none) = false from decide_eq_false (fun z => z.2 e0)]
            simp only [wI1]
            rw [if_neg (by omega), if_neg (by omega), h26]
            rfl
        · rw [oi_le (by omega) (by omega) (by omega) (by omega)] at c
          omega
      | succ k ih =>
        intro i x2 hi he
        have hti : (i : Int) < h0 1 := by omega
        refine hJ _ _ _ _ ?_
        conv => whnf
        refine ⟨(oi_in (by omega) (by omega)).mpr ⟨by omega, by omega⟩, ?_⟩
        conv => whnf
        rw [show (Int32.ofInt 1).toNatClampNeg = 1 from rfl, hr1 1 (by omega)]
        refine ⟨fun c => ?_, fun c => ?_⟩
        · rw [oi_le (by omega) (by omega) (by omega) (by omega)] at c
          omega
        · conv => whnf
          rw [firstG] at he
          have inner : ∀ (d t : Nat), t + d = (h0 0).toNat → firstF (canS h0 i) (h0 0).toNat 0 = firstF (canS h0 i) d t → J 83 [.inr (.inr (46, 0)), .inl (Int32.ofInt (i : Int)), .inl (Int32.ofInt (t : Int))] [] σ1 := by
            intro d
            induction d with
            | zero =>
              intro t ht hf
              refine hJ _ _ _ _ ?_
              conv => whnf
              refine ⟨(oi_in (by omega) (by omega)).mpr ⟨by omega, by omega⟩, ?_⟩
              conv => whnf
              rw [show (Int32.ofInt 0).toNatClampNeg = 0 from rfl, hr1 0 (by omega)]
              refine ⟨fun c2 => ?_, fun c2 => ?_⟩
              · refine hJ _ _ _ _ ?_
                conv => whnf
                rw [oi_succ]
                refine ih (i + 1) _ (by omega) ?_
                rw [he]
                unfold helpB
                rw [hf]
                rfl
              · rw [oi_le (by omega) (by omega) (by omega) (by omega)] at c2
                omega
            | succ d ih2 =>
              intro t ht hf
              have htt : (t : Int) < h0 0 := by omega
              refine hJ _ _ _ _ ?_
              conv => whnf
              refine ⟨(oi_in (by omega) (by omega)).mpr ⟨by omega, by omega⟩, ?_⟩
              conv => whnf
              rw [show (Int32.ofInt 0).toNatClampNeg = 0 from rfl, hr1 0 (by omega)]
              refine ⟨fun c2 => ?_, fun c2 => ?_⟩
              · rw [oi_le (by omega) (by omega) (by omega) (by omega)] at c2
                omega
              · conv => whnf
                refine s_m_canSay hC hr1 hw hti htt ?_
                conv => whnf
                refine ⟨fun c3 => ?_, fun c3 => ?_⟩
                · rw [bI_ne0] at c3
                  refine hJ _ _ _ _ ?_
                  conv => whnf
                  have ef : firstF (canS h0 i) (h0 0).toNat 0 = some t := by rw [hf, firstF, c3]; rfl
                  have es2 : speechS h0 = some (i, t) := by
                    rw [he]
                    unfold helpB
                    rw [ef]
                    rfl
                  refine ⟨Or.inr rfl, ?_⟩
                  conv => whnf
                  refine h _ (hr1.fd.fd.fd) (hm1.tr (((MF.fd (by omega)).tr (MF.fd (by omega))).tr (MF.fd (by omega)))) (fun j => ?_) ?_ ?_ ?_
                  · simp only [wI1]
                    rw [if_neg (by omega), if_neg (by omega), if_neg (by omega), hs1]
                  · rw [es2]; simp [wI1]; rfl
                  · rw [es2]; simp [wI1]; rfl
                  · rw [show decide (rostS h0 = none ∧ speechS h0 ≠ none) = true from decide_eq_true ⟨hro, by rw [es2]; simp⟩]
                    simp [wI1]
                    rfl
                · rw [bI_eq0] at c3
                  conv => whnf
                  refine hJ _ _ _ _ ?_
                  conv => whnf
                  rw [oi_succ]
                  refine ih2 (t + 1) (by omega) ?_
                  rw [hf, firstF, c3]
                  rfl
          exact inner (h0 0).toNat 0 (by omega) rfl
    refine hJ _ _ _ _ ?_
    conv => whnf
    exact loop (h0 1).toNat 0 _ (by omega) es
  have m1 : M0 (wI σ 46 0 26 (Int32.ofInt 0)) h0 := hr.fd
  have f1 : MF σ (wI σ 46 0 26 (Int32.ofInt 0)) := MF.fd (by omega)
  refine ⟨(oi_in (by omega) (by omega)).mpr ⟨by omega, by omega⟩, ?_⟩
  conv => whnf
  rw [show (Int32.ofInt 2).toNatClampNeg = 2 from rfl, m1 2 (by omega)]
  refine ⟨fun c => ?_, fun c => ?_⟩
  · rw [oi_le0 (by omega) (by omega)] at c
    refine help ?_ _ _ m1 f1 (fun j => by rw [wI1, if_neg (by omega)]) (by simp [wI1])
    unfold rostS
    rw [if_neg (by omega)]
  · rw [oi_le0 (by omega) (by omega)] at c
    have c : 0 < h0 2 := by omega
    conv => whnf
    refine ⟨(oi_in (by omega) (by omega)).mpr ⟨by omega, by omega⟩, ?_⟩
    conv => whnf
    refine ⟨(oi_in (by omega) (by omega)).mpr ⟨by omega, by omega⟩, ?_⟩
    conv => whnf
    rw [show (Int32.ofInt 2).toNatClampNeg = 2 from rfl, m1 2 (by omega), show (Int32.ofInt 5).toNatClampNeg = 5 from rfl, m1 5 (by omega)]
    refine ⟨fun z => by rw [oi_eq0 (by omega) (by omega)] at z; omega, ?_⟩
    conv => whnf
    have hb : 0 ≤ h0 5 % h0 2 := Int.emod_nonneg _ (by omega)
    have hb2 : h0 5 % h0 2 < h0 2 := Int.emod_lt_of_pos _ c
    have he := hw.2.2.2 (h0 5 % h0 2).toNat (by omega)
    rw [oi_mod (by omega) (by omega) (by omega) (by omega)]
    refine s_m_entryRow hC ?_
    conv => whnf
    refine ⟨(oi_in (by omega) (by omega)).mpr ⟨by omega, by omega⟩, ?_⟩
    conv => whnf
    rw [oi_add]
    refine ⟨(oi_in (by omega) (by omega)).mpr ⟨by omega, by omega⟩, ?_⟩
    conv => whnf
    obtain ⟨m, em⟩ : ∃ m : Nat, h0 (73 + 2 * (h0 5 % h0 2).toNat) = (m : Int) := ⟨(h0 (73 + 2 * (h0 5 % h0 2).toNat)).toNat, by omega⟩
    obtain ⟨t, et⟩ : ∃ t : Nat, h0 (74 + 2 * (h0 5 % h0 2).toNat) = (t : Int) := ⟨(h0 (74 + 2 * (h0 5 % h0 2).toNat)).toNat, by omega⟩
    have er : rostS h0 = if canS h0 m t then some (m, t) else none := by
      unfold rostS
      rw [if_pos c, em, et, Int.toNat_natCast, Int.toNat_natCast]
    rw [em, et] at he
    rw [oi_nat (by omega) (by omega), oi_nat (by omega) (by omega), show (73 + 2 * (h0 5 % h0 2)).toNat = 73 + 2 * (h0 5 % h0 2).toNat by omega, show (73 + 2 * (h0 5 % h0 2) + 1).toNat = 74 + 2 * (h0 5 % h0 2).toNat by omega, m1 _ (by omega), (m1.fd) (74 + 2 * (h0 5 % h0 2).toNat) (by omega), em, et]
    rw [show (wI (wI (wI σ 46 0 26 (Int32.ofInt 0)) 46 0 24 (Int32.ofInt (m : Int))) 46 0 25 (Int32.ofInt (t : Int))).1 46 0 24 = Int32.ofInt (m : Int) by simp [wI1], show (wI (wI (wI σ 46 0 26 (Int32.ofInt 0)) 46 0 24 (Int32.ofInt (m : Int))) 46 0 25 (Int32.ofInt (t : Int))).1 46 0 25 = Int32.ofInt (t : Int) by simp [wI1]]
    refine s_m_canSay hC m1.fd.fd hw (by omega) (by omega) ?_
    conv => whnf
    refine ⟨fun c2 => ?_, fun c2 => ?_⟩
    · rw [bI_eq0] at c2
      refine help (by rw [er, c2]; rfl) _ _ m1.fd.fd (f1.tr ((MF.fd (by omega)).tr (MF.fd (by omega)))) (fun j => ?_) (by simp [wI1])
      simp only [wI1]
      rw [if_neg (by omega), if_neg (by omega), if_neg (by omega)]
    · rw [bI_ne0] at c2
      conv => whnf
      have es : speechS h0 = some (m, t) := by
        unfold speechS
        rw [er, c2]
        rfl
      refine h _ m1.fd.fd (f1.tr ((MF.fd (by omega)).tr (MF.fd (by omega)))) (fun j => ?_) ?_ ?_ ?_
      · simp only [wI1]
        rw [if_neg (by omega), if_neg (by omega), if_neg (by omega)]
      · rw [es]; simp [wI1]; rfl
      · rw [es]; simp [wI1]; rfl
      · rw [show decide (rostS h0 = none ∧ speechS h0 ≠ none) = false from decide_eq_false (fun z => by rw [er, c2] at z; cases z.1)]
        simp [wI1]
        rfl

/-- the numbers with the first i monks' done -/
def goP (h : Nat → Int) (sp : Sp) (i j : Nat) : Int := if 24 ≤ j ∧ j < 24 + 7 * i then goF h sp j else h j
theorem goP_0 (h : Nat → Int) (sp : Sp) : goP h sp 0 = h := by
  funext j
  unfold goP
  rw [if_neg (by omega)]
theorem goP_out {h : Nat → Int} {sp : Sp} {i j : Nat} (hj : j < 24 ∨ 24 + 7 * i ≤ j) : goP h sp i j = h j := by
  unfold goP
  rw [if_neg (by omega)]
/-- one monk more -/
def goQ (h : Nat → Int) (sp : Sp) (i : Nat) (f : Nat → Int) : Prop := ∀ j, f j = goP h sp (i + 1) j
theorem s_m_saysBy {CALL : CT} (hC : RuleAll CALL) {r : Nat} {σ : AM} {K : AV → AM → Prop} {sp : Sp} {h0 : Nat → Int} (hr : M0 σ h0) (hw : WF h0) (ho : spOk h0 sp) (h5 : h0 5 < 20000) (h : ∀ σ' : AM, M0 σ' (goF h0 sp) → MF σ σ' → (∀ j, σ'.1 46 0 j = σ.1 46 0 j) → K unset σ') : CALL (r + 3) n_m_saysBy [.inr (.inr (46, 0)), .inl (Int32.ofInt (spM sp)), .inl (Int32.ofInt (spT sp))] σ K := by
  refine r_m_saysBy hC (fun J hJ => ?_)
  refine hJ _ _ _ _ ?_
  conv => whnf
  have b := hw.1
  have hs := spM_ok hw ho
  have loop : ∀ (k i : Nat) (σi : AM) (x4 : AV), i + k = (h0 1).toNat → M0 σi (goP h0 sp i) → MF σ σi → (∀ j, σi.1 46 0 j = σ.1 46 0 j) → J 2 [.inr (.inr (46, 0)), .inl (Int32.ofInt (spM sp)), .inl (Int32.ofInt (spT sp)), .inl (Int32.ofInt (i : Int)), x4] [] σi := by
    intro k
    induction k with
    | zero =>
      intro i σi x4 hi hri hf hs46
      have hib : (i : Int) = h0 1 := by omega
      refine hJ _ _ _ _ ?_
      conv => whnf
      refine ⟨(oi_in (by omega) (by omega)).mpr ⟨by omega, by omega⟩, ?_⟩
      conv => whnf
      rw [show (Int32.ofInt 1).toNatClampNeg = 1 from rfl, hri 1 (by omega), goP_out (by omega)]
      refine ⟨fun c => ?_, fun c => ?_⟩
      · refine hJ _ _ _ _ ?_
        conv => whnf
        refine ⟨(oi_in (by omega) (by omega)).mpr ⟨by omega, by omega⟩, ?_⟩
        conv => whnf
        refine ⟨(oi_in (by omega) (by omega)).mpr ⟨by omega, by omega⟩, ?_⟩
        conv => whnf
        refine ⟨(oi_in (by omega) (by omega)).mpr ⟨by omega, by omega⟩, ?_⟩
        conv => whnf
        refine ⟨(oi_in (by omega) (by omega)).mpr ⟨by omega, by omega⟩, ?_⟩
        conv => whnf
        refine ⟨(oi_in (by omega) (by omega)).mpr ⟨by omega, by omega⟩, ?_⟩
        conv => whnf
        rw [show (Int32.ofInt 9).toNatClampNeg = 9 from rfl, show (Int32.ofInt 5).toNatClampNeg = 5 from rfl, show (Int32.ofInt 3).toNatClampNeg = 3 from rfl]
        rw [show (wI σi 47 0 9 (Int32.ofInt (spT sp))).1 47 0 5 = Int32.ofInt (h0 5) by rw [wI1, if_neg (by omega), hri 5 (by omega), goP_out (by omega)], oi_add]
        generalize hσ2 : wI (wI σi 47 0 9 (Int32.ofInt (spT sp))) 47 0 5 (Int32.ofInt (h0 5 + 1)) = σ2
        have k5 : σ2.1 47 0 5 = Int32.ofInt (h0 5 + 1) := by rw [← hσ2]; simp [wI1]
        have ko : ∀ j, j < 97 → j ≠ 5 → j ≠ 9 → σ2.1 47 0 j = Int32.ofInt (goP h0 sp i j) := by
          intro j hj j5 j9
          rw [← hσ2]
          simp only [wI1]
          rw [if_neg (by omega), if_neg (by omega), hri j hj]
        have k9 : σ2.1 47 0 9 = Int32.ofInt (spT sp) := by rw [← hσ2]; simp [wI1]
        have kf : MF σ σ2 := by rw [← hσ2]; exact hf.tr ((MF.at (by omega)).tr (MF.at (by omega)))
        have k46 : ∀ j, σ2.1 46 0 j = σ.1 46 0 j := by
          intro j
          rw [← hσ2]
          simp only [wI1]
          rw [if_neg (by omega), if_neg (by omega), hs46]
        rw [k5, ko 3 (by omega) (by omega) (by omega), goP_out (by omega)]
        have hmo := Int.emod_nonneg (h0 5 + 1) (by omega : h0 3 ≠ 0)
        have hmo2 := Int.emod_lt_of_pos (h0 5 + 1) (by omega : 0 < h0 3)
        refine ⟨fun z => by rw [oi_eq0 (by omega) (by omega)] at z; omega, ?_⟩
        conv => whnf
        rw [oi_mod (by omega) (by omega) (by omega) (by omega)]
        -- the numbers behind it, but for who is silent
        have eq : ∀ j, j < 97 → j ≠ 8 → σ2.1 47 0 j = Int32.ofInt (goF h0 sp j) := by
          intro j hj j8
          by_cases j5 : j = 5
          · subst j5
            rw [k5]
            congr 1
          · by_cases j9 : j = 9
            · subst j9
              rw [k9]
              congr 1
            · rw [ko j hj j5 j9]
              by_cases jm : 24 ≤ j ∧ j < 24 + 7 * i
              · unfold goP
                rw [if_pos jm]
              · rw [goP_out (by omega)]
                unfold goF
                rw [if_neg j5, if_neg j9, if_neg j8, if_neg (by omega)]
        have e8 : goF h0 sp 8 = if 0 < h0 1 ∧ (h0 5 + 1) % h0 3 = 0 then (h0 8 + 1) % h0 1 else h0 8 := by unfold goF; rw [if_neg (by omega), if_neg (by omega), if_pos rfl]
        have same : goF h0 sp 8 = h0 8 → J 190 [.inr (.inr (46, 0)), .inl (Int32.ofInt (spM sp)), .inl (Int32.ofInt (spT sp)), .inl (Int32.ofInt (i : Int)), x4] [] σ2 := by
          intro e
          refine hJ _ _ _ _ ?_
          conv => whnf
          refine h σ2 (fun j hj => ?_) kf k46
          by_cases j8 : j = 8
          · subst j8
            rw [e, ko 8 (by omega) (by omega) (by omega), goP_out (by omega)]
          · exact eq j hj j8
        refine ⟨fun c4 => ?_, fun c4 => ?_⟩
        · rw [oi_eq0 (by omega) (by omega)] at c4
          exact same (by rw [e8, if_neg (fun z => c4 z.2)])
        · rw [oi_eq0 (by omega) (by omega)] at c4
          conv => whnf
          refine ⟨(oi_in (by omega) (by omega)).mpr ⟨by omega, by omega⟩, ?_⟩
          conv => whnf
          rw [show (Int32.ofInt 1).toNatClampNeg = 1 from rfl, ko 1 (by omega) (by omega) (by omega), goP_out (by omega)]
          refine ⟨fun c5 => ?_, fun c5 => ?_⟩
          · rw [oi_le0 (by omega) (by omega)] at c5
            exact same (by rw [e8, if_neg (fun z => by omega)])
          · rw [oi_le0 (by omega) (by omega)] at c5
            conv => whnf
            refine ⟨(oi_in (by omega) (by omega)).mpr ⟨by omega, by omega⟩, ?_⟩
            conv => whnf
            refine ⟨(oi_in (by omega) (by omega)).mpr ⟨by omega, by omega⟩, ?_⟩
            conv => whnf
            rw [show (Int32.ofInt 1).toNatClampNeg = 1 from rfl, ko 1 (by omega) (by omega) (by omega), goP_out (by omega), show (Int32.ofInt 8).toNatClampNeg = 8 from rfl, ko 8 (by omega) (by omega) (by omega), goP_out (by omega), oi_add]
            refine ⟨fun z => by rw [oi_eq0 (by omega) (by omega)] at z; omega, ?_⟩
            conv => whnf
            refine ⟨(oi_in (by omega) (by omega)).mpr ⟨by omega, by omega⟩, ?_⟩
            conv => whnf
            refine hJ _ _ _ _ ?_
            conv => whnf
            rw [oi_mod (by omega) (by omega) (by omega) (by omega), show (Int32.ofInt 8).toNatClampNeg = 8 from rfl]
            refine h _ (fun j hj => ?_) (kf.tr (MF.at (by omega))) (fun j => by rw [wI1, if_neg (by omega), k46])
            rw [wI1]
            by_cases j8 : j = 8
            · subst j8
              rw [if_pos ⟨rfl, rfl, rfl⟩, e8, if_pos ⟨by omega, c4⟩]
            · rw [if_neg (by omega)]
              exact eq j hj j8
      · rw [oi_le (by omega) (by omega) (by omega) (by omega)] at c
        omega
    | succ k ih =>
      intro i σi x4 hi hri hf hs46
      have hti : (i : Int) < h0 1 := by omega
      have hmw := hw.2.2.1 i hti
      refine hJ _ _ _ _ ?_
      conv => whnf
      refine ⟨(oi_in (by omega) (by omega)).mpr ⟨by omega, by omega⟩, ?_⟩
      conv => whnf
      rw [show (Int32.ofInt 1).toNatClampNeg = 1 from rfl, hri 1 (by omega), goP_out (by omega)]
      refine ⟨fun c => ?_, fun c => ?_⟩
      · rw [oi_le (by omega) (by omega) (by omega) (by omega)] at c
        omega
      · conv => whnf
        refine s_m_monkRow hC ?_
        conv => whnf
        -- behind breath and words: the silence
        have tail : ∀ (σ2 : AM) (g : Nat → Int), M0 σ2 g → MF σ σ2 → (∀ j, σ2.1 46 0 j = σ.1 46 0 j) → (∀ j, j ≠ 24 + 7 * i → j ≠ 28 + 7 * i → g j = goP h0 sp i j) → g (24 + 7 * i) = goF h0 sp (24 + 7 * i) → g (28 + 7 * i) = goF h0 sp (28 + 7 * i) → J 90 [.inr (.inr (46, 0)), .inl (Int32.ofInt (spM sp)), .inl (Int32.ofInt (spT sp)), .inl (Int32.ofInt (i : Int)), .inl (Int32.ofInt (24 + 7 * (i : Int)))] [] σ2 := by
          intro σ2 g g1 g2 g3 g4 g5 g6
          have nx : ∀ z : Int, z = goF h0 sp (29 + 7 * i) → J 2 [.inr (.inr (46, 0)), .inl (Int32.ofInt (spM sp)), .inl (Int32.ofInt (spT sp)), .inl (Int32.ofInt ((i + 1 : Nat) : Int)), .inl (Int32.ofInt (24 + 7 * (i : Int)))] [] (wI σ2 47 0 (29 + 7 * i) (Int32.ofInt z)) := by
            intro z hz
            refine ih (i + 1) _ _ (by omega) ?_ (g2.tr (MF.at (by omega))) (fun j => by rw [wI1, if_neg (by omega), g3])
            intro j hj
            rw [wI1]
            by_cases j5 : j = 29 + 7 * i
            · subst j5
              rw [if_pos ⟨rfl, rfl, rfl⟩, hz]
              unfold goP
              rw [if_pos (by omega)]
            · rw [if_neg (by omega), g1 j hj]
              congr 1
              by_cases j0 : j = 24 + 7 * i
              · subst j0
                rw [g5]
                unfold goP
                rw [if_pos (by omega)]
              · by_cases j4 : j = 28 + 7 * i
                · subst j4
                  rw [g6]
                  unfold goP
                  rw [if_pos (by omega)]
                · rw [g4 j j0 j4]
                  by_cases jm : 24 ≤ j ∧ j < 24 + 7 * i
                  · unfold goP
                    rw [if_pos jm, if_pos (by omega)]
                  · rw [goP_out (by omega)]
                    by_cases jn : 24 + 7 * i ≤ j ∧ j < 24 + 7 * (i + 1)
                    · unfold goP
                      rw [if_pos (by omega)]
                      obtain ⟨w, hw1, hw2⟩ : ∃ w, w < 7 ∧ j = 24 + w + 7 * i := ⟨j - 24 - 7 * i, by omega, by omega⟩
                      rw [hw2, goF_w h0 sp hw1 (by omega) (by omega) (by omega)]
                    · rw [goP_out (by omega)]
          refine hJ _ _ _ _ ?_
          conv => whnf
          rw [oi_add]
          refine ⟨(oi_in (by omega) (by omega)).mpr ⟨by omega, by omega⟩, ?_⟩
          conv => whnf
          refine ⟨(oi_in (by omega) (by omega)).mpr ⟨by omega, by omega⟩, ?_⟩
          conv => whnf
          rw [show (Int32.ofInt 8).toNatClampNeg = 8 from rfl, g1 8 (by omega), g4 8 (by omega) (by omega), goP_out (by omega), oi_nat (by omega) (by omega), show (24 + 7 * (i : Int) + 5).toNat = 29 + 7 * i by omega, g1 _ (by omega), g4 _ (by omega) (by omega), goP_out (by omega)]
          refine ⟨fun c3 => ?_, fun c3 => ?_⟩
          · rw [oi_eq (by omega) (by omega) (by omega) (by omega)] at c3
            refine hJ _ _ _ _ ?_
            conv => whnf
            refine hJ _ _ _ _ ?_
            conv => whnf
            rw [oi_add]
            refine ⟨(oi_in (by omega) (by omega)).mpr ⟨by omega, by omega⟩, ?_⟩
            conv => whnf
            rw [oi_succ, oi_nat (by omega) (by omega), show (24 + 7 * (i : Int) + 5).toNat = 29 + 7 * i by omega]
            exact nx _ (by rw [goF_5 h0 sp hti, if_neg (by omega)]; omega)
          · rw [oi_eq (by omega) (by omega) (by omega) (by omega)] at c3
            conv => whnf
            refine hJ _ _ _ _ ?_
            conv => whnf
            rw [oi_add]
            refine ⟨(oi_in (by omega) (by omega)).mpr ⟨by omega, by omega⟩, ?_⟩
            conv => whnf
            rw [oi_succ, oi_nat (by omega) (by omega), show (24 + 7 * (i : Int) + 5).toNat = 29 + 7 * i by omega]
            exact nx _ (by rw [goF_5 h0 sp hti, if_pos (by omega)])
        refine ⟨fun c2 => ?_, fun c2 => ?_⟩
        · rw [oi_eq (by omega) (by omega) (by omega) (by omega)] at c2
          refine hJ _ _ _ _ ?_
          conv => whnf
          rw [oi_add]
          refine ⟨(oi_in (by omega) (by omega)).mpr ⟨by omega, by omega⟩, ?_⟩
          conv => whnf
          refine ⟨(oi_in (by omega) (by omega)).mpr ⟨by omega, by omega⟩, ?_⟩
          conv => whnf
          rw [oi_add]
          refine ⟨(oi_in (by omega) (by omega)).mpr ⟨by omega, by omega⟩, ?_⟩
          conv => whnf
          rw [oi_nat (by omega) (by omega), oi_nat (by omega) (by omega), oi_nat (by omega) (by omega), show (24 + 7 * (i : Int) + 1).toNat = 25 + 7 * i by omega, show (24 + 7 * (i : Int)).toNat = 24 + 7 * i by omega, show (24 + 7 * (i : Int) + 2).toNat = 26 + 7 * i by omega, hri _ (by omega), hri _ (by omega), hri _ (by omega), goP_out (by omega), goP_out (by omega), goP_out (by omega), oi_add]
          refine s_min hC ?_
          conv => whnf
          refine ⟨(oi_in (by omega) (by omega)).mpr ⟨by omega, by omega⟩, ?_⟩
          conv => whnf
          rw [oi_nat (by omega) (by omega), show (24 + 7 * (i : Int)).toNat = 24 + 7 * i by omega]
          have em : (if Int32.ofInt (h0 (24 + 7 * i) + h0 (26 + 7 * i)) < Int32.ofInt (h0 (25 + 7 * i)) then Int32.ofInt (h0 (24 + 7 * i) + h0 (26 + 7 * i)) else Int32.ofInt (h0 (25 + 7 * i))) = Int32.ofInt (min (h0 (25 + 7 * i)) (h0 (24 + 7 * i) + h0 (26 + 7 * i))) := by
            by_cases hl : h0 (24 + 7 * i) + h0 (26 + 7 * i) < h0 (25 + 7 * i)
            · rw [if_pos ((oi_lt (by omega) (by omega) (by omega) (by omega)).mpr hl)]
              congr 1
              omega
            · rw [if_neg (fun z => hl ((oi_lt (by omega) (by omega) (by omega) (by omega)).mp z))]
              congr 1
              omega
          rw [em]
          refine tail _ (fun j => if j = 24 + 7 * i then min (h0 (25 + 7 * i)) (h0 (24 + 7 * i) + h0 (26 + 7 * i)) else goP h0 sp i j) (hri.w (fun j hj => if_neg hj) (if_pos rfl)) (hf.tr (MF.at (by omega))) (fun j => by rw [wI1, if_neg (by omega), hs46]) (fun j j0 j4 => if_neg j0) ?_ ?_
          · rw [if_pos rfl, goF_0 h0 sp hti, if_neg (by omega)]
          · rw [if_neg (by omega), goP_out (by omega), goF_4 h0 sp hti, if_neg (by omega)]
        · rw [oi_eq (by omega) (by omega) (by omega) (by omega)] at c2
          have h6 := hs.2.2.2.2.2 (by omega)
          obtain ⟨t, et⟩ : ∃ t : Nat, spT sp = (t : Int) := ⟨(spT sp).toNat, by omega⟩
          have htw := hw.2.1 t (by omega)
          conv => whnf
          refine ⟨(oi_in (by omega) (by omega)).mpr ⟨by omega, by omega⟩, ?_⟩
          conv => whnf
          rw [et]
          refine s_m_costOf hC hri (by omega) ?_
          conv => whnf
          refine ⟨(oi_in (by omega) (by omega)).mpr ⟨by omega, by omega⟩, ?_⟩
          conv => whnf
          rw [oi_add]
          refine ⟨(oi_in (by omega) (by omega)).mpr ⟨by omega, by omega⟩, ?_⟩
          conv => whnf
          refine ⟨(oi_in (by omega) (by omega)).mpr ⟨by omega, by omega⟩, ?_⟩
          conv => whnf
          rw [oi_nat (by omega) (by omega), oi_nat (by omega) (by omega), show (24 + 7 * (i : Int)).toNat = 24 + 7 * i by omega, show (24 + 7 * (i : Int) + 4).toNat = 28 + 7 * i by omega, hri _ (by omega), goP_out (by omega), goP_out (by omega), oi_sub]
          rw [show (wI σi 47 0 (24 + 7 * i) (Int32.ofInt (h0 (24 + 7 * i) - h0 (12 + 2 * t)))).1 47 0 (28 + 7 * i) = Int32.ofInt (h0 (28 + 7 * i)) by rw [wI1, if_neg (by omega), hri _ (by omega), goP_out (by omega)], oi_add, ← et]
          refine tail _ (fun j => if j = 28 + 7 * i then h0 (28 + 7 * i) + 1 else if j = 24 + 7 * i then h0 (24 + 7 * i) - h0 (12 + 2 * t) else goP h0 sp i j) (M0.w (h := fun j => if j = 24 + 7 * i then h0 (24 + 7 * i) - h0 (12 + 2 * t) else goP h0 sp i j) (hri.w (fun j hj => if_neg hj) (if_pos rfl)) (fun j hj => if_neg hj) (if_pos rfl)) (hf.tr ((MF.at (by omega)).tr (MF.at (by omega)))) (fun j => ?_) (fun j j0 j4 => ?_) ?_ ?_
          · simp only [wI1]
            rw [if_neg (by omega), if_neg (by omega), hs46]
          · rw [if_neg j4, if_neg j0]
          · rw [if_neg (by omega), if_pos rfl, goF_0 h0 sp hti, if_pos (by omega), et, Int.toNat_natCast]
          · rw [if_pos rfl, goF_4 h0 sp hti, if_pos (by omega)]
  exact loop (h0 1).toNat 0 σ _ (by omega) (by rw [goP_0]; exact hr) MF.rf (fun _ => rfl)

theorem hP_w6 (h : Nat → Int) (j : Nat) : hP h j = if j = 7 then (if rostS h = none ∧ speechS h ≠ none then h 7 + 1 else h 7) else (if j = 6 then (if speechS h = none then h 6 + 1 else h 6) else h j) := by
  unfold hP
  by_cases h6 : j = 6
  · subst h6; rfl
  · rw [if_neg h6, if_neg h6]
theorem s_m_minuteGoes {CALL : CT} (hC : RuleAll CALL) {r : Nat} {σ : AM} {K : AV → AM → Prop} {h0 : Nat → Int} (hr : M0 σ h0) (hw : WP h0) (h5 : h0 5 < 20000) (h : ∀ σ' : AM, M0 σ' (minF h0) → MF σ σ' → K unset σ') : CALL (r + 6) n_m_minuteGoes [.inr (.inr (46, 0))] σ K := by
  refine r_m_minuteGoes hC (fun J hJ => ?_)
  refine hJ _ _ _ _ ?_
  conv => whnf
  have b := hw.1.1
  have ob := speechS_ok hw.1
  have hsm := spM_ok hw.1 ob
  have en := spI_neg hw.1 ob
  refine s_m_laysSpeaker hC hr hw.1 (fun σ1 hr1 hf1 _ f24 f25 f26 => ?_)
  conv => whnf
  refine ⟨(oi_in (by omega) (by omega)).mpr ⟨by omega, by omega⟩, ?_⟩
  conv => whnf
  rw [show (Int32.ofInt 6).toNatClampNeg = 6 from rfl, hr1 6 (by omega), f24]
  have emn : spM (speechS h0) = -1 ↔ speechS h0 = none := by
    cases hq : speechS h0 with
    | none => simp [spM]
    | some q => obtain ⟨m, t⟩ := q; simp [spM]
  have tail : ∀ σ2 : AM, M0 σ2 (hP h0) → MF σ σ2 → σ2.1 46 0 24 = Int32.ofInt (spM (speechS h0)) → σ2.1 46 0 25 = Int32.ofInt (spT (speechS h0)) → wpb (CALL (r + 5)) K J [(.aload_n 0, 0, []), (.aload_n 0, 0, []), (.getfield 326, 12, [46, 24, 0, 0, 0]), (.aload_n 0, 0, []), (.getfield 329, 12, [46, 25, 0, 0, 0]), (.invokevirtual 335, 261, [3, 0, 46, 5]), (.return_, 0, [])] [.inr (.inr (46, 0))] [] σ2 := by
    intro σ2 m2 f2 e24 e25
    conv => whnf
    rw [e24, e25]
    refine s_m_saysBy hC m2 (hP_WF hw) (hP_sp ob) (by rw [hP_ne h0 (by omega) (by omega)]; exact h5) (fun σ3 m3 f3 _ => ?_)
    conv => whnf
    exact h σ3 m3 (f2.tr f3)
  have second : ∀ z : Int, z = (if speechS h0 = none then h0 6 + 1 else h0 6) → J 25 [.inr (.inr (46, 0))] [.inl (Int32.ofInt (z - h0 6)), .inl (Int32.ofInt (h0 6)), .inl (Int32.ofInt 6), .inr (.inr (47, 0))] σ1 := by
    intro z hz
    refine hJ _ _ _ _ ?_
    conv => whnf
    refine ⟨(oi_in (by omega) (by omega)).mpr ⟨by omega, by omega⟩, ?_⟩
    conv => whnf
    refine ⟨(oi_in (by omega) (by omega)).mpr ⟨by omega, by omega⟩, ?_⟩
    conv => whnf
    rw [show (Int32.ofInt 6).toNatClampNeg = 6 from rfl, show (Int32.ofInt 7).toNatClampNeg = 7 from rfl, oi_add, show h0 6 + (z - h0 6) = z by omega]
    have m2 : M0 (wI σ1 47 0 6 (Int32.ofInt z)) (fun j => if j = 6 then (if speechS h0 = none then h0 6 + 1 else h0 6) else h0 j) := hr1.w (fun k hk => if_neg hk) (by rw [if_pos rfl, hz])
    have m27 : (wI σ1 47 0 6 (Int32.ofInt z)).1 47 0 7 = Int32.ofInt (h0 7) := m2 7 (by omega)
    rw [m27, show (wI σ1 47 0 6 (Int32.ofInt z)).1 46 0 26 = bI (decide (rostS h0 = none ∧ speechS h0 ≠ none)) by rw [wI1, if_neg (by omega), f26]]
    have third : ∀ y : Int, y = (if rostS h0 = none ∧ speechS h0 ≠ none then h0 7 + 1 else h0 7) → M0 (wI (wI σ1 47 0 6 (Int32.ofInt z)) 47 0 7 (Int32.ofInt y)) (hP h0) := by
      intro y hy
      refine m2.w (fun k hk => ?_) ?_
      · rw [hP_w6, if_neg hk]
      · rw [hP_w6, if_pos rfl, hy]
    have f3 : ∀ y : Int, MF σ (wI (wI σ1 47 0 6 (Int32.ofInt z)) 47 0 7 (Int32.ofInt y)) := fun y => hf1.tr ((MF.at (by omega)).tr (MF.at (by omega)))
    have g24 : ∀ y : Int, (wI (wI σ1 47 0 6 (Int32.ofInt z)) 47 0 7 (Int32.ofInt y)).1 46 0 24 = Int32.ofInt (spM (speechS h0)) := fun y => by
      simp only [wI1]
      rw [if_neg (by omega), if_neg (by omega), f24]
    have g25 : ∀ y : Int, (wI (wI σ1 47 0 6 (Int32.ofInt z)) 47 0 7 (Int32.ofInt y)).1 46 0 25 = Int32.ofInt (spT (speechS h0)) := fun y => by
      simp only [wI1]
      rw [if_neg (by omega), if_neg (by omega), f25]
    refine ⟨fun c2 => ?_, fun c2 => ?_⟩
    · rw [bI_eq0] at c2
      refine hJ _ _ _ _ ?_
      conv => whnf
      refine hJ _ _ _ _ ?_
      conv => whnf
      refine ⟨(oi_in (by omega) (by omega)).mpr ⟨by omega, by omega⟩, ?_⟩
      rw [show (Int32.ofInt 7).toNatClampNeg = 7 from rfl, oi_add]
      refine tail _ (third _ ?_) (f3 _) (g24 _) (g25 _)
      rw [if_neg (of_decide_eq_false c2)]
      omega
    · rw [bI_ne0] at c2
      conv => whnf
      refine hJ _ _ _ _ ?_
      conv => whnf
      refine ⟨(oi_in (by omega) (by omega)).mpr ⟨by omega, by omega⟩, ?_⟩
      rw [show (Int32.ofInt 7).toNatClampNeg = 7 from rfl, oi_add]
      refine tail _ (third _ ?_) (f3 _) (g24 _) (g25 _)
      rw [if_pos (of_decide_eq_true c2)]
  refine ⟨fun c => ?_, fun c => ?_⟩
  · rw [oi_eq (by omega) (by omega) (by omega) (by omega), emn] at c
    refine hJ _ _ _ _ ?_
    conv => whnf
    have := second (h0 6) (by rw [if_neg c])
    rw [Int.sub_self] at this
    exact this
  · rw [oi_eq (by omega) (by omega) (by omega) (by omega), emn] at c
    conv => whnf
    have := second (h0 6 + 1) (by rw [if_pos c])
    rw [show h0 6 + 1 - h0 6 = 1 by omega] at this
    exact this
theorem s_m_minutesGo {CALL : CT} (hC : RuleAll CALL) {r : Nat} {σ : AM} {K : AV → AM → Prop} {k : Nat} {h0 : Nat → Int} (hr : M0 σ h0) (hw : WP h0) (h5 : h0 5 + k ≤ 20000) (h : ∀ σ' : AM, M0 σ' (minN k h0) → MF σ σ' → K (.inl (Int32.ofInt (minN k h0 6 - h0 6))) σ') : CALL (r + 7) n_m_minutesGo [.inr (.inr (46, 0)), .inl (Int32.ofInt k)] σ K := by
  refine r_m_minutesGo hC (fun J hJ => ?_)
  refine hJ _ _ _ _ ?_
  conv => whnf
  have b := hw.1.1
  refine ⟨(oi_in (by omega) (by omega)).mpr ⟨by omega, by omega⟩, ?_⟩
  conv => whnf
  rw [show (Int32.ofInt 6).toNatClampNeg = 6 from rfl, hr 6 (by omega)]
  have loop : ∀ (d i : Nat) (σi : AM), i + d = k → M0 σi (minN i h0) → MF σ σi → J 10 [.inr (.inr (46, 0)), .inl (Int32.ofInt k), .inl (Int32.ofInt (h0 6)), .inl (Int32.ofInt (i : Int))] [] σi := by
    intro d
    induction d with
    | zero =>
      intro i σi hi hri hf
      have : i = k := by omega
      subst this
      refine hJ _ _ _ _ ?_
      conv => whnf
      refine ⟨fun c => ?_, fun c => ?_⟩
      · refine hJ _ _ _ _ ?_
        conv => whnf
        refine ⟨(oi_in (by omega) (by omega)).mpr ⟨by omega, by omega⟩, ?_⟩
        conv => whnf
        rw [show (Int32.ofInt 6).toNatClampNeg = 6 from rfl, hri 6 (by omega), oi_sub]
        exact h σi hri hf
      · exact absurd (Int32.le_refl _) c
    | succ d ih =>
      intro i σi hi hri hf
      have hwi := minN_WF i hw (by omega)
      refine hJ _ _ _ _ ?_
      conv => whnf
      refine ⟨fun c => ?_, fun c => ?_⟩
      · rw [oi_le (by omega) (by omega) (by omega) (by omega)] at c
        omega
      · conv => whnf
        refine s_m_minuteGoes hC hri hwi.1 (by rw [hwi.2]; omega) (fun σ2 hr2 hf2 => ?_)
        conv => whnf
        rw [oi_succ]
        refine ih (i + 1) σ2 (by omega) ?_ (hf.tr hf2)
        rw [minN_succ]
        exact hr2
  exact loop k 0 σ (by omega) hr MF.rf
