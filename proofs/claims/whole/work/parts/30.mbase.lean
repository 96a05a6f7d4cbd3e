/-! the reference: its own numbers -/
def M0 (σ : AM) (h : Nat → Int) : Prop := ∀ j : Nat, j < 97 → σ.1 47 0 j = Int32.ofInt (h j)
theorem M0.w {σ : AM} {h g : Nat → Int} {j : Nat} {z : Int} (hr : M0 σ h) (hg : ∀ k, k ≠ j → g k = h k) (hz : g j = z) : M0 (wI σ 47 0 j (Int32.ofInt z)) g := by
  intro k hk
  rw [wI1]
  by_cases e : k = j
  · subst e
    rw [if_pos ⟨rfl, rfl, rfl⟩, hz]
  · rw [if_neg (fun q => e q.2.2), hg k e]
    exact hr k hk
theorem M0.fr {σ σ' : AM} {h : Nat → Int} (hr : M0 σ h) (hs : ∀ j, j < 97 → σ'.1 47 0 j = σ.1 47 0 j) : M0 σ' h := fun j hj => by rw [hs j hj]; exact hr j hj
/-- what a minute of the reference's may change -/
def MF (σ σ' : AM) : Prop := Fr (fun t i => (t = 46 ∨ t = 47) ∧ i = 0) σ σ' ∧ σ'.2 = σ.2 ∧ (∀ j, 97 ≤ j → σ'.1 47 0 j = σ.1 47 0 j) ∧ (∀ j, j ≠ 24 → j ≠ 25 → j ≠ 26 → σ'.1 46 0 j = σ.1 46 0 j)
theorem MF.rf {σ : AM} : MF σ σ := ⟨Fr.rf, rfl, fun _ _ => rfl, fun _ _ _ _ => rfl⟩
theorem MF.tr {σ σ' σ'' : AM} (h : MF σ σ') (h2 : MF σ' σ'') : MF σ σ'' := ⟨h.1.tr h2.1, h2.2.1.trans h.2.1, fun j hj => (h2.2.2.1 j hj).trans (h.2.2.1 j hj), fun j a b c => (h2.2.2.2 j a b c).trans (h.2.2.2 j a b c)⟩
theorem MF.at {σ : AM} {j : Nat} {x : Int32} (hj : j < 97) : MF σ (wI σ 47 0 j x) := ⟨Fr.wI ⟨Or.inr rfl, rfl⟩, rfl, fun k hk => by rw [wI1, if_neg (by omega)], fun k _ _ _ => by rw [wI1, if_neg (by omega)]⟩
theorem MF.fd {σ : AM} {j : Nat} {x : Int32} (hj : j = 24 ∨ j = 25 ∨ j = 26) : MF σ (wI σ 46 0 j x) := ⟨Fr.wI ⟨Or.inl rfl, rfl⟩, rfl, fun k hk => by rw [wI1, if_neg (by omega)], fun k _ _ _ => by rw [wI1, if_neg (by omega)]⟩
theorem M0.fd {σ : AM} {h : Nat → Int} {j : Nat} {x : Int32} (hr : M0 σ h) : M0 (wI σ 46 0 j x) h := hr.fr (fun k _ => by rw [wI1, if_neg (by omega)])
theorem s_m_isIn {CALL : CT} (hC : RuleAll CALL) {r : Nat} {σ : AM} {K : AV → AM → Prop} {a k : Nat} (ha : a < 2147483648) (hk : k < 31) (h : K (.inl (bI (a.testBit k))) σ) : CALL (r + 1) n_m_isIn [.inr (.inr (46, 0)), .inl (Int32.ofInt a), .inl (Int32.ofInt k)] σ K := by
  refine r_m_isIn hC (fun J hJ => ?_)
  refine hJ _ _ _ _ ?_
  conv => whnf
  rw [oi_bit ha hk]
  refine ⟨fun c => ?_, fun c => ?_⟩
  · refine hJ _ _ _ _ ?_
    conv => whnf
    refine hJ _ _ _ _ ?_
    conv => whnf
    refine ⟨Or.inl rfl, ?_⟩
    have e : a.testBit k = false := by
      cases hb : a.testBit k with
      | false => rfl
      | true => rw [hb] at c; exact absurd rfl c
    rw [e] at h
    exact h
  · conv => whnf
    refine hJ _ _ _ _ ?_
    conv => whnf
    refine ⟨Or.inr rfl, ?_⟩
    have e : a.testBit k = true := by
      cases hb : a.testBit k with
      | true => rfl
      | false => rw [hb] at c; exact absurd c (by decide)
    rw [e] at h
    exact h
theorem s_m_monkRow {CALL : CT} (hC : RuleAll CALL) {r : Nat} {σ : AM} {K : AV → AM → Prop} {m : Int} (h : K (.inl (Int32.ofInt (24 + 7 * m))) σ) : CALL (r + 1) n_m_monkRow [.inl (Int32.ofInt m)] σ K := by
  refine r_m_monkRow hC (fun J hJ => ?_)
  refine hJ _ _ _ _ ?_
  conv => whnf
  rw [oi_mul, oi_add]
  exact h
theorem s_m_topicRow {CALL : CT} (hC : RuleAll CALL) {r : Nat} {σ : AM} {K : AV → AM → Prop} {m : Int} (h : K (.inl (Int32.ofInt (12 + 2 * m))) σ) : CALL (r + 1) n_m_topicRow [.inl (Int32.ofInt m)] σ K := by
  refine r_m_topicRow hC (fun J hJ => ?_)
  refine hJ _ _ _ _ ?_
  conv => whnf
  rw [oi_mul, oi_add]
  exact h
theorem s_m_entryRow {CALL : CT} (hC : RuleAll CALL) {r : Nat} {σ : AM} {K : AV → AM → Prop} {m : Int} (h : K (.inl (Int32.ofInt (73 + 2 * m))) σ) : CALL (r + 1) n_m_entryRow [.inl (Int32.ofInt m)] σ K := by
  refine r_m_entryRow hC (fun J hJ => ?_)
  refine hJ _ _ _ _ ?_
  conv => whnf
  rw [oi_mul, oi_add]
  exact h
theorem s_m_monkOf {CALL : CT} (hC : RuleAll CALL) {r : Nat} {σ : AM} {K : AV → AM → Prop} {m w : Nat} {h0 : Nat → Int} (hr : M0 σ h0) (hm : m < 7) (hw : w < 7) (h : K (.inl (Int32.ofInt (h0 (24 + 7 * m + w)))) σ) : CALL (r + 2) n_m_monkOf [.inr (.inr (46, 0)), .inl (Int32.ofInt m), .inl (Int32.ofInt w)] σ K := by
  refine r_m_monkOf hC (fun J hJ => ?_)
  refine hJ _ _ _ _ ?_
  conv => whnf
  refine s_m_monkRow hC ?_
  conv => whnf
  rw [oi_add]
  refine ⟨(oi_in (by omega) (by omega)).mpr ⟨by omega, by omega⟩, ?_⟩
  conv => whnf
  rw [oi_nat (by omega) (by omega), show (24 + 7 * (m : Int) + (w : Int)).toNat = 24 + 7 * m + w by omega, hr _ (by omega)]
  exact h
theorem s_m_costOf {CALL : CT} (hC : RuleAll CALL) {r : Nat} {σ : AM} {K : AV → AM → Prop} {t : Nat} {h0 : Nat → Int} (hr : M0 σ h0) (ht : t < 6) (h : K (.inl (Int32.ofInt (h0 (12 + 2 * t)))) σ) : CALL (r + 2) n_m_costOf [.inr (.inr (46, 0)), .inl (Int32.ofInt t)] σ K := by
  refine r_m_costOf hC (fun J hJ => ?_)
  refine hJ _ _ _ _ ?_
  conv => whnf
  refine s_m_topicRow hC ?_
  conv => whnf
  refine ⟨(oi_in (by omega) (by omega)).mpr ⟨by omega, by omega⟩, ?_⟩
  conv => whnf
  rw [oi_nat (by omega) (by omega), show (12 + 2 * (t : Int)).toNat = 12 + 2 * t by omega, hr _ (by omega)]
  exact h
theorem s_m_nextOf {CALL : CT} (hC : RuleAll CALL) {r : Nat} {σ : AM} {K : AV → AM → Prop} {t : Nat} {h0 : Nat → Int} (hr : M0 σ h0) (ht : t < 6) (h : K (.inl (Int32.ofInt (h0 (13 + 2 * t)))) σ) : CALL (r + 2) n_m_nextOf [.inr (.inr (46, 0)), .inl (Int32.ofInt t)] σ K := by
  refine r_m_nextOf hC (fun J hJ => ?_)
  refine hJ _ _ _ _ ?_
  conv => whnf
  refine s_m_topicRow hC ?_
  conv => whnf
  rw [oi_add]
  refine ⟨(oi_in (by omega) (by omega)).mpr ⟨by omega, by omega⟩, ?_⟩
  conv => whnf
  rw [oi_nat (by omega) (by omega), show (12 + 2 * (t : Int) + 1).toNat = 13 + 2 * t by omega, hr _ (by omega)]
  exact h
theorem full_bit {n t : Nat} : (2 ^ n - 1).testBit t = decide (t < n) := Nat.testBit_two_pow_sub_one n t
theorem s_m_doesFollow {CALL : CT} (hC : RuleAll CALL) {r : Nat} {σ : AM} {K : AV → AM → Prop} {t : Nat} {h0 : Nat → Int} (hr : M0 σ h0) (hw : WF h0) (ht : (t : Int) < h0 0) (h : K (.inl (bI ((openS h0).testBit t))) σ) : CALL (r + 3) n_m_doesFollow [.inr (.inr (46, 0)), .inl (Int32.ofInt t)] σ K := by
  refine r_m_doesFollow hC (fun J hJ => ?_)
  refine hJ _ _ _ _ ?_
  conv => whnf
  have b := hw.1
  refine ⟨(oi_in (by omega) (by omega)).mpr ⟨by omega, by omega⟩, ?_⟩
  conv => whnf
  rw [show (Int32.ofInt 9).toNatClampNeg = 9 from rfl, hr 9 (by omega)]
  refine ⟨fun c => ?_, fun c => ?_⟩
  · rw [oi_eq (by omega) (by omega) (by omega) (by omega)] at c
    refine hJ _ _ _ _ ?_
    conv => whnf
    refine hJ _ _ _ _ ?_
    conv => whnf
    refine ⟨Or.inr rfl, ?_⟩
    have e : (openS h0).testBit t = true := by
      unfold openS
      rw [if_pos c, full_bit]
      exact decide_eq_true (by omega)
    rw [e] at h
    exact h
  · rw [oi_eq (by omega) (by omega) (by omega) (by omega)] at c
    conv => whnf
    refine ⟨(oi_in (by omega) (by omega)).mpr ⟨by omega, by omega⟩, ?_⟩
    conv => whnf
    rw [show (Int32.ofInt 9).toNatClampNeg = 9 from rfl, hr 9 (by omega)]
    obtain ⟨q, eq⟩ : ∃ q : Nat, h0 9 = (q : Int) := ⟨(h0 9).toNat, by omega⟩
    have hq := hw.2.1 q (by omega)
    rw [eq]
    refine s_m_nextOf hC hr (by omega) ?_
    conv => whnf
    have e : openS h0 = (h0 (13 + 2 * q)).toNat := by
      unfold openS
      rw [if_neg c, eq, Int.toNat_natCast]
    have e2 : h0 (13 + 2 * q) = ((openS h0 : Nat) : Int) := by rw [e]; omega
    rw [e2]
    refine s_m_isIn hC (by omega) (by omega) ?_
    conv => whnf
    refine ⟨fun c2 => ?_, fun c2 => ?_⟩
    · rw [bI_eq0] at c2
      refine hJ _ _ _ _ ?_
      conv => whnf
      refine hJ _ _ _ _ ?_
      conv => whnf
      rw [c2] at h
      exact ⟨Or.inl rfl, h⟩
    · rw [bI_ne0] at c2
      conv => whnf
      refine hJ _ _ _ _ ?_
      conv => whnf
      refine hJ _ _ _ _ ?_
      conv => whnf
      rw [c2] at h
      exact ⟨Or.inr rfl, h⟩
theorem s_m_canSay {CALL : CT} (hC : RuleAll CALL) {r : Nat} {σ : AM} {K : AV → AM → Prop} {m t : Nat} {h0 : Nat → Int} (hr : M0 σ h0) (hw : WF h0) (hm : (m : Int) < h0 1) (ht : (t : Int) < h0 0) (h : K (.inl (bI (canS h0 m t))) σ) : CALL (r + 4) n_m_canSay [.inr (.inr (46, 0)), .inl (Int32.ofInt m), .inl (Int32.ofInt t)] σ K := by
  refine r_m_canSay hC (fun J hJ => ?_)
  refine hJ _ _ _ _ ?_
  conv => whnf
  have b := hw.1
  have hmw := hw.2.2.1 m hm
  have htw := hw.2.1 t ht
  have no : canS h0 m t = false → J 47 [.inr (.inr (46, 0)), .inl (Int32.ofInt m), .inl (Int32.ofInt t)] [] σ := by
    intro e
    refine hJ _ _ _ _ ?_
    conv => whnf
    refine hJ _ _ _ _ ?_
    conv => whnf
    rw [e] at h
    exact ⟨Or.inl rfl, h⟩
  refine s_m_monkOf hC (w := 3) hr (by omega) (by omega) ?_
  conv => whnf
  rw [show 24 + 7 * m + 3 = 27 + 7 * m by omega]
  refine ⟨fun c => ?_, fun c => ?_⟩
  · rw [oi_eq (by omega) (by omega) (by omega) (by omega)] at c
    exact no (by simp [canS, talkS, c])
  · rw [oi_eq (by omega) (by omega) (by omega) (by omega)] at c
    conv => whnf
    refine ⟨(oi_in (by omega) (by omega)).mpr ⟨by omega, by omega⟩, ?_⟩
    conv => whnf
    rw [show (Int32.ofInt 8).toNatClampNeg = 8 from rfl, hr 8 (by omega)]
    refine ⟨fun c2 => ?_, fun c2 => ?_⟩
    · rw [oi_eq (by omega) (by omega) (by omega) (by omega)] at c2
      exact no (by simp [canS, talkS, c2])
    · rw [oi_eq (by omega) (by omega) (by omega) (by omega)] at c2
      conv => whnf
      refine s_m_monkOf hC (w := 0) hr (by omega) (by omega) ?_
      conv => whnf
      refine s_m_costOf hC hr (by omega) ?_
      conv => whnf
      rw [show 24 + 7 * m + 0 = 24 + 7 * m by omega]
      refine ⟨fun c3 => ?_, fun c3 => ?_⟩
      · rw [oi_lt (by omega) (by omega) (by omega) (by omega)] at c3
        refine no ?_
        have : ¬ h0 (12 + 2 * t) ≤ h0 (24 + 7 * m) := by omega
        simp [canS, this]
      · rw [oi_lt (by omega) (by omega) (by omega) (by omega)] at c3
        conv => whnf
        refine s_m_doesFollow hC hr hw ht ?_
        conv => whnf
        have e : canS h0 m t = (openS h0).testBit t := by
          have : h0 (12 + 2 * t) ≤ h0 (24 + 7 * m) := by omega
          simp [canS, talkS, this, c, c2]
        refine ⟨fun c4 => ?_, fun c4 => ?_⟩
        · rw [bI_eq0] at c4
          exact no (e.trans c4)
        · rw [bI_ne0] at c4
          conv => whnf
          refine hJ _ _ _ _ ?_
          conv => whnf
          rw [e, c4] at h
          exact ⟨Or.inr rfl, h⟩
