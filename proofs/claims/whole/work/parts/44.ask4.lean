/-- what a monk can say -/
theorem s_costingAtMost {CALL : CT} (hC : RuleAll CALL) {r : Nat} {σ : AM} {K : AV → AM → Prop} {n set : Nat} {b : Int} {h0 : Nat → Int} (hr : HRep σ n h0) (hw : WF h0) (hset : set < 64) (hb : 0 ≤ b ∧ b ≤ 200) (h : K (.inl (Int32.ofInt (mask (costS h0 b set) (h0 0).toNat))) σ) : CALL (r + 1) n_Topics_costingAtMost [.inr (.inr (23, n)), .inl (Int32.ofInt set), .inl (Int32.ofInt b)] σ K := by
  refine r_Topics_costingAtMost hC (fun J hJ => ?_)
  refine hJ _ _ _ _ ?_
  conv => whnf
  have bb := hw.1
  have loop : ∀ (k i : Nat), i + k = (h0 0).toNat → J 5 [.inr (.inr (23, n)), .inl (Int32.ofInt set), .inl (Int32.ofInt b), .inl (Int32.ofInt (mask (costS h0 b set) i)), .inl (Int32.ofInt (i : Int))] [] σ := by
    intro k
    induction k with
    | zero =>
      intro i hi
      have : i = (h0 0).toNat := by omega
      subst this
      refine hJ _ _ _ _ ?_
      conv => whnf
      rw [hr.1]
      refine ⟨fun c => ?_, fun c => ?_⟩ <;> (try simp (disch := omega) only [oi_le, oi_lt, oi_eq, oi_lt0, oi_le0, oi_0lt, oi_0le, oi_eq0, oi_eq1, bI_eq0, bI_ne0, bI_eq1, decide_eq_true_eq, decide_eq_false_iff_not, lc_lt, lc_gt, lc_eq, lc_ge, lc_le, ol_lt, ol_eq, ne_eq, Int.not_lt, Int.not_le, Bool.not_eq_true, Bool.not_eq_false, Decidable.not_not, not_true_eq_false, not_false_eq_true, Bool.true_eq_false, Bool.false_eq_true] at c) <;> (first | (exfalso; omega) | ((with_reducible refine hJ _ _ _ _ ?_); conv => whnf) | (conv => whnf))
      exact h
    | succ k ih =>
      intro i hi
      have hti : (i : Int) < h0 0 := by omega
      have htw := hw.2.1 i hti
      have nx := ih (i + 1) (by omega)
      rw [mask] at nx
      refine hJ _ _ _ _ ?_
      conv => whnf
      rw [hr.1]
      refine ⟨fun c => ?_, fun c => ?_⟩ <;> (try simp (disch := omega) only [oi_le, oi_lt, oi_eq, oi_lt0, oi_le0, oi_0lt, oi_0le, oi_eq0, oi_eq1, bI_eq0, bI_ne0, bI_eq1, decide_eq_true_eq, decide_eq_false_iff_not, lc_lt, lc_gt, lc_eq, lc_ge, lc_le, ol_lt, ol_eq, ne_eq, Int.not_lt, Int.not_le, Bool.not_eq_true, Bool.not_eq_false, Decidable.not_not, not_true_eq_false, not_false_eq_true, Bool.true_eq_false, Bool.false_eq_true] at c) <;> (first | (exfalso; omega) | ((with_reducible refine hJ _ _ _ _ ?_); conv => whnf) | (conv => whnf))
      refine ⟨(oi_in (by omega) (by omega)).mpr ⟨by omega, by omega⟩, ?_⟩
      conv => whnf
      have e1 : σ.1 25 n i = Int32.ofInt (h0 (12 + 2 * i)) := by
        obtain ⟨-, -, -, -, -, -, -, -, -, -, -, et, -⟩ := hr
        exact (et i hti).1
      rw [oi_nat (by omega) (by omega), Int.toNat_natCast, e1]
      refine ⟨fun c2 => ?_, fun c2 => ?_⟩ <;> (try simp (disch := omega) only [oi_le, oi_lt, oi_eq, oi_lt0, oi_le0, oi_0lt, oi_0le, oi_eq0, oi_eq1, bI_eq0, bI_ne0, bI_eq1, decide_eq_true_eq, decide_eq_false_iff_not, lc_lt, lc_gt, lc_eq, lc_ge, lc_le, ol_lt, ol_eq, ne_eq, Int.not_lt, Int.not_le, Bool.not_eq_true, Bool.not_eq_false, Decidable.not_not, not_true_eq_false, not_false_eq_true, Bool.true_eq_false, Bool.false_eq_true] at c2) <;> (first | (exfalso; omega) | ((with_reducible refine hJ _ _ _ _ ?_); conv => whnf) | (conv => whnf))
      · rw [oi_succ]
        rw [if_neg (by unfold costS; simp; omega)] at nx
        exact nx
      · refine hJ _ _ _ _ ?_
        conv => whnf
        rw [oi_shl (by omega), oi_and, oi_or, oi_succ]
        have e2 : mask (costS h0 b set) i ||| (set &&& 2 ^ i) = if costS h0 b set i = true then mask (costS h0 b set) i ||| 2 ^ i else mask (costS h0 b set) i := by
          unfold costS
          rw [decide_eq_true (by omega : h0 (12 + 2 * i) ≤ b), Bool.true_and]
          have e3 : set &&& 2 ^ i = if set.testBit i = true then 2 ^ i else 0 := by
            apply Nat.eq_of_testBit_eq
            intro q
            rw [Nat.testBit_and, Nat.testBit_two_pow]
            by_cases hq : i = q
            · subst hq
              cases set.testBit i <;> simp
            · cases set.testBit i <;> simp [hq, Nat.testBit_two_pow]
          rw [e3]
          cases set.testBit i with
          | true => simp
          | false => simp
        rw [e2]
        exact nx
  exact loop (h0 0).toNat 0 (by omega)
def topsS (h : Nat → Int) (m : Nat) : Nat := mask (fun t => canS h m t) (h 0).toNat
theorem topsS_lt {h : Nat → Int} (hw : WF h) (m : Nat) : topsS h m < 64 := by
  have b := hw.1
  exact Nat.lt_of_lt_of_le (mask_lt _ _) (Nat.pow_le_pow_right (n := 2) (i := (h 0).toNat) (j := 6) (by omega) (by omega))
theorem topsS_no {h : Nat → Int} {m : Nat} (ht : talkS h m = false) : topsS h m = 0 := by
  unfold topsS
  have : ∀ i, mask (fun t => canS h m t) i = 0 := by
    intro i
    induction i with
    | zero => rfl
    | succ i ih => rw [mask, ih]; simp [canS, ht]
  exact this _
theorem topsS_yes {h : Nat → Int} {m : Nat} (ht : talkS h m = true) : topsS h m = mask (costS h (h (24 + 7 * m)) (openS h)) (h 0).toNat := by
  unfold topsS
  exact mask_cong (fun k _ => by simp [canS, costS, ht])
theorem s_sayable {CALL : CT} (hC : RuleAll CALL) {r : Nat} {σ : AM} {K : AV → AM → Prop} {n m : Nat} {h0 : Nat → Int} (hr : HRep σ n h0) (hw : WF h0) (hm : (m : Int) < h0 1) (h : K (.inl (Int32.ofInt (topsS h0 m))) σ) : CALL (r + 2) n_House_sayable [.inr (.inr (22, n)), .inl (Int32.ofInt m)] σ K := by
  refine r_House_sayable hC (fun J hJ => ?_)
  refine hJ _ _ _ _ ?_
  conv => whnf
  have b := hw.1
  have hmw := hw.2.2.1 m hm
  refine s_mayTalk hC hr hw hm ?_
  conv => whnf
  refine ⟨fun c => ?_, fun c => ?_⟩ <;> (try simp (disch := omega) only [oi_le, oi_lt, oi_eq, oi_lt0, oi_le0, oi_0lt, oi_0le, oi_eq0, oi_eq1, bI_eq0, bI_ne0, bI_eq1, decide_eq_true_eq, decide_eq_false_iff_not, lc_lt, lc_gt, lc_eq, lc_ge, lc_le, ol_lt, ol_eq, ne_eq, Int.not_lt, Int.not_le, Bool.not_eq_true, Bool.not_eq_false, Decidable.not_not, not_true_eq_false, not_false_eq_true, Bool.true_eq_false, Bool.false_eq_true] at c) <;> (first | (exfalso; omega) | ((with_reducible refine hJ _ _ _ _ ?_); conv => whnf) | (conv => whnf))
  · refine hJ _ _ _ _ ?_
    conv => whnf
    rw [topsS_no c] at h
    exact h
  · refine s_open hC hr hw ?_
    conv => whnf
    refine ⟨(oi_in (by omega) (by omega)).mpr ⟨by omega, by omega⟩, ?_⟩
    conv => whnf
    rw [oi_nat (by omega) (by omega), Int.toNat_natCast]
    have e1 : σ.1 29 n m = Int32.ofInt (h0 (24 + 7 * m)) := by
      obtain ⟨-, -, -, -, -, -, -, -, -, -, -, -, em, -⟩ := hr
      exact (em m hm).1
    rw [e1]
    refine s_costingAtMost hC hr hw (openS_lt hw) (by omega) ?_
    conv => whnf
    refine hJ _ _ _ _ ?_
    conv => whnf
    rw [topsS_yes c] at h
    exact h
theorem s_m_topicsOf {CALL : CT} (hC : RuleAll CALL) {r : Nat} {σ : AM} {K : AV → AM → Prop} {m : Nat} {h0 : Nat → Int} (hr : M0 σ h0) (hw : WF h0) (hm : (m : Int) < h0 1) (h : K (.inl (Int32.ofInt (topsS h0 m))) σ) : CALL (r + 5) n_m_topicsOf [.inr (.inr (46, 0)), .inl (Int32.ofInt m)] σ K := by
  refine r_m_topicsOf hC (fun J hJ => ?_)
  refine hJ _ _ _ _ ?_
  conv => whnf
  have b := hw.1
  have loop : ∀ (k i : Nat), i + k = (h0 0).toNat → J 4 [.inr (.inr (46, 0)), .inl (Int32.ofInt m), .inl (Int32.ofInt (mask (fun t => canS h0 m t) i)), .inl (Int32.ofInt (i : Int))] [] σ := by
    intro k
    induction k with
    | zero =>
      intro i hi
      have : i = (h0 0).toNat := by omega
      subst this
      refine hJ _ _ _ _ ?_
      conv => whnf
      refine ⟨(oi_in (by omega) (by omega)).mpr ⟨by omega, by omega⟩, ?_⟩
      conv => whnf
      rw [show (Int32.ofInt 0).toNatClampNeg = 0 from rfl, hr 0 (by omega)]
      refine ⟨fun c => ?_, fun c => ?_⟩ <;> (try simp (disch := omega) only [oi_le, oi_lt, oi_eq, oi_lt0, oi_le0, oi_0lt, oi_0le, oi_eq0, oi_eq1, bI_eq0, bI_ne0, bI_eq1, decide_eq_true_eq, decide_eq_false_iff_not, lc_lt, lc_gt, lc_eq, lc_ge, lc_le, ol_lt, ol_eq, ne_eq, Int.not_lt, Int.not_le, Bool.not_eq_true, Bool.not_eq_false, Decidable.not_not, not_true_eq_false, not_false_eq_true, Bool.true_eq_false, Bool.false_eq_true] at c) <;> (first | (exfalso; omega) | ((with_reducible refine hJ _ _ _ _ ?_); conv => whnf) | (conv => whnf))
      exact h
    | succ k ih =>
      intro i hi
      have hti : (i : Int) < h0 0 := by omega
      have nx := ih (i + 1) (by omega)
      rw [mask] at nx
      refine hJ _ _ _ _ ?_
      conv => whnf
      refine ⟨(oi_in (by omega) (by omega)).mpr ⟨by omega, by omega⟩, ?_⟩
      conv => whnf
      rw [show (Int32.ofInt 0).toNatClampNeg = 0 from rfl, hr 0 (by omega)]
      refine ⟨fun c => ?_, fun c => ?_⟩ <;> (try simp (disch := omega) only [oi_le, oi_lt, oi_eq, oi_lt0, oi_le0, oi_0lt, oi_0le, oi_eq0, oi_eq1, bI_eq0, bI_ne0, bI_eq1, decide_eq_true_eq, decide_eq_false_iff_not, lc_lt, lc_gt, lc_eq, lc_ge, lc_le, ol_lt, ol_eq, ne_eq, Int.not_lt, Int.not_le, Bool.not_eq_true, Bool.not_eq_false, Decidable.not_not, not_true_eq_false, not_false_eq_true, Bool.true_eq_false, Bool.false_eq_true] at c) <;> (first | (exfalso; omega) | ((with_reducible refine hJ _ _ _ _ ?_); conv => whnf) | (conv => whnf))
      refine s_m_canSay hC hr hw hm hti ?_
      conv => whnf
      refine ⟨fun c2 => ?_, fun c2 => ?_⟩ <;> (try simp (disch := omega) only [oi_le, oi_lt, oi_eq, oi_lt0, oi_le0, oi_0lt, oi_0le, oi_eq0, oi_eq1, bI_eq0, bI_ne0, bI_eq1, decide_eq_true_eq, decide_eq_false_iff_not, lc_lt, lc_gt, lc_eq, lc_ge, lc_le, ol_lt, ol_eq, ne_eq, Int.not_lt, Int.not_le, Bool.not_eq_true, Bool.not_eq_false, Decidable.not_not, not_true_eq_false, not_false_eq_true, Bool.true_eq_false, Bool.false_eq_true] at c2) <;> (first | (exfalso; omega) | ((with_reducible refine hJ _ _ _ _ ?_); conv => whnf) | (conv => whnf))
      · refine hJ _ _ _ _ ?_
        conv => whnf
        rw [oi_succ, ze_or]
        rw [if_neg (by simp [c2])] at nx
        exact nx
      · refine hJ _ _ _ _ ?_
        conv => whnf
        rw [oi_shl (by omega), oi_or, oi_succ]
        rw [if_pos c2] at nx
        exact nx
  exact loop (h0 0).toNat 0 (by omega)
theorem op_topics {CALL : CT} (hC : RuleAll CALL) {r : Nat} {σ : AM} {K : AV → AV → AM → Prop} {n : Nat} {h0 : Nat → Int} (hn : NH σ n h0) {z : Int} (z1 : -2147483648 ≤ z) (z2 : z < 2147483648) (h : ∀ v σ2, SC σ σ2 → σ2.1 1 0 16 = σ2.1 46 0 2 → K v v σ2) : CALL (r + 20) n_x_topics [.inr (.inr (1, 0)), .inl (Int32.ofInt z)] σ (fun v σ1 => CALL (r + 20) n_m_topics [.inr (.inr (46, 0)), .inl (Int32.ofInt z)] σ1 (fun v' σ2 => K v v' σ2)) := by
  obtain ⟨n45, hnn, hr, hm, ⟨hw, hw67⟩, h59⟩ := id hn
  have b := hw.1
  obtain ⟨q0, q1, q2, q3, q4, q5, q6, q7, q8, q9, qa, qt, qm, qe⟩ := id hr
  refine r_x_topics hC (fun J hJ => ?_)
  refine hJ _ _ _ _ ?_
  conv => whnf
  refine s_isMonk hC hn z1 z2 ?_
  conv => whnf
  refine ⟨fun c => ?_, fun c => ?_⟩ <;> (try simp (disch := omega) only [oi_le, oi_lt, oi_eq, oi_lt0, oi_le0, oi_0lt, oi_0le, oi_eq0, oi_eq1, bI_eq0, bI_ne0, bI_eq1, decide_eq_true_eq, decide_eq_false_iff_not, lc_lt, lc_gt, lc_eq, lc_ge, lc_le, ol_lt, ol_eq, ne_eq, Int.not_lt, Int.not_le, Bool.not_eq_true, Bool.not_eq_false, Decidable.not_not, not_true_eq_false, not_false_eq_true, Bool.true_eq_false, Bool.false_eq_true] at c) <;> (first | (exfalso; omega) | ((with_reducible refine hJ _ _ _ _ ?_); conv => whnf) | (conv => whnf))
  · refine s_none hC ?_
    conv => whnf
    refine hJ _ _ _ _ ?_
    conv => whnf
    refine r_m_topics hC (fun J hJ => ?_)
    refine hJ _ _ _ _ ?_
    conv => whnf
    refine s_m_isMonk hC hm.c hw z1 z2 ?_
    conv => whnf
    refine ⟨fun c2 => ?_, fun c2 => ?_⟩ <;> (try simp (disch := omega) only [oi_le, oi_lt, oi_eq, oi_lt0, oi_le0, oi_0lt, oi_0le, oi_eq0, oi_eq1, bI_eq0, bI_ne0, bI_eq1, decide_eq_true_eq, decide_eq_false_iff_not, lc_lt, lc_gt, lc_eq, lc_ge, lc_le, ol_lt, ol_eq, ne_eq, Int.not_lt, Int.not_le, Bool.not_eq_true, Bool.not_eq_false, Decidable.not_not, not_true_eq_false, not_false_eq_true, Bool.true_eq_false, Bool.false_eq_true] at c2) <;> (first | (exfalso; omega) | ((with_reducible refine hJ _ _ _ _ ?_); conv => whnf) | (conv => whnf))
    refine s_m_refuse hC ?_
    conv => whnf
    refine hJ _ _ _ _ ?_
    conv => whnf
    exact h _ _ done2.1 done2.2
  · rw [hnn]
    refine ⟨by omega, ?_⟩
    conv => whnf
    obtain ⟨m, rfl⟩ : ∃ m : Nat, z = (m : Int) := ⟨z.toNat, by omega⟩
    refine s_sayable hC hr hw c.2 ?_
    conv => whnf
    refine s_give hC ?_
    conv => whnf
    refine hJ _ _ _ _ ?_
    conv => whnf
    refine r_m_topics hC (fun J hJ => ?_)
    refine hJ _ _ _ _ ?_
    conv => whnf
    refine s_m_isMonk hC hm.c hw z1 z2 ?_
    conv => whnf
    refine ⟨fun c2 => ?_, fun c2 => ?_⟩ <;> (try simp (disch := omega) only [oi_le, oi_lt, oi_eq, oi_lt0, oi_le0, oi_0lt, oi_0le, oi_eq0, oi_eq1, bI_eq0, bI_ne0, bI_eq1, decide_eq_true_eq, decide_eq_false_iff_not, lc_lt, lc_gt, lc_eq, lc_ge, lc_le, ol_lt, ol_eq, ne_eq, Int.not_lt, Int.not_le, Bool.not_eq_true, Bool.not_eq_false, Decidable.not_not, not_true_eq_false, not_false_eq_true, Bool.true_eq_false, Bool.false_eq_true] at c2) <;> (first | (exfalso; omega) | ((with_reducible refine hJ _ _ _ _ ?_); conv => whnf) | (conv => whnf))
    refine s_m_topicsOf hC hm.c hw c.2 ?_
    conv => whnf
    refine s_m_gives hC ?_
    conv => whnf
    refine hJ _ _ _ _ ?_
    conv => whnf
    exact h _ _ done2.1 done2.2
def spksS (h : Nat → Int) (t : Nat) : Nat := mask (fun m => canS h m t) (h 1).toNat
theorem op_speakers {CALL : CT} (hC : RuleAll CALL) {r : Nat} {σ : AM} {K : AV → AV → AM → Prop} {n : Nat} {h0 : Nat → Int} (hn : NH σ n h0) {z : Int} (z1 : -2147483648 ≤ z) (z2 : z < 2147483648) (h : ∀ v σ2, SC σ σ2 → σ2.1 1 0 16 = σ2.1 46 0 2 → K v v σ2) : CALL (r + 20) n_x_speakers [.inr (.inr (1, 0)), .inl (Int32.ofInt z)] σ (fun v σ1 => CALL (r + 20) n_m_speakers [.inr (.inr (46, 0)), .inl (Int32.ofInt z)] σ1 (fun v' σ2 => K v v' σ2)) := by
  obtain ⟨n45, hnn, hr, hm, ⟨hw, hw67⟩, h59⟩ := id hn
  have b := hw.1
  obtain ⟨q0, q1, q2, q3, q4, q5, q6, q7, q8, q9, qa, qt, qm, qe⟩ := id hr
  refine r_x_speakers hC (fun J hJ => ?_)
  refine hJ _ _ _ _ ?_
  conv => whnf
  refine s_isTopic hC hn z1 z2 ?_
  conv => whnf
  refine ⟨fun c => ?_, fun c => ?_⟩ <;> (try simp (disch := omega) only [oi_le, oi_lt, oi_eq, oi_lt0, oi_le0, oi_0lt, oi_0le, oi_eq0, oi_eq1, bI_eq0, bI_ne0, bI_eq1, decide_eq_true_eq, decide_eq_false_iff_not, lc_lt, lc_gt, lc_eq, lc_ge, lc_le, ol_lt, ol_eq, ne_eq, Int.not_lt, Int.not_le, Bool.not_eq_true, Bool.not_eq_false, Decidable.not_not, not_true_eq_false, not_false_eq_true, Bool.true_eq_false, Bool.false_eq_true] at c) <;> (first | (exfalso; omega) | ((with_reducible refine hJ _ _ _ _ ?_); conv => whnf) | (conv => whnf))
  · obtain ⟨t, rfl⟩ : ∃ t : Nat, z = (t : Int) := ⟨z.toNat, by omega⟩
    have fin : CALL (r + 20) n_m_speakers [.inr (.inr (46, 0)), .inl (Int32.ofInt (t : Int))] (wI σ 1 0 16 (Int32.ofInt 0)) (fun v' σ2 => K (.inl (Int32.ofInt (spksS h0 t))) v' σ2) := by
      refine r_m_speakers hC (fun J hJ => ?_)
      refine hJ _ _ _ _ ?_
      conv => whnf
      rw [oi_l (by omega) (by omega)]
      refine s_m_isTopic hC hm.c hw (by omega) (by omega) ?_
      conv => whnf
      refine ⟨fun c2 => ?_, fun c2 => ?_⟩ <;> (try simp (disch := omega) only [oi_le, oi_lt, oi_eq, oi_lt0, oi_le0, oi_0lt, oi_0le, oi_eq0, oi_eq1, bI_eq0, bI_ne0, bI_eq1, decide_eq_true_eq, decide_eq_false_iff_not, lc_lt, lc_gt, lc_eq, lc_ge, lc_le, ol_lt, ol_eq, ne_eq, Int.not_lt, Int.not_le, Bool.not_eq_true, Bool.not_eq_false, Decidable.not_not, not_true_eq_false, not_false_eq_true, Bool.true_eq_false, Bool.false_eq_true] at c2) <;> (first | (exfalso; omega) | ((with_reducible refine hJ _ _ _ _ ?_); conv => whnf) | (conv => whnf))
      have loop : ∀ (k i : Nat), i + k = (h0 1).toNat → J 19 [.inr (.inr (46, 0)), .inl (Int32.ofInt (t : Int)), .inl (Int32.ofInt (mask (fun m => canS h0 m t) i)), .inl (Int32.ofInt (i : Int))] [] (wI σ 1 0 16 (Int32.ofInt 0)) := by
        intro k
        induction k with
        | zero =>
          intro i hi
          have : i = (h0 1).toNat := by omega
          subst this
          refine hJ _ _ _ _ ?_
          conv => whnf
          refine ⟨(oi_in (by omega) (by omega)).mpr ⟨by omega, by omega⟩, ?_⟩
          conv => whnf
          rw [show (Int32.ofInt 1).toNatClampNeg = 1 from rfl, hm.c 1 (by omega)]
          refine ⟨fun c => ?_, fun c => ?_⟩ <;> (try simp (disch := omega) only [oi_le, oi_lt, oi_eq, oi_lt0, oi_le0, oi_0lt, oi_0le, oi_eq0, oi_eq1, bI_eq0, bI_ne0, bI_eq1, decide_eq_true_eq, decide_eq_false_iff_not, lc_lt, lc_gt, lc_eq, lc_ge, lc_le, ol_lt, ol_eq, ne_eq, Int.not_lt, Int.not_le, Bool.not_eq_true, Bool.not_eq_false, Decidable.not_not, not_true_eq_false, not_false_eq_true, Bool.true_eq_false, Bool.false_eq_true] at c) <;> (first | (exfalso; omega) | ((with_reducible refine hJ _ _ _ _ ?_); conv => whnf) | (conv => whnf))
          refine s_m_gives hC ?_
          conv => whnf
          exact h _ _ done2.1 done2.2
        | succ k ih =>
          intro i hi
          have hti : (i : Int) < h0 1 := by omega
          have nx := ih (i + 1) (by omega)
          rw [mask] at nx
          refine hJ _ _ _ _ ?_
          conv => whnf
          refine ⟨(oi_in (by omega) (by omega)).mpr ⟨by omega, by omega⟩, ?_⟩
          conv => whnf
          rw [show (Int32.ofInt 1).toNatClampNeg = 1 from rfl, hm.c 1 (by omega)]
          refine ⟨fun c => ?_, fun c => ?_⟩ <;> (try simp (disch := omega) only [oi_le, oi_lt, oi_eq, oi_lt0, oi_le0, oi_0lt, oi_0le, oi_eq0, oi_eq1, bI_eq0, bI_ne0, bI_eq1, decide_eq_true_eq, decide_eq_false_iff_not, lc_lt, lc_gt, lc_eq, lc_ge, lc_le, ol_lt, ol_eq, ne_eq, Int.not_lt, Int.not_le, Bool.not_eq_true, Bool.not_eq_false, Decidable.not_not, not_true_eq_false, not_false_eq_true, Bool.true_eq_false, Bool.false_eq_true] at c) <;> (first | (exfalso; omega) | ((with_reducible refine hJ _ _ _ _ ?_); conv => whnf) | (conv => whnf))
          refine s_m_canSay hC hm.c hw hti c2.2 ?_
          conv => whnf
          refine ⟨fun c3 => ?_, fun c3 => ?_⟩ <;> (try simp (disch := omega) only [oi_le, oi_lt, oi_eq, oi_lt0, oi_le0, oi_0lt, oi_0le, oi_eq0, oi_eq1, bI_eq0, bI_ne0, bI_eq1, decide_eq_true_eq, decide_eq_false_iff_not, lc_lt, lc_gt, lc_eq, lc_ge, lc_le, ol_lt, ol_eq, ne_eq, Int.not_lt, Int.not_le, Bool.not_eq_true, Bool.not_eq_false, Decidable.not_not, not_true_eq_false, not_false_eq_true, Bool.true_eq_false, Bool.false_eq_true] at c3) <;> (first | (exfalso; omega) | ((with_reducible refine hJ _ _ _ _ ?_); conv => whnf) | (conv => whnf))
          · refine hJ _ _ _ _ ?_
            conv => whnf
            rw [oi_succ, ze_or]
            rw [if_neg (by simp [c3])] at nx
            exact nx
          · refine hJ _ _ _ _ ?_
            conv => whnf
            rw [oi_shl (by omega), oi_or, oi_succ]
            rw [if_pos c3] at nx
            exact nx
      exact loop (h0 1).toNat 0 (by omega)
    have loop : ∀ (k i : Nat), i + k = (h0 1).toNat → J 18 [.inr (.inr (1, 0)), .inl (Int32.ofInt (t : Int)), .inl (Int32.ofInt (mask (fun m => canS h0 m t) i)), .inl (Int32.ofInt (i : Int))] [] σ := by
      intro k
      induction k with
      | zero =>
        intro i hi
        have : i = (h0 1).toNat := by omega
        subst this
        refine hJ _ _ _ _ ?_
        conv => whnf
        rw [hnn]
        refine ⟨by omega, ?_⟩
        conv => whnf
        rw [q1]
        refine ⟨fun c2 => ?_, fun c2 => ?_⟩ <;> (try simp (disch := omega) only [oi_le, oi_lt, oi_eq, oi_lt0, oi_le0, oi_0lt, oi_0le, oi_eq0, oi_eq1, bI_eq0, bI_ne0, bI_eq1, decide_eq_true_eq, decide_eq_false_iff_not, lc_lt, lc_gt, lc_eq, lc_ge, lc_le, ol_lt, ol_eq, ne_eq, Int.not_lt, Int.not_le, Bool.not_eq_true, Bool.not_eq_false, Decidable.not_not, not_true_eq_false, not_false_eq_true, Bool.true_eq_false, Bool.false_eq_true] at c2) <;> (first | (exfalso; omega) | ((with_reducible refine hJ _ _ _ _ ?_); conv => whnf) | (conv => whnf))
        refine s_give hC ?_
        conv => whnf
        exact fin
      | succ k ih =>
        intro i hi
        have hti : (i : Int) < h0 1 := by omega
        have nx := ih (i + 1) (by omega)
        refine hJ _ _ _ _ ?_
        conv => whnf
        rw [hnn]
        refine ⟨by omega, ?_⟩
        conv => whnf
        rw [q1]
        refine ⟨fun c2 => ?_, fun c2 => ?_⟩ <;> (try simp (disch := omega) only [oi_le, oi_lt, oi_eq, oi_lt0, oi_le0, oi_0lt, oi_0le, oi_eq0, oi_eq1, bI_eq0, bI_ne0, bI_eq1, decide_eq_true_eq, decide_eq_false_iff_not, lc_lt, lc_gt, lc_eq, lc_ge, lc_le, ol_lt, ol_eq, ne_eq, Int.not_lt, Int.not_le, Bool.not_eq_true, Bool.not_eq_false, Decidable.not_not, not_true_eq_false, not_false_eq_true, Bool.true_eq_false, Bool.false_eq_true] at c2) <;> (first | (exfalso; omega) | ((with_reducible refine hJ _ _ _ _ ?_); conv => whnf) | (conv => whnf))
        rw [hnn]
        refine ⟨by omega, ?_⟩
        conv => whnf
        refine s_canSay hC hr hw hti c.2 ?_
        conv => whnf
        refine s_with hC (mask_7 _ (by omega)) (by omega) ?_
        conv => whnf
        rw [oi_succ, mask_w (fun m => canS h0 m t) i]
        exact nx
    exact loop (h0 1).toNat 0 (by omega)
  · refine s_none hC ?_
    conv => whnf
    refine r_m_speakers hC (fun J hJ => ?_)
    refine hJ _ _ _ _ ?_
    conv => whnf
    rw [oi_l (by omega) (by omega)]
    refine s_m_isTopic hC hm.c hw (by omega) (by omega) ?_
    conv => whnf
    refine ⟨fun c2 => ?_, fun c2 => ?_⟩ <;> (try simp (disch := omega) only [oi_le, oi_lt, oi_eq, oi_lt0, oi_le0, oi_0lt, oi_0le, oi_eq0, oi_eq1, bI_eq0, bI_ne0, bI_eq1, decide_eq_true_eq, decide_eq_false_iff_not, lc_lt, lc_gt, lc_eq, lc_ge, lc_le, ol_lt, ol_eq, ne_eq, Int.not_lt, Int.not_le, Bool.not_eq_true, Bool.not_eq_false, Decidable.not_not, not_true_eq_false, not_false_eq_true, Bool.true_eq_false, Bool.false_eq_true] at c2) <;> (first | (exfalso; omega) | ((with_reducible refine hJ _ _ _ _ ?_); conv => whnf) | (conv => whnf))
    refine s_m_refuse hC ?_
    conv => whnf
    exact h _ _ done2.1 done2.2
theorem SC.mf {σ σ' : AM} (hf : Fr (fun t i => (t = 46 ∨ t = 47) ∧ i = 0) σ σ') (h2 : σ'.2 = σ.2) (h47 : ∀ j, j < 1860 → σ'.1 47 0 j = σ.1 47 0 j) (h46 : ∀ j, j = 10 ∨ j = 16 ∨ j = 17 ∨ j = 45 ∨ j = 46 → σ'.1 46 0 j = σ.1 46 0 j) : SC σ σ' := by
  refine ⟨fun t i j k => ?_, fun t i j k => by rw [h2], fun j _ _ => by rw [h2]⟩
  by_cases hs : (t = 46 ∨ t = 47) ∧ i = 0
  · obtain ⟨ht, hi⟩ := hs
    subst hi
    rcases ht with ht | ht
    · subst ht
      exact h46 j (by unfold keepI at k; omega)
    · subst ht
      exact h47 j (by unfold keepI at k; omega)
  · exact congrFun (hf t i hs).1 j
/-- the speaker, the topic of the minute that begins -/
theorem spk_fin {CALL : CT} (hC : RuleAll CALL) {r : Nat} {σ : AM} {h0 : Nat → Int} {K : AV → AM → Prop} {x : Int32} (hm : M0 σ h0) (hw : WF h0) (hx : σ.1 1 0 16 = x) (h : ∀ σ' : AM, SC σ σ' → σ'.1 1 0 16 = x → σ'.1 46 0 24 = Int32.ofInt (spM (speechS h0)) → σ'.1 46 0 25 = Int32.ofInt (spT (speechS h0)) → K unset σ') : CALL (r + 5) n_m_laysSpeaker [.inr (.inr (46, 0))] σ K := by
  refine s_m_laysSpeaker hC hm hw ?_
  intro σ' h1 h2 h3 h4 h5 h6
  refine h σ' (SC.mf h2.1 h2.2.1 (fun j _ => h3 j) (fun j hj => h2.2.2.2 j (by omega) (by omega) (by omega))) ?_ h4 h5
  rw [congrFun (h2.1 1 0 (by omega)).1 16, hx]
theorem op_speaker {CALL : CT} (hC : RuleAll CALL) {r : Nat} {σ : AM} {K : AV → AV → AM → Prop} {n : Nat} {h0 : Nat → Int} (hn : NH σ n h0) (h : ∀ v σ2, SC σ σ2 → σ2.1 1 0 16 = σ2.1 46 0 2 → K v v σ2) : CALL (r + 20) n_x_speaker [.inr (.inr (1, 0))] σ (fun v σ1 => CALL (r + 20) n_m_speaker [.inr (.inr (46, 0))] σ1 (fun v' σ2 => K v v' σ2)) := by
  obtain ⟨n45, hnn, hr, hm, ⟨hw, hw67⟩, h59⟩ := id hn
  have b := hw.1
  obtain ⟨q0, q1, q2, q3, q4, q5, q6, q7, q8, q9, qa, qt, qm, qe⟩ := id hr
  have so := speechS_ok hw
  have sb := spM_ok hw so
  refine r_x_speaker hC (fun J hJ => ?_)
  refine hJ _ _ _ _ ?_
  conv => whnf
  rw [hnn]
  refine ⟨by omega, ?_⟩
  conv => whnf
  refine s_speech hC hr hw ?_
  conv => whnf
  refine s_monkOf hC hw so ?_
  conv => whnf
  refine s_giveOrNone hC (by omega) (by omega) ?_
  conv => whnf
  refine r_m_speaker hC (fun J hJ => ?_)
  refine hJ _ _ _ _ ?_
  conv => whnf
  refine spk_fin hC hm.c hw rfl ?_
  intro σ' h1 hx h4 h5
  conv => whnf
  rw [h4]
  refine s_m_orNone hC (by omega) (by omega) ?_
  conv => whnf
  refine h _ _ (((SC.wI nk_code).tr h1).tr (SC.wI nk_status)) ?_
  show σ'.1 1 0 16 = _
  rw [hx]
  simp [wI1]
theorem op_spoken {CALL : CT} (hC : RuleAll CALL) {r : Nat} {σ : AM} {K : AV → AV → AM → Prop} {n : Nat} {h0 : Nat → Int} (hn : NH σ n h0) (h : ∀ v σ2, SC σ σ2 → σ2.1 1 0 16 = σ2.1 46 0 2 → K v v σ2) : CALL (r + 20) n_x_spoken [.inr (.inr (1, 0))] σ (fun v σ1 => CALL (r + 20) n_m_spoken [.inr (.inr (46, 0))] σ1 (fun v' σ2 => K v v' σ2)) := by
  obtain ⟨n45, hnn, hr, hm, ⟨hw, hw67⟩, h59⟩ := id hn
  have b := hw.1
  obtain ⟨q0, q1, q2, q3, q4, q5, q6, q7, q8, q9, qa, qt, qm, qe⟩ := id hr
  have so := speechS_ok hw
  have sb := spM_ok hw so
  refine r_x_spoken hC (fun J hJ => ?_)
  refine hJ _ _ _ _ ?_
  conv => whnf
  rw [hnn]
  refine ⟨by omega, ?_⟩
  conv => whnf
  refine s_speech hC hr hw ?_
  conv => whnf
  refine s_topicOf hC hw so ?_
  conv => whnf
  refine s_giveOrNone hC (by omega) (by omega) ?_
  conv => whnf
  refine r_m_spoken hC (fun J hJ => ?_)
  refine hJ _ _ _ _ ?_
  conv => whnf
  refine spk_fin hC hm.c hw rfl ?_
  intro σ' h1 hx h4 h5
  conv => whnf
  rw [h5]
  refine s_m_orNone hC (by omega) (by omega) ?_
  conv => whnf
  refine h _ _ (((SC.wI nk_code).tr h1).tr (SC.wI nk_status)) ?_
  show σ'.1 1 0 16 = _
  rw [hx]
  simp [wI1]
