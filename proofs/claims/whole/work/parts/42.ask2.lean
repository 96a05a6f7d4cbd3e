/-- a set, one by one -/
def mask (p : Nat → Bool) : Nat → Nat
  | 0 => 0
  | i + 1 => if p i then mask p i ||| 2 ^ i else mask p i
theorem mask_lt (p : Nat → Bool) : ∀ i, mask p i < 2 ^ i
  | 0 => by rw [mask]; decide
  | i + 1 => by
    have ih := mask_lt p i
    have h2 : (2 : Nat) ^ i < 2 ^ (i + 1) := Nat.pow_lt_pow_right (by omega) (by omega)
    rw [mask]
    split
    · exact Nat.or_lt_two_pow (by omega) h2
    · omega
theorem mask_7 (p : Nat → Bool) {i : Nat} (hi : i ≤ 7) : mask p i < 128 := Nat.lt_of_lt_of_le (mask_lt p i) (Nat.pow_le_pow_right (n := 2) (by omega) hi)
theorem mask_w (p : Nat → Bool) (i : Nat) : setW (mask p i) i (p i) = mask p (i + 1) := by
  unfold setW
  rw [mask]
  cases p i with
  | true => rfl
  | false =>
    have : (mask p i).testBit i = false := Nat.testBit_lt_two_pow (mask_lt p i)
    simp [this]
theorem mask_cong {p q : Nat → Bool} : ∀ {i : Nat}, (∀ k, k < i → p k = q k) → mask p i = mask q i
  | 0, _ => rfl
  | i + 1, h => by rw [mask, mask, mask_cong (fun k hk => h k (by omega)), h i (by omega)]
theorem mask_bit (p : Nat → Bool) : ∀ (i k : Nat), (mask p i).testBit k = (decide (k < i) && p k)
  | 0, k => by simp [mask]
  | i + 1, k => by
    rw [mask]
    by_cases hk : k = i
    · subst hk
      have h0 : (mask p k).testBit k = false := Nat.testBit_lt_two_pow (mask_lt p k)
      cases hp : p k with
      | true => simp [Nat.testBit_or, Nat.testBit_two_pow]
      | false => simp [h0]
    · have ih := mask_bit p i k
      have e : decide (k < i + 1) = decide (k < i) := decide_eq_decide.mpr (by omega)
      rw [e, ← ih]
      split
      · rw [Nat.testBit_or, Nat.testBit_two_pow]
        simp [show ¬ i = k from fun z => hk z.symm]
      · rfl
theorem ze_or (a : Nat) : Int32.ofInt (a : Int) ||| Int32.ofInt 0 = Int32.ofInt (a : Int) := by rw [show (Int32.ofInt 0) = Int32.ofInt ((0 : Nat) : Int) from rfl, oi_or, Nat.or_zero]
theorem s_before {CALL : CT} (hC : RuleAll CALL) {r : Nat} {σ : AM} {K : AV → AM → Prop} {n t : Nat} {h0 : Nat → Int} (hr : HRep σ n h0) (hw : WF h0) (ht : t < 6) (h : K (.inl (Int32.ofInt (mask (fun k => (h0 (13 + 2 * k)).toNat.testBit t) (h0 0).toNat))) σ) : CALL (r + 2) n_Topics_before [.inr (.inr (23, n)), .inl (Int32.ofInt t)] σ K := by
  refine r_Topics_before hC (fun J hJ => ?_)
  refine hJ _ _ _ _ ?_
  conv => whnf
  have b := hw.1
  have loop : ∀ (k i : Nat), i + k = (h0 0).toNat → J 4 [.inr (.inr (23, n)), .inl (Int32.ofInt t), .inl (Int32.ofInt (mask (fun k => (h0 (13 + 2 * k)).toNat.testBit t) i)), .inl (Int32.ofInt (i : Int))] [] σ := by
    intro k
    induction k with
    | zero =>
      intro i hi
      have : i = (h0 0).toNat := by omega
      subst this
      refine hJ _ _ _ _ ?_
      conv => whnf
      rw [hr.1]
      refine ⟨fun c => ?_, fun c => ?_⟩
      · refine hJ _ _ _ _ ?_
        conv => whnf
        exact h
      · rw [oi_le (by omega) (by omega) (by omega) (by omega)] at c
        omega
    | succ k ih =>
      intro i hi
      have hti : (i : Int) < h0 0 := by omega
      have htw := hw.2.1 i hti
      refine hJ _ _ _ _ ?_
      conv => whnf
      rw [hr.1]
      refine ⟨fun c => ?_, fun c => ?_⟩
      · rw [oi_le (by omega) (by omega) (by omega) (by omega)] at c
        omega
      · conv => whnf
        refine ⟨(oi_in (by omega) (by omega)).mpr ⟨by omega, by omega⟩, ?_⟩
        conv => whnf
        have e1 : σ.1 26 n i = Int32.ofInt (((h0 (13 + 2 * i)).toNat : Nat) : Int) := by
          obtain ⟨-, -, -, -, -, -, -, -, -, -, -, et, -⟩ := hr
          rw [(et i hti).2]
          congr 1
          omega
        rw [oi_nat (by omega) (by omega), Int.toNat_natCast, e1]
        refine s_has hC (by omega) (by omega) ?_
        conv => whnf
        refine s_with hC (mask_7 _ (by omega)) (by omega) ?_
        conv => whnf
        rw [oi_succ, mask_w (fun k => (h0 (13 + 2 * k)).toNat.testBit t) i]
        exact ih (i + 1) (by omega)
  exact loop (h0 0).toNat 0 (by omega)
theorem s_m_aheadOf {CALL : CT} (hC : RuleAll CALL) {r : Nat} {σ : AM} {K : AV → AM → Prop} {t : Nat} {h0 : Nat → Int} (hm : M0 σ h0) (hw : WF h0) (ht : t < 6) (h : K (.inl (Int32.ofInt (mask (fun k => (h0 (13 + 2 * k)).toNat.testBit t) (h0 0).toNat))) σ) : CALL (r + 3) n_m_aheadOf [.inr (.inr (46, 0)), .inl (Int32.ofInt t)] σ K := by
  refine r_m_aheadOf hC (fun J hJ => ?_)
  refine hJ _ _ _ _ ?_
  conv => whnf
  have b := hw.1
  have loop : ∀ (k i : Nat), i + k = (h0 0).toNat → J 4 [.inr (.inr (46, 0)), .inl (Int32.ofInt t), .inl (Int32.ofInt (mask (fun k => (h0 (13 + 2 * k)).toNat.testBit t) i)), .inl (Int32.ofInt (i : Int))] [] σ := by
    intro k
    induction k with
    | zero =>
      intro i hi
      have : i = (h0 0).toNat := by omega
      subst this
      refine hJ _ _ _ _ ?_
      conv => whnf
      refine ⟨(oi_in (by omega) (by omega)).mpr ⟨by omega, by omega⟩, ?_⟩
      conv => whnf
      rw [show (Int32.ofInt 0).toNatClampNeg = 0 from rfl, hm 0 (by omega)]
      refine ⟨fun c => ?_, fun c => ?_⟩
      · refine hJ _ _ _ _ ?_
        conv => whnf
        exact h
      · rw [oi_le (by omega) (by omega) (by omega) (by omega)] at c
        omega
    | succ k ih =>
      intro i hi
      have hti : (i : Int) < h0 0 := by omega
      have htw := hw.2.1 i hti
      refine hJ _ _ _ _ ?_
      conv => whnf
      refine ⟨(oi_in (by omega) (by omega)).mpr ⟨by omega, by omega⟩, ?_⟩
      conv => whnf
      rw [show (Int32.ofInt 0).toNatClampNeg = 0 from rfl, hm 0 (by omega)]
      refine ⟨fun c => ?_, fun c => ?_⟩
      · rw [oi_le (by omega) (by omega) (by omega) (by omega)] at c
        omega
      · conv => whnf
        refine s_m_nextOf hC hm (by omega) ?_
        conv => whnf
        rw [show h0 (13 + 2 * i) = (((h0 (13 + 2 * i)).toNat : Nat) : Int) by omega]
        refine s_m_isIn hC (by omega) (by omega) ?_
        conv => whnf
        have nx := ih (i + 1) (by omega)
        rw [mask] at nx
        refine ⟨fun c2 => ?_, fun c2 => ?_⟩
        · rw [bI_eq0] at c2
          refine hJ _ _ _ _ ?_
          conv => whnf
          refine hJ _ _ _ _ ?_
          conv => whnf
          rw [oi_succ, ze_or]
          rw [if_neg (by rw [c2]; decide)] at nx
          exact nx
        · rw [bI_ne0] at c2
          conv => whnf
          refine hJ _ _ _ _ ?_
          conv => whnf
          rw [oi_succ, oi_shl (by omega), oi_or]
          rw [if_pos c2] at nx
          exact nx
  exact loop (h0 0).toNat 0 (by omega)
theorem op_topic {CALL : CT} (hC : RuleAll CALL) {r : Nat} {σ : AM} {K : AV → AV → AM → Prop} {n : Nat} {h0 : Nat → Int} (hn : NH σ n h0) {z y : Int} (z1 : -2147483648 ≤ z) (z2 : z < 2147483648) (y1 : -2147483648 ≤ y) (y2 : y < 2147483648) (h : ∀ v σ2, SC σ σ2 → σ2.1 1 0 16 = σ2.1 46 0 2 → K v v σ2) : CALL (r + 20) n_x_topic [.inr (.inr (1, 0)), .inl (Int32.ofInt z), .inl (Int32.ofInt y)] σ (fun v σ1 => CALL (r + 20) n_m_topic [.inr (.inr (46, 0)), .inl (Int32.ofInt z), .inl (Int32.ofInt y)] σ1 (fun v' σ2 => K v v' σ2)) := by
  obtain ⟨n45, hnn, hr, hm, ⟨hw, hw67⟩, h59⟩ := id hn
  have b := hw.1
  obtain ⟨q0, q1, q2, q3, q4, q5, q6, q7, q8, q9, qa, qt, qm, qe⟩ := id hr
  -- refused by both
  have bad : ¬ (0 ≤ z ∧ z < h0 0 ∧ 0 ≤ y ∧ y ≤ 2) → CALL (r + 20) n_m_topic [.inr (.inr (46, 0)), .inl (Int32.ofInt z), .inl (Int32.ofInt y)] (wI σ 1 0 16 (Int32.ofInt 1)) (fun v' σ2 => K (.inl (Int32.ofInt (-1))) v' σ2) := by
    intro hb
    refine r_m_topic hC (fun J hJ => ?_)
    have b18 : J 18 [.inr (.inr (46, 0)), .inl (Int32.ofInt z), .inl (Int32.ofInt y)] [] (wI σ 1 0 16 (Int32.ofInt 1)) := by
      refine hJ _ _ _ _ ?_
      conv => whnf
      refine s_m_refuse hC ?_
      conv => whnf
      exact h _ _ done2.1 done2.2
    refine hJ _ _ _ _ ?_
    conv => whnf
    rw [oi_l (by omega) (by omega)]
    refine s_m_isTopic hC hm.c hw (by omega) (by omega) ?_
    conv => whnf
    refine ⟨fun c => ?_, fun c => ?_⟩
    · exact b18
    · rw [bI_ne0, decide_eq_true_eq] at c
      conv => whnf
      refine ⟨fun c2 => ?_, fun c2 => ?_⟩
      · exact b18
      · rw [oi_lt0 (by omega) (by omega)] at c2
        conv => whnf
        refine ⟨fun c3 => ?_, fun c3 => ?_⟩
        · rw [oi_le (by omega) (by omega) (by omega) (by omega)] at c3
          omega
        · conv => whnf
          exact b18
  have good : ∀ (w : Nat) (A : Int), y = (w : Int) → w ≤ 2 → 0 ≤ z → z < h0 0 → A = (if w = 2 then ((mask (fun k => (h0 (13 + 2 * k)).toNat.testBit z.toNat) (h0 0).toNat : Nat) : Int) else h0 (12 + 2 * z.toNat + w)) → CALL (r + 20) n_m_topic [.inr (.inr (46, 0)), .inl (Int32.ofInt z), .inl (Int32.ofInt y)] (wI σ 1 0 16 (Int32.ofInt 0)) (fun v' σ2 => K (.inl (Int32.ofInt A)) v' σ2) := by
    intro w A hy hw2 hz0 hz1 hA
    refine r_m_topic hC (fun J hJ => ?_)
    refine hJ _ _ _ _ ?_
    conv => whnf
    rw [oi_l (by omega) (by omega)]
    refine s_m_isTopic hC hm.c hw (by omega) (by omega) ?_
    conv => whnf
    refine ⟨fun c => ?_, fun c => ?_⟩
    · rw [bI_eq0, decide_eq_false_iff_not] at c
      omega
    · conv => whnf
      refine ⟨fun c2 => ?_, fun c2 => ?_⟩
      · rw [oi_lt0 (by omega) (by omega)] at c2
        omega
      · conv => whnf
        refine ⟨fun c3 => ?_, fun c3 => ?_⟩
        · refine hJ _ _ _ _ ?_
          conv => whnf
          refine ⟨fun c4 => ?_, fun c4 => ?_⟩
          · rw [oi_eq (by omega) (by omega) (by omega) (by omega)] at c4
            refine hJ _ _ _ _ ?_
            conv => whnf
            refine s_m_topicRow hC ?_
            conv => whnf
            rw [oi_add]
            refine ⟨(oi_in (by omega) (by omega)).mpr ⟨by omega, by omega⟩, ?_⟩
            conv => whnf
            refine hJ _ _ _ _ ?_
            conv => whnf
            refine s_m_gives hC ?_
            conv => whnf
            rw [oi_nat (by omega) (by omega), show (12 + 2 * z + y).toNat = 12 + 2 * z.toNat + w by omega, hm.c _ (by omega)]
            rw [if_neg (by omega)] at hA
            rw [← hA]
            exact h _ _ done2.1 done2.2
          · rw [oi_eq (by omega) (by omega) (by omega) (by omega)] at c4
            conv => whnf
            rw [show z = ((z.toNat : Nat) : Int) by omega]
            refine s_m_aheadOf hC hm.c hw (by omega) ?_
            conv => whnf
            refine hJ _ _ _ _ ?_
            conv => whnf
            refine s_m_gives hC ?_
            conv => whnf
            rw [if_pos (by omega)] at hA
            rw [← hA]
            exact h _ _ done2.1 done2.2
        · rw [oi_le (by omega) (by omega) (by omega) (by omega)] at c3
          omega
  refine r_x_topic hC (fun J hJ => ?_)
  refine hJ _ _ _ _ ?_
  conv => whnf
  refine s_isTopic hC hn z1 z2 ?_
  conv => whnf
  refine ⟨fun c => ?_, fun c => ?_⟩
  · rw [bI_ne0, decide_eq_true_eq] at c
    have htw := hw.2.1 z.toNat (by omega)
    have hqt := qt z.toNat (by omega)
    refine hJ _ _ _ _ ?_
    conv => whnf
    refine ⟨⟨fun c2 => ?_, fun c2 => ?_, fun c2 => ?_, trivial⟩, fun hout => ?_⟩
    · rw [ti_oi y1 y2] at c2
      refine hJ _ _ _ _ ?_
      conv => whnf
      rw [hnn]
      refine ⟨by omega, ?_⟩
      conv => whnf
      refine ⟨(oi_in (by omega) (by omega)).mpr ⟨by omega, by omega⟩, ?_⟩
      conv => whnf
      refine s_give hC ?_
      conv => whnf
      rw [oi_nat (by omega) (by omega), hqt.1]
      exact good 0 _ (by omega) (by omega) (by omega) (by omega) (by rw [if_neg (by omega)]; rfl)
    · rw [ti_oi y1 y2] at c2
      refine hJ _ _ _ _ ?_
      conv => whnf
      rw [hnn]
      refine ⟨by omega, ?_⟩
      conv => whnf
      refine ⟨(oi_in (by omega) (by omega)).mpr ⟨by omega, by omega⟩, ?_⟩
      conv => whnf
      refine s_give hC ?_
      conv => whnf
      rw [oi_nat (by omega) (by omega), hqt.2]
      exact good 1 _ (by omega) (by omega) (by omega) (by omega) (by rw [if_neg (by omega), show 12 + 2 * z.toNat + 1 = 13 + 2 * z.toNat by omega])
    · rw [ti_oi y1 y2] at c2
      refine hJ _ _ _ _ ?_
      conv => whnf
      rw [hnn]
      refine ⟨by omega, ?_⟩
      conv => whnf
      have hzn : z = ((z.toNat : Nat) : Int) := by omega
      rw [show Int32.ofInt z = Int32.ofInt ((z.toNat : Nat) : Int) by rw [← hzn]]
      refine s_before hC hr hw (by omega) ?_
      conv => whnf
      refine s_give hC ?_
      conv => whnf
      rw [← hzn]
      exact good 2 _ (by omega) (by omega) (by omega) (by omega) (by rw [if_pos rfl])
    · rw [ti_oi y1 y2] at hout
      refine hJ _ _ _ _ ?_
      conv => whnf
      refine s_none hC ?_
      conv => whnf
      exact bad (by omega)
  · rw [bI_eq0, decide_eq_false_iff_not] at c
    conv => whnf
    refine s_none hC ?_
    conv => whnf
    exact bad (by omega)
