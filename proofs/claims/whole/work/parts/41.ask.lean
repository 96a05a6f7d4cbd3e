/-! the plain questions. After both calls nothing but STATUS and scratch has changed, and both STATUS are the same. -/
theorem done2 {σ : AM} {x : Int32} : SC σ (wI (wI σ 1 0 16 x) 46 0 2 x) ∧ (wI (wI σ 1 0 16 x) 46 0 2 x).1 1 0 16 = (wI (wI σ 1 0 16 x) 46 0 2 x).1 46 0 2 := by
  refine ⟨(SC.wI nk_code).tr (SC.wI nk_status), ?_⟩
  simp [wI1]
theorem M0.c {σ : AM} {h : Nat → Int} {x : Int32} (hm : M0 σ h) : M0 (wI σ 1 0 16 x) h := hm.fr (fun j _ => by rw [wI1, if_neg (by omega)])
theorem NH.c {σ : AM} {n : Nat} {h : Nat → Int} {x : Int32} (hn : NH σ n h) : NH (wI σ 1 0 16 x) n h := hn.sc (SC.wI nk_code)
/-- the class's two answers, from what is asked: refused with 1 -/
theorem s_m_awake {CALL : CT} (hC : RuleAll CALL) {r : Nat} {σ : AM} {K : AV → AM → Prop} {h0 : Nat → Int} (hm : M0 σ h0) (hw : WF h0) (h : K (.inl (Int32.ofInt (awS h0))) σ) : CALL (r + 3) n_m_awake [.inr (.inr (46, 0))] σ K := by
  refine r_m_awake hC (fun J hJ => ?_)
  refine hJ _ _ _ _ ?_
  conv => whnf
  have b := hw.1
  have loop : ∀ (k i a : Nat), i + k = (h0 1).toNat → a < 128 → K (.inl (Int32.ofInt ((((List.range' i k).foldl (fun (a m : Nat) => if h0 (27 + 7 * m) = 1 then a ||| 2 ^ m else a) a : Nat)) : Int))) σ → J 4 [.inr (.inr (46, 0)), .inl (Int32.ofInt (a : Int)), .inl (Int32.ofInt (i : Int))] [] σ := by
    intro k
    induction k with
    | zero =>
      intro i a hi ha hk
      refine hJ _ _ _ _ ?_
      conv => whnf
      refine ⟨(oi_in (by omega) (by omega)).mpr ⟨by omega, by omega⟩, ?_⟩
      conv => whnf
      rw [show (Int32.ofInt 1).toNatClampNeg = 1 from rfl, hm 1 (by omega)]
      refine ⟨fun c => ?_, fun c => ?_⟩
      · refine hJ _ _ _ _ ?_
        conv => whnf
        exact hk
      · rw [oi_le (by omega) (by omega) (by omega) (by omega)] at c
        omega
    | succ k ih =>
      intro i a hi ha hk
      have hti : (i : Int) < h0 1 := by omega
      have hmw := hw.2.2.1 i hti
      refine hJ _ _ _ _ ?_
      conv => whnf
      refine ⟨(oi_in (by omega) (by omega)).mpr ⟨by omega, by omega⟩, ?_⟩
      conv => whnf
      rw [show (Int32.ofInt 1).toNatClampNeg = 1 from rfl, hm 1 (by omega)]
      refine ⟨fun c => ?_, fun c => ?_⟩
      · rw [oi_le (by omega) (by omega) (by omega) (by omega)] at c
        omega
      · conv => whnf
        refine s_m_monkOf hC (w := 3) hm (by omega) (by omega) ?_
        conv => whnf
        rw [show 24 + 7 * i + 3 = 27 + 7 * i by omega]
        rw [List.range'_succ, List.foldl_cons] at hk
        refine ⟨fun c2 => ?_, fun c2 => ?_⟩
        · rw [oi_eq (by omega) (by omega) (by omega) (by omega)] at c2
          refine hJ _ _ _ _ ?_
          conv => whnf
          refine hJ _ _ _ _ ?_
          conv => whnf
          rw [oi_succ, show (Int32.ofInt 0) = Int32.ofInt ((0 : Nat) : Int) from rfl, oi_or, Nat.or_zero]
          rw [if_neg c2] at hk
          exact ih (i + 1) a (by omega) ha hk
        · rw [oi_eq (by omega) (by omega) (by omega) (by omega)] at c2
          conv => whnf
          refine hJ _ _ _ _ ?_
          conv => whnf
          rw [oi_succ, oi_shl (by omega), oi_or]
          rw [if_pos c2] at hk
          exact ih (i + 1) _ (by omega) (Nat.or_lt_two_pow (n := 7) ha (Nat.pow_lt_pow_right (by omega) (by omega))) hk
  refine loop (h0 1).toNat 0 0 (by omega) (by omega) ?_
  have e : (List.range' 0 (h0 1).toNat).foldl (fun (a m : Nat) => if h0 (27 + 7 * m) = 1 then a ||| 2 ^ m else a) 0 = awS h0 := by
    apply Nat.eq_of_testBit_eq
    intro k
    rw [fold_bit, awS_bit]
    simp only [Nat.zero_testBit, Bool.false_or]
    refine decide_eq_decide.mpr ?_
    rw [List.mem_range'_1]
    constructor
    · rintro ⟨h1, h2⟩; exact ⟨by omega, by omega, h2⟩
    · rintro ⟨h1, h2, h3⟩; exact ⟨by omega, h3⟩
  rw [e]
  exact h
theorem op_told {CALL : CT} (hC : RuleAll CALL) {r : Nat} {σ : AM} {K : AV → AV → AM → Prop} {n : Nat} {h0 : Nat → Int} {z : Int} (hn : NH σ n h0) (z1 : -2147483648 ≤ z) (z2 : z < 2147483648) (h : ∀ v σ2, SC σ σ2 → σ2.1 1 0 16 = σ2.1 46 0 2 → K v v σ2) : CALL (r + 20) n_x_told [.inr (.inr (1, 0)), .inl (Int32.ofInt z)] σ (fun v σ1 => CALL (r + 20) n_m_told [.inr (.inr (46, 0)), .inl (Int32.ofInt z)] σ1 (fun v' σ2 => K v v' σ2)) := by
  obtain ⟨n45, hnn, hr, hm, ⟨hw, -⟩, -⟩ := id hn
  have b := hw.1
  obtain ⟨q0, q1, q2, q3, q4, q5, q6, q7, q8, q9, qa, qt, qm, qe⟩ := id hr
  -- the reference behind an answer of the class
  have mod : ∀ j : Nat, z = (j : Int) → j < 8 → CALL (r + 20) n_m_told [.inr (.inr (46, 0)), .inl (Int32.ofInt z)] (wI σ 1 0 16 (Int32.ofInt 0)) (fun v' σ2 => K (.inl (Int32.ofInt (h0 j))) v' σ2) := by
    intro j hz hj
    refine r_m_told hC (fun J hJ => ?_)
    refine hJ _ _ _ _ ?_
    conv => whnf
    refine ⟨fun c => ?_, fun c => ?_⟩
    · rw [oi_lt0 (by omega) (by omega)] at c
      omega
    · conv => whnf
      refine ⟨fun c2 => ?_, fun c2 => ?_⟩
      · refine hJ _ _ _ _ ?_
        conv => whnf
        refine ⟨fun c3 => ?_, fun c3 => ?_⟩
        · refine hJ _ _ _ _ ?_
          conv => whnf
          refine ⟨(oi_in (by omega) (by omega)).mpr ⟨by omega, by omega⟩, ?_⟩
          conv => whnf
          refine hJ _ _ _ _ ?_
          conv => whnf
          refine s_m_gives hC ?_
          conv => whnf
          rw [oi_nat (by omega) (by omega), show z.toNat = j by omega, hm.c j (by omega)]
          exact h _ _ done2.1 done2.2
        · rw [oi_eq (by omega) (by omega) (by omega) (by omega)] at c3
          omega
      · rw [oi_le (by omega) (by omega) (by omega) (by omega)] at c2
        omega
  refine r_x_told hC (fun J hJ => ?_)
  refine hJ _ _ _ _ ?_
  conv => whnf
  rw [ti_oi z1 z2]
  refine ⟨?_, fun hout => ?_⟩
  · refine ⟨fun c => ?_, fun c => ?_, fun c => ?_, fun c => ?_, fun c => ?_, fun c => ?_, fun c => ?_, fun c => ?_, fun c => ?_, trivial⟩
    · rw [ti_oi z1 z2] at c
      refine hJ _ _ _ _ ?_
      conv => whnf
      rw [hnn]
      refine ⟨by omega, ?_⟩
      conv => whnf
      refine s_give hC ?_
      conv => whnf
      rw [q0]
      exact mod 0 (by omega) (by omega)
    · rw [ti_oi z1 z2] at c
      refine hJ _ _ _ _ ?_
      conv => whnf
      rw [hnn]
      refine ⟨by omega, ?_⟩
      conv => whnf
      refine s_give hC ?_
      conv => whnf
      rw [q1]
      exact mod 1 (by omega) (by omega)
    · rw [ti_oi z1 z2] at c
      refine hJ _ _ _ _ ?_
      conv => whnf
      rw [hnn]
      refine ⟨by omega, ?_⟩
      conv => whnf
      refine s_give hC ?_
      conv => whnf
      rw [q2]
      exact mod 2 (by omega) (by omega)
    · rw [ti_oi z1 z2] at c
      refine hJ _ _ _ _ ?_
      conv => whnf
      rw [hnn]
      refine ⟨by omega, ?_⟩
      conv => whnf
      refine s_give hC ?_
      conv => whnf
      rw [q3]
      exact mod 3 (by omega) (by omega)
    · rw [ti_oi z1 z2] at c
      refine hJ _ _ _ _ ?_
      conv => whnf
      rw [hnn]
      refine ⟨by omega, ?_⟩
      conv => whnf
      refine s_give hC ?_
      conv => whnf
      rw [q4]
      exact mod 4 (by omega) (by omega)
    · rw [ti_oi z1 z2] at c
      refine hJ _ _ _ _ ?_
      conv => whnf
      rw [hnn]
      refine ⟨by omega, ?_⟩
      conv => whnf
      refine s_give hC ?_
      conv => whnf
      rw [q5]
      exact mod 5 (by omega) (by omega)
    · rw [ti_oi z1 z2] at c
      refine hJ _ _ _ _ ?_
      conv => whnf
      rw [hnn]
      refine ⟨by omega, ?_⟩
      conv => whnf
      refine s_give hC ?_
      conv => whnf
      rw [q6]
      exact mod 6 (by omega) (by omega)
    · rw [ti_oi z1 z2] at c
      refine hJ _ _ _ _ ?_
      conv => whnf
      rw [hnn]
      refine ⟨by omega, ?_⟩
      conv => whnf
      refine s_give hC ?_
      conv => whnf
      rw [q7]
      exact mod 7 (by omega) (by omega)
    · rw [ti_oi z1 z2] at c
      refine hJ _ _ _ _ ?_
      conv => whnf
      rw [hnn]
      refine ⟨by omega, ?_⟩
      conv => whnf
      refine s_give hC ?_
      conv => whnf
      rw [qa]
      refine r_m_told hC (fun J hJ => ?_)
      refine hJ _ _ _ _ ?_
      conv => whnf
      refine ⟨fun c2 => ?_, fun c2 => ?_⟩
      · rw [oi_lt0 (by omega) (by omega)] at c2
        omega
      · conv => whnf
        refine ⟨fun c3 => ?_, fun c3 => ?_⟩
        · refine hJ _ _ _ _ ?_
          conv => whnf
          refine ⟨fun c4 => ?_, fun c4 => ?_⟩
          · rw [oi_eq (by omega) (by omega) (by omega) (by omega)] at c4
            omega
          · conv => whnf
            refine s_m_awake hC hm.c hw ?_
            conv => whnf
            refine hJ _ _ _ _ ?_
            conv => whnf
            refine s_m_gives hC ?_
            conv => whnf
            exact h _ _ done2.1 done2.2
        · rw [oi_le (by omega) (by omega) (by omega) (by omega)] at c3
          omega
  · refine hJ _ _ _ _ ?_
    conv => whnf
    refine s_none hC ?_
    conv => whnf
    refine r_m_told hC (fun J hJ => ?_)
    have bad : J 10 [.inr (.inr (46, 0)), .inl (Int32.ofInt z)] [] (wI σ 1 0 16 (Int32.ofInt 1)) := by
      refine hJ _ _ _ _ ?_
      conv => whnf
      refine s_m_refuse hC ?_
      conv => whnf
      exact h _ _ done2.1 done2.2
    refine hJ _ _ _ _ ?_
    conv => whnf
    refine ⟨fun c2 => ?_, fun c2 => ?_⟩
    · exact bad
    · rw [oi_lt0 (by omega) (by omega)] at c2
      conv => whnf
      refine ⟨fun c3 => ?_, fun c3 => ?_⟩
      · rw [oi_le (by omega) (by omega) (by omega) (by omega)] at c3
        omega
      · conv => whnf
        exact bad
