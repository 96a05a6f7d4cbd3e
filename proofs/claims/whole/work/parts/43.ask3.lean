theorem s_isAwake {CALL : CT} (hC : RuleAll CALL) {r : Nat} {σ : AM} {K : AV → AM → Prop} {n m : Nat} {h0 : Nat → Int} (hr : HRep σ n h0) (hw : WF h0) (hm : (m : Int) < h0 1) (h : K (.inl (bI (decide (h0 (27 + 7 * m) = 1)))) σ) : CALL (r + 2) n_Monks_isAwake [.inr (.inr (27, n)), .inl (Int32.ofInt m)] σ K := by
  refine r_Monks_isAwake hC (fun J hJ => ?_)
  refine hJ _ _ _ _ ?_
  conv => whnf
  have b := hw.1
  obtain ⟨-, -, -, -, -, -, -, -, -, -, ea, -⟩ := hr
  rw [ea]
  refine s_has hC (Nat.lt_trans (awS_lt h0) (by omega)) (by omega) ?_
  conv => whnf
  rw [awS_bit, show decide (m < 7 ∧ (m : Int) < h0 1 ∧ h0 (27 + 7 * m) = 1) = decide (h0 (27 + 7 * m) = 1) from decide_eq_decide.mpr ⟨fun z => z.2.2, fun z => ⟨by omega, hm, z⟩⟩]
  exact ⟨bI_01 _, h⟩
theorem op_monk {CALL : CT} (hC : RuleAll CALL) {r : Nat} {σ : AM} {K : AV → AV → AM → Prop} {n : Nat} {h0 : Nat → Int} (hn : NH σ n h0) {z y : Int} (z1 : -2147483648 ≤ z) (z2 : z < 2147483648) (y1 : -2147483648 ≤ y) (y2 : y < 2147483648) (h : ∀ v σ2, SC σ σ2 → σ2.1 1 0 16 = σ2.1 46 0 2 → K v v σ2) : CALL (r + 20) n_x_monk [.inr (.inr (1, 0)), .inl (Int32.ofInt z), .inl (Int32.ofInt y)] σ (fun v σ1 => CALL (r + 20) n_m_monk [.inr (.inr (46, 0)), .inl (Int32.ofInt z), .inl (Int32.ofInt y)] σ1 (fun v' σ2 => K v v' σ2)) := by
  obtain ⟨n45, hnn, hr, hm, ⟨hw, hw67⟩, h59⟩ := id hn
  have b := hw.1
  obtain ⟨q0, q1, q2, q3, q4, q5, q6, q7, q8, q9, qa, qt, qm, qe⟩ := id hr
  have bad : ¬ (0 ≤ z ∧ z < h0 1 ∧ 0 ≤ y ∧ y ≤ 6) → CALL (r + 20) n_m_monk [.inr (.inr (46, 0)), .inl (Int32.ofInt z), .inl (Int32.ofInt y)] (wI σ 1 0 16 (Int32.ofInt 1)) (fun v' σ2 => K (.inl (Int32.ofInt (-1))) v' σ2) := by
    intro hb
    refine r_m_monk hC (fun J hJ => ?_)
    have b18 : J 18 [.inr (.inr (46, 0)), .inl (Int32.ofInt z), .inl (Int32.ofInt y)] [] (wI σ 1 0 16 (Int32.ofInt 1)) := by
      refine hJ _ _ _ _ ?_
      conv => whnf
      refine s_m_refuse hC ?_
      conv => whnf
      exact h _ _ done2.1 done2.2
    refine hJ _ _ _ _ ?_
    conv => whnf
    refine s_m_isMonk hC hm.c hw (by omega) (by omega) ?_
    conv => whnf
    refine ⟨fun c => ?_, fun c => ?_⟩
    · exact b18
    · rw [bI_ne0, decide_eq_true_eq] at c
      conv => whnf
      refine ⟨fun c2 => ?_, fun c2 => ?_⟩
      · exact b18
      · rw [oi_lt0 (by omega) (by omega)] at c2
        conv => whnf
        refine ⟨fun c3 => ?_, fun c3 => ?_⟩
        · rw [oi_le (by omega) (by omega) (by omega) (by omega)] at c3
          omega
        · conv => whnf
          exact b18
  have good : ∀ (w : Nat) (A : Int), y = (w : Int) → w ≤ 6 → 0 ≤ z → z < h0 1 → A = h0 (24 + w + 7 * z.toNat) → CALL (r + 20) n_m_monk [.inr (.inr (46, 0)), .inl (Int32.ofInt z), .inl (Int32.ofInt y)] (wI σ 1 0 16 (Int32.ofInt 0)) (fun v' σ2 => K (.inl (Int32.ofInt A)) v' σ2) := by
    intro w A hy hw2 hz0 hz1 hA
    refine r_m_monk hC (fun J hJ => ?_)
    refine hJ _ _ _ _ ?_
    conv => whnf
    refine s_m_isMonk hC hm.c hw (by omega) (by omega) ?_
    conv => whnf
    refine ⟨fun c => ?_, fun c => ?_⟩
    · rw [bI_eq0, decide_eq_false_iff_not] at c
      omega
    · conv => whnf
      refine ⟨fun c2 => ?_, fun c2 => ?_⟩
      · rw [oi_lt0 (by omega) (by omega)] at c2
        omega
      · conv => whnf
        refine ⟨fun c3 => ?_, fun c3 => ?_⟩
        · refine hJ _ _ _ _ ?_
          conv => whnf
          rw [hy, show z = ((z.toNat : Nat) : Int) by omega]
          refine s_m_monkOf hC hm.c (by omega) (by omega) ?_
          conv => whnf
          refine s_m_gives hC ?_
          conv => whnf
          rw [show 24 + 7 * z.toNat + w = 24 + w + 7 * z.toNat by omega, ← hA]
          exact h _ _ done2.1 done2.2
        · rw [oi_le (by omega) (by omega) (by omega) (by omega)] at c3
          omega
  refine r_x_monk hC (fun J hJ => ?_)
  refine hJ _ _ _ _ ?_
  conv => whnf
  refine s_isMonk hC hn z1 z2 ?_
  conv => whnf
  refine ⟨fun c => ?_, fun c => ?_⟩
  · rw [bI_ne0, decide_eq_true_eq] at c
    have htw := hw.2.2.1 z.toNat (by omega)
    have hqm := qm z.toNat (by omega)
    refine hJ _ _ _ _ ?_
    conv => whnf
    refine ⟨⟨fun c2 => ?_, fun c2 => ?_, fun c2 => ?_, fun c2 => ?_, fun c2 => ?_, fun c2 => ?_, fun c2 => ?_, trivial⟩, fun hout => ?_⟩
    · rw [ti_oi y1 y2] at c2
      refine hJ _ _ _ _ ?_
      conv => whnf
      rw [hnn]
      refine ⟨by omega, ?_⟩
      conv => whnf
      refine ⟨(oi_in (by omega) (by omega)).mpr ⟨by omega, by omega⟩, ?_⟩
      conv => whnf
      refine s_give hC ?_
      conv => whnf
      rw [oi_nat (by omega) (by omega), hqm.1]
      exact good 0 _ (by omega) (by omega) (by omega) (by omega) rfl
    · rw [ti_oi y1 y2] at c2
      refine hJ _ _ _ _ ?_
      conv => whnf
      rw [hnn]
      refine ⟨by omega, ?_⟩
      conv => whnf
      refine ⟨(oi_in (by omega) (by omega)).mpr ⟨by omega, by omega⟩, ?_⟩
      conv => whnf
      refine s_give hC ?_
      conv => whnf
      rw [oi_nat (by omega) (by omega), hqm.2.1]
      exact good 1 _ (by omega) (by omega) (by omega) (by omega) rfl
    · rw [ti_oi y1 y2] at c2
      refine hJ _ _ _ _ ?_
      conv => whnf
      rw [hnn]
      refine ⟨by omega, ?_⟩
      conv => whnf
      refine ⟨(oi_in (by omega) (by omega)).mpr ⟨by omega, by omega⟩, ?_⟩
      conv => whnf
      refine s_give hC ?_
      conv => whnf
      rw [oi_nat (by omega) (by omega), hqm.2.2.1]
      exact good 2 _ (by omega) (by omega) (by omega) (by omega) rfl
    · rw [ti_oi y1 y2] at c2
      refine hJ _ _ _ _ ?_
      conv => whnf
      rw [hnn]
      refine ⟨by omega, ?_⟩
      conv => whnf
      have hzn : z = ((z.toNat : Nat) : Int) := by omega
      rw [show Int32.ofInt z = Int32.ofInt ((z.toNat : Nat) : Int) by rw [← hzn]]
      refine s_isAwake hC hr hw (by omega) ?_
      conv => whnf
      refine s_truth hC ?_
      conv => whnf
      refine s_give hC ?_
      conv => whnf
      rw [← hzn]
      have e : bI (decide (h0 (27 + 7 * z.toNat) = 1)) = Int32.ofInt (h0 (27 + 7 * z.toNat)) := by
        by_cases q : h0 (27 + 7 * z.toNat) = 1
        · rw [decide_eq_true q, q]; rfl
        · rw [decide_eq_false q, show h0 (27 + 7 * z.toNat) = 0 by omega]; rfl
      rw [e]
      exact good 3 _ (by omega) (by omega) (by omega) (by omega) rfl
    · rw [ti_oi y1 y2] at c2
      refine hJ _ _ _ _ ?_
      conv => whnf
      rw [hnn]
      refine ⟨by omega, ?_⟩
      conv => whnf
      refine ⟨(oi_in (by omega) (by omega)).mpr ⟨by omega, by omega⟩, ?_⟩
      conv => whnf
      refine s_give hC ?_
      conv => whnf
      rw [oi_nat (by omega) (by omega), hqm.2.2.2.1]
      exact good 4 _ (by omega) (by omega) (by omega) (by omega) rfl
    · rw [ti_oi y1 y2] at c2
      refine hJ _ _ _ _ ?_
      conv => whnf
      rw [hnn]
      refine ⟨by omega, ?_⟩
      conv => whnf
      refine ⟨(oi_in (by omega) (by omega)).mpr ⟨by omega, by omega⟩, ?_⟩
      conv => whnf
      refine s_give hC ?_
      conv => whnf
      rw [oi_nat (by omega) (by omega), hqm.2.2.2.2.1]
      exact good 5 _ (by omega) (by omega) (by omega) (by omega) rfl
    · rw [ti_oi y1 y2] at c2
      refine hJ _ _ _ _ ?_
      conv => whnf
      rw [hnn]
      refine ⟨by omega, ?_⟩
      conv => whnf
      refine ⟨(oi_in (by omega) (by omega)).mpr ⟨by omega, by omega⟩, ?_⟩
      conv => whnf
      refine s_give hC ?_
      conv => whnf
      rw [oi_nat (by omega) (by omega), hqm.2.2.2.2.2]
      exact good 6 _ (by omega) (by omega) (by omega) (by omega) rfl
    · rw [ti_oi y1 y2] at hout
      refine hJ _ _ _ _ ?_
      conv => whnf
      refine s_none hC ?_
      conv => whnf
      exact bad (by omega)
  · rw [bI_eq0, decide_eq_false_iff_not] at c
    conv => whnf
    refine s_none hC ?_
    conv => whnf
    exact bad (by omega)
theorem s_m_isEntry {CALL : CT} (hC : RuleAll CALL) {r : Nat} {σ : AM} {K : AV → AM → Prop} {h0 : Nat → Int} {z : Int} (hm : M0 σ h0) (hw : WF h0) (h1 : -2147483648 ≤ z) (h2 : z < 2147483648) (h : K (.inl (bI (decide (0 ≤ z ∧ z < h0 2)))) σ) : CALL (r + 1) n_m_isEntry [.inr (.inr (46, 0)), .inl (Int32.ofInt z)] σ K := by
  refine r_m_isEntry hC (fun J hJ => ?_)
  refine hJ _ _ _ _ ?_
  conv => whnf
  have b := hw.1
  refine ⟨fun c => ?_, fun c => ?_⟩
  · rw [oi_lt0 (by omega) (by omega)] at c
    refine hJ _ _ _ _ ?_
    conv => whnf
    refine hJ _ _ _ _ ?_
    conv => whnf
    rw [show decide (0 ≤ z ∧ z < h0 2) = false from decide_eq_false (by omega)] at h
    exact ⟨Or.inl rfl, h⟩
  · rw [oi_lt0 (by omega) (by omega)] at c
    conv => whnf
    refine ⟨(oi_in (by omega) (by omega)).mpr ⟨by omega, by omega⟩, ?_⟩
    conv => whnf
    rw [show (Int32.ofInt 2).toNatClampNeg = 2 from rfl, hm 2 (by omega)]
    refine ⟨fun c2 => ?_, fun c2 => ?_⟩
    · rw [oi_le (by omega) (by omega) (by omega) (by omega)] at c2
      refine hJ _ _ _ _ ?_
      conv => whnf
      refine hJ _ _ _ _ ?_
      conv => whnf
      rw [show decide (0 ≤ z ∧ z < h0 2) = false from decide_eq_false (by omega)] at h
      exact ⟨Or.inl rfl, h⟩
    · rw [oi_le (by omega) (by omega) (by omega) (by omega)] at c2
      conv => whnf
      refine hJ _ _ _ _ ?_
      conv => whnf
      rw [show decide (0 ≤ z ∧ z < h0 2) = true from decide_eq_true (by omega)] at h
      exact ⟨Or.inr rfl, h⟩
theorem op_entry {CALL : CT} (hC : RuleAll CALL) {r : Nat} {σ : AM} {K : AV → AV → AM → Prop} {n : Nat} {h0 : Nat → Int} (hn : NH σ n h0) {z y : Int} (z1 : -2147483648 ≤ z) (z2 : z < 2147483648) (y1 : -2147483648 ≤ y) (y2 : y < 2147483648) (h : ∀ v σ2, SC σ σ2 → σ2.1 1 0 16 = σ2.1 46 0 2 → K v v σ2) : CALL (r + 20) n_x_entry [.inr (.inr (1, 0)), .inl (Int32.ofInt z), .inl (Int32.ofInt y)] σ (fun v σ1 => CALL (r + 20) n_m_entry [.inr (.inr (46, 0)), .inl (Int32.ofInt z), .inl (Int32.ofInt y)] σ1 (fun v' σ2 => K v v' σ2)) := by
  obtain ⟨n45, hnn, hr, hm, ⟨hw, hw67⟩, h59⟩ := id hn
  have b := hw.1
  obtain ⟨q0, q1, q2, q3, q4, q5, q6, q7, q8, q9, qa, qt, qm, qe⟩ := id hr
  have bad : ¬ (0 ≤ z ∧ z < h0 2 ∧ 0 ≤ y ∧ y ≤ 1) → CALL (r + 20) n_m_entry [.inr (.inr (46, 0)), .inl (Int32.ofInt z), .inl (Int32.ofInt y)] (wI σ 1 0 16 (Int32.ofInt 1)) (fun v' σ2 => K (.inl (Int32.ofInt (-1))) v' σ2) := by
    intro hb
    refine r_m_entry hC (fun J hJ => ?_)
    have b17 : J 17 [.inr (.inr (46, 0)), .inl (Int32.ofInt z), .inl (Int32.ofInt y)] [] (wI σ 1 0 16 (Int32.ofInt 1)) := by
      refine hJ _ _ _ _ ?_
      conv => whnf
      refine s_m_refuse hC ?_
      conv => whnf
      exact h _ _ done2.1 done2.2
    refine hJ _ _ _ _ ?_
    conv => whnf
    refine s_m_isEntry hC hm.c hw (by omega) (by omega) ?_
    conv => whnf
    refine ⟨fun c => ?_, fun c => ?_⟩
    · exact b17
    · rw [bI_ne0, decide_eq_true_eq] at c
      conv => whnf
      refine ⟨fun c2 => ?_, fun c2 => ?_⟩
      · exact b17
      · rw [oi_lt0 (by omega) (by omega)] at c2
        conv => whnf
        refine ⟨fun c3 => ?_, fun c3 => ?_⟩
        · rw [oi_le (by omega) (by omega) (by omega) (by omega)] at c3
          omega
        · conv => whnf
          exact b17
  have good : ∀ (w : Nat) (A : Int), y = (w : Int) → w ≤ 1 → 0 ≤ z → z < h0 2 → A = h0 (73 + w + 2 * z.toNat) → CALL (r + 20) n_m_entry [.inr (.inr (46, 0)), .inl (Int32.ofInt z), .inl (Int32.ofInt y)] (wI σ 1 0 16 (Int32.ofInt 0)) (fun v' σ2 => K (.inl (Int32.ofInt A)) v' σ2) := by
    intro w A hy hw2 hz0 hz1 hA
    refine r_m_entry hC (fun J hJ => ?_)
    refine hJ _ _ _ _ ?_
    conv => whnf
    refine s_m_isEntry hC hm.c hw (by omega) (by omega) ?_
    conv => whnf
    refine ⟨fun c => ?_, fun c => ?_⟩
    · rw [bI_eq0, decide_eq_false_iff_not] at c
      omega
    · conv => whnf
      refine ⟨fun c2 => ?_, fun c2 => ?_⟩
      · rw [oi_lt0 (by omega) (by omega)] at c2
        omega
      · conv => whnf
        refine ⟨fun c3 => ?_, fun c3 => ?_⟩
        · refine hJ _ _ _ _ ?_
          conv => whnf
          refine s_m_entryRow hC ?_
          conv => whnf
          rw [oi_add]
          refine ⟨(oi_in (by omega) (by omega)).mpr ⟨by omega, by omega⟩, ?_⟩
          conv => whnf
          refine s_m_gives hC ?_
          conv => whnf
          rw [oi_nat (by omega) (by omega), show (73 + 2 * z + y).toNat = 73 + w + 2 * z.toNat by omega, hm.c _ (by omega), ← hA]
          exact h _ _ done2.1 done2.2
        · rw [oi_le (by omega) (by omega) (by omega) (by omega)] at c3
          omega
  refine r_x_entry hC (fun J hJ => ?_)
  have c26 : ¬ (0 ≤ z ∧ z < h0 2 ∧ 0 ≤ y ∧ y ≤ 1) → J 26 [.inr (.inr (1, 0)), .inl (Int32.ofInt z), .inl (Int32.ofInt y)] [] σ := by
    intro hb
    refine hJ _ _ _ _ ?_
    conv => whnf
    refine s_none hC ?_
    conv => whnf
    exact bad hb
  refine hJ _ _ _ _ ?_
  conv => whnf
  rw [hnn]
  refine ⟨by omega, ?_⟩
  conv => whnf
  rw [q2, oi_sub]
  refine s_withinI hC (by omega) (by omega) (by omega) (by omega) (by omega) (by omega) ?_
  conv => whnf
  refine ⟨fun c => ?_, fun c => ?_⟩
  · rw [bI_eq0, decide_eq_false_iff_not] at c
    exact c26 (by omega)
  · rw [bI_ne0, decide_eq_true_eq] at c
    conv => whnf
    refine s_withinI hC (by omega) (by omega) (by omega) (by omega) (by omega) (by omega) ?_
    conv => whnf
    refine ⟨fun c2 => ?_, fun c2 => ?_⟩
    · rw [bI_ne0, decide_eq_true_eq] at c2
      have hqe := qe z.toNat (by omega)
      have hwe := hw.2.2.2 z.toNat (by omega)
      refine hJ _ _ _ _ ?_
      conv => whnf
      refine ⟨fun c3 => ?_, fun c3 => ?_⟩
      · rw [oi_eq0 (by omega) (by omega)] at c3
        refine hJ _ _ _ _ ?_
        conv => whnf
        rw [hnn]
        refine ⟨by omega, ?_⟩
        conv => whnf
        refine ⟨(oi_in (by omega) (by omega)).mpr ⟨by omega, by omega⟩, ?_⟩
        conv => whnf
        refine hJ _ _ _ _ ?_
        conv => whnf
        refine s_give hC ?_
        conv => whnf
        rw [oi_nat (by omega) (by omega), hqe.2]
        exact good 1 _ (by omega) (by omega) (by omega) (by omega) rfl
      · rw [oi_eq0 (by omega) (by omega)] at c3
        conv => whnf
        rw [hnn]
        refine ⟨by omega, ?_⟩
        conv => whnf
        refine ⟨(oi_in (by omega) (by omega)).mpr ⟨by omega, by omega⟩, ?_⟩
        conv => whnf
        refine hJ _ _ _ _ ?_
        conv => whnf
        refine s_give hC ?_
        conv => whnf
        rw [oi_nat (by omega) (by omega), hqe.1]
        exact good 0 _ (by omega) (by omega) (by omega) (by omega) rfl
    · rw [bI_eq0, decide_eq_false_iff_not] at c2
      conv => whnf
      exact c26 (by omega)
theorem op_silent {CALL : CT} (hC : RuleAll CALL) {r : Nat} {σ : AM} {K : AV → AV → AM → Prop} {n : Nat} {h0 : Nat → Int} (hn : NH σ n h0) (h : ∀ v σ2, SC σ σ2 → σ2.1 1 0 16 = σ2.1 46 0 2 → K v v σ2) : CALL (r + 20) n_x_silent [.inr (.inr (1, 0))] σ (fun v σ1 => CALL (r + 20) n_m_silent [.inr (.inr (46, 0))] σ1 (fun v' σ2 => K v v' σ2)) := by
  obtain ⟨n45, hnn, hr, hm, ⟨hw, hw67⟩, h59⟩ := id hn
  have b := hw.1
  obtain ⟨q0, q1, q2, q3, q4, q5, q6, q7, q8, q9, qa, qt, qm, qe⟩ := id hr
  refine r_x_silent hC (fun J hJ => ?_)
  refine hJ _ _ _ _ ?_
  conv => whnf
  rw [hnn]
  refine ⟨by omega, ?_⟩
  conv => whnf
  rw [q1]
  refine ⟨fun c => ?_, fun c => ?_⟩
  · rw [oi_eq0 (by omega) (by omega)] at c
    refine hJ _ _ _ _ ?_
    conv => whnf
    rw [hnn]
    refine ⟨by omega, ?_⟩
    conv => whnf
    refine s_give hC ?_
    conv => whnf
    refine hJ _ _ _ _ ?_
    conv => whnf
    rw [q8]
    refine r_m_silent hC (fun J hJ => ?_)
    refine hJ _ _ _ _ ?_
    conv => whnf
    refine ⟨(oi_in (by omega) (by omega)).mpr ⟨by omega, by omega⟩, ?_⟩
    conv => whnf
    rw [show (Int32.ofInt 1).toNatClampNeg = 1 from rfl, hm.c 1 (by omega)]
    refine ⟨fun c2 => ?_, fun c2 => ?_⟩
    · refine hJ _ _ _ _ ?_
      conv => whnf
      refine ⟨(oi_in (by omega) (by omega)).mpr ⟨by omega, by omega⟩, ?_⟩
      conv => whnf
      refine s_m_gives hC ?_
      conv => whnf
      refine hJ _ _ _ _ ?_
      conv => whnf
      rw [show (Int32.ofInt 8).toNatClampNeg = 8 from rfl, hm.c 8 (by omega)]
      exact h _ _ done2.1 done2.2
    · rw [oi_eq0 (by omega) (by omega)] at c2
      omega
  · rw [oi_eq0 (by omega) (by omega)] at c
    conv => whnf
    refine s_none hC ?_
    conv => whnf
    refine hJ _ _ _ _ ?_
    conv => whnf
    refine r_m_silent hC (fun J hJ => ?_)
    refine hJ _ _ _ _ ?_
    conv => whnf
    refine ⟨(oi_in (by omega) (by omega)).mpr ⟨by omega, by omega⟩, ?_⟩
    conv => whnf
    rw [show (Int32.ofInt 1).toNatClampNeg = 1 from rfl, hm.c 1 (by omega)]
    refine ⟨fun c2 => ?_, fun c2 => ?_⟩
    · rw [oi_eq0 (by omega) (by omega)] at c2
      omega
    · conv => whnf
      refine s_m_refuse hC ?_
      conv => whnf
      refine hJ _ _ _ _ ?_
      conv => whnf
      exact h _ _ done2.1 done2.2
theorem op_last {CALL : CT} (hC : RuleAll CALL) {r : Nat} {σ : AM} {K : AV → AV → AM → Prop} {n : Nat} {h0 : Nat → Int} (hn : NH σ n h0) (h : ∀ v σ2, SC σ σ2 → σ2.1 1 0 16 = σ2.1 46 0 2 → K v v σ2) : CALL (r + 20) n_x_last [.inr (.inr (1, 0))] σ (fun v σ1 => CALL (r + 20) n_m_last [.inr (.inr (46, 0))] σ1 (fun v' σ2 => K v v' σ2)) := by
  obtain ⟨n45, hnn, hr, hm, ⟨hw, hw67⟩, h59⟩ := id hn
  have b := hw.1
  obtain ⟨q0, q1, q2, q3, q4, q5, q6, q7, q8, q9, qa, qt, qm, qe⟩ := id hr
  refine r_x_last hC (fun J hJ => ?_)
  refine hJ _ _ _ _ ?_
  conv => whnf
  rw [hnn]
  refine ⟨by omega, ?_⟩
  conv => whnf
  rw [q9]
  refine s_giveOrNone hC (by omega) (by omega) ?_
  conv => whnf
  refine r_m_last hC (fun J hJ => ?_)
  refine hJ _ _ _ _ ?_
  conv => whnf
  refine ⟨(oi_in (by omega) (by omega)).mpr ⟨by omega, by omega⟩, ?_⟩
  conv => whnf
  rw [show (Int32.ofInt 9).toNatClampNeg = 9 from rfl, hm.c 9 (by omega)]
  refine s_m_orNone hC (by omega) (by omega) ?_
  conv => whnf
  exact h _ _ done2.1 done2.2
theorem op_can {CALL : CT} (hC : RuleAll CALL) {r : Nat} {σ : AM} {K : AV → AV → AM → Prop} {n : Nat} {h0 : Nat → Int} (hn : NH σ n h0) {z y : Int} (z1 : -2147483648 ≤ z) (z2 : z < 2147483648) (y1 : -2147483648 ≤ y) (y2 : y < 2147483648) (h : ∀ v σ2, SC σ σ2 → σ2.1 1 0 16 = σ2.1 46 0 2 → K v v σ2) : CALL (r + 20) n_x_can [.inr (.inr (1, 0)), .inl (Int32.ofInt z), .inl (Int32.ofInt y)] σ (fun v σ1 => CALL (r + 20) n_m_can [.inr (.inr (46, 0)), .inl (Int32.ofInt z), .inl (Int32.ofInt y)] σ1 (fun v' σ2 => K v v' σ2)) := by
  obtain ⟨n45, hnn, hr, hm, ⟨hw, hw67⟩, h59⟩ := id hn
  have b := hw.1
  obtain ⟨q0, q1, q2, q3, q4, q5, q6, q7, q8, q9, qa, qt, qm, qe⟩ := id hr
  have bad : ¬ (0 ≤ z ∧ z < h0 1 ∧ 0 ≤ y ∧ y < h0 0) → CALL (r + 20) n_m_can [.inr (.inr (46, 0)), .inl (Int32.ofInt z), .inl (Int32.ofInt y)] (wI σ 1 0 16 (Int32.ofInt 1)) (fun v' σ2 => K (.inl (Int32.ofInt (-1))) v' σ2) := by
    intro hb
    refine r_m_can hC (fun J hJ => ?_)
    have b38 : J 38 [.inr (.inr (46, 0)), .inl (Int32.ofInt z), .inl (Int32.ofInt y)] [] (wI σ 1 0 16 (Int32.ofInt 1)) := by
      refine hJ _ _ _ _ ?_
      conv => whnf
      refine s_m_refuse hC ?_
      conv => whnf
      refine hJ _ _ _ _ ?_
      conv => whnf
      exact h _ _ done2.1 done2.2
    refine hJ _ _ _ _ ?_
    conv => whnf
    refine s_m_isMonk hC hm.c hw (by omega) (by omega) ?_
    conv => whnf
    refine ⟨fun c => ?_, fun c => ?_⟩
    · exact b38
    · rw [bI_ne0, decide_eq_true_eq] at c
      conv => whnf
      rw [oi_l (by omega) (by omega)]
      refine s_m_isTopic hC hm.c hw (by omega) (by omega) ?_
      conv => whnf
      refine ⟨fun c2 => ?_, fun c2 => ?_⟩
      · exact b38
      · rw [bI_ne0, decide_eq_true_eq] at c2
        omega
  refine r_x_can hC (fun J hJ => ?_)
  have c16 : ¬ (0 ≤ z ∧ z < h0 1 ∧ 0 ≤ y ∧ y < h0 0) → J 16 [.inr (.inr (1, 0)), .inl (Int32.ofInt z), .inl (Int32.ofInt y)] [] σ := by
    intro hb
    refine hJ _ _ _ _ ?_
    conv => whnf
    refine s_none hC ?_
    conv => whnf
    exact bad hb
  refine hJ _ _ _ _ ?_
  conv => whnf
  refine s_isMonk hC hn z1 z2 ?_
  conv => whnf
  refine ⟨fun c => ?_, fun c => ?_⟩
  · rw [bI_eq0, decide_eq_false_iff_not] at c
    exact c16 (by omega)
  · rw [bI_ne0, decide_eq_true_eq] at c
    conv => whnf
    refine s_isTopic hC hn y1 y2 ?_
    conv => whnf
    refine ⟨fun c2 => ?_, fun c2 => ?_⟩
    · rw [bI_ne0, decide_eq_true_eq] at c2
      refine hJ _ _ _ _ ?_
      conv => whnf
      rw [hnn]
      refine ⟨by omega, ?_⟩
      conv => whnf
      obtain ⟨m, rfl⟩ : ∃ m : Nat, z = (m : Int) := ⟨z.toNat, by omega⟩
      obtain ⟨t, rfl⟩ : ∃ t : Nat, y = (t : Int) := ⟨y.toNat, by omega⟩
      refine s_canSay hC hr hw c.2 c2.2 ?_
      conv => whnf
      refine s_truth hC ?_
      conv => whnf
      refine s_give hC ?_
      conv => whnf
      refine r_m_can hC (fun J hJ => ?_)
      refine hJ _ _ _ _ ?_
      conv => whnf
      refine s_m_isMonk hC hm.c hw (by omega) (by omega) ?_
      conv => whnf
      refine ⟨fun c3 => ?_, fun c3 => ?_⟩
      · rw [bI_eq0, decide_eq_false_iff_not] at c3
        omega
      · conv => whnf
        rw [oi_l (by omega) (by omega)]
        refine s_m_isTopic hC hm.c hw (by omega) (by omega) ?_
        conv => whnf
        refine ⟨fun c4 => ?_, fun c4 => ?_⟩
        · rw [bI_eq0, decide_eq_false_iff_not] at c4
          omega
        · conv => whnf
          refine s_m_canSay hC hm.c hw c.2 c2.2 ?_
          conv => whnf
          refine ⟨fun c5 => ?_, fun c5 => ?_⟩
          · rw [bI_eq0] at c5
            refine hJ _ _ _ _ ?_
            conv => whnf
            refine hJ _ _ _ _ ?_
            conv => whnf
            refine s_m_gives hC ?_
            conv => whnf
            refine hJ _ _ _ _ ?_
            conv => whnf
            rw [c5]
            exact h _ _ done2.1 done2.2
          · rw [bI_ne0] at c5
            conv => whnf
            refine hJ _ _ _ _ ?_
            conv => whnf
            refine s_m_gives hC ?_
            conv => whnf
            refine hJ _ _ _ _ ?_
            conv => whnf
            rw [c5]
            exact h _ _ done2.1 done2.2
    · rw [bI_eq0, decide_eq_false_iff_not] at c2
      conv => whnf
      exact c16 (by omega)
