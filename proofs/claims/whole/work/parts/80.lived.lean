theorem op_lived {CALL : CT} (hC : RuleAll CALL) {r : Nat} {σ : AM} {K : AV → AV → AM → Prop} (hR : Rel σ) {z : Int} (z1 : -2147483648 ≤ z) (z2 : z < 2147483648) (h : ∀ v σ2, Rel σ2 → K v v σ2) : CALL (r + 20) n_x_lived [.inr (.inr (1, 0)), .inl (Int32.ofInt z)] σ (fun v σ1 => CALL (r + 20) n_m_lived [.inr (.inr (46, 0)), .inl (Int32.ofInt z)] σ1 (fun v' σ2 => K v v' σ2)) := by
  obtain ⟨⟨n, p, h0, ha⟩, hb, hst⟩ := id hR
  have hn := ha.nh
  obtain ⟨n45, hnn, hr, hm, ⟨hw, hw67⟩, h59⟩ := id hn
  have b := hw.1
  have hsy : SymE h0 := ha.2.2.2.2.2.2.2.2.2.2.1
  obtain ⟨q0, q1, q2, q3, q4, q5, q6, q7, q8, q9, qa, qt, qm, qe⟩ := id hr
  have hl := hb.2.2.2.2.1
  have mod : ∀ (x : Int32) (K' : AV → AM → Prop), (¬ (0 ≤ z ∧ z ≤ 4) → K' (.inl (Int32.ofInt (-1))) (wI (wI σ 1 0 16 x) 46 0 2 (Int32.ofInt 1))) → ((0 ≤ z ∧ z ≤ 4) → σ.1 46 0 45 = Int32.ofInt 0 → K' (.inl (Int32.ofInt (-1))) (wI (wI σ 1 0 16 x) 46 0 2 (Int32.ofInt 6))) → ((0 ≤ z ∧ z ≤ 4) → σ.1 46 0 45 = Int32.ofInt 1 → K' (.inl (σ.1 66 0 z.toNat)) (wI (wI σ 1 0 16 x) 46 0 2 (Int32.ofInt 0))) → CALL (r + 20) n_m_lived [.inr (.inr (46, 0)), .inl (Int32.ofInt z)] (wI σ 1 0 16 x) K' := by
    intro x K' k1 k2 k3
    have e45 : (wI σ 1 0 16 x).1 46 0 45 = σ.1 46 0 45 := by rw [wI1, if_neg (by omega)]
    refine r_m_lived hC (fun J hJ => ?_)
    have fin : ¬ (0 ≤ z ∧ z ≤ 4) → J 9 [.inr (.inr (46, 0)), .inl (Int32.ofInt z)] [] (wI σ 1 0 16 x) := by
      intro q
      refine hJ _ _ _ _ ?_
      conv => whnf
      refine s_m_refuse hC ?_
      conv => whnf
      refine hJ _ _ _ _ ?_
      conv => whnf
      exact k1 q
    refine hJ _ _ _ _ ?_
    conv => whnf
    refine ⟨fun c => ?_, fun c => ?_⟩ <;> (try simp (disch := omega) only [oi_le, oi_lt, oi_eq, oi_lt0, oi_le0, oi_0lt, oi_0le, oi_eq0, oi_eq1, bI_eq0, bI_ne0, bI_eq1, decide_eq_true_eq, decide_eq_false_iff_not, lc_lt, lc_gt, lc_eq, lc_ge, lc_le, ol_lt, ol_eq, ne_eq, Int.not_lt, Int.not_le, Bool.not_eq_true, Bool.not_eq_false, Decidable.not_not, not_true_eq_false, not_false_eq_true, Bool.true_eq_false, Bool.false_eq_true] at c) <;> (first | (exfalso; omega) | ((fail_if_success with_reducible refine hJ _ _ _ _ ?_); conv => whnf) | skip)
    · exact fin (by omega)
    · refine ⟨fun c2 => ?_, fun c2 => ?_⟩ <;> (try simp (disch := omega) only [oi_le, oi_lt, oi_eq, oi_lt0, oi_le0, oi_0lt, oi_0le, oi_eq0, oi_eq1, bI_eq0, bI_ne0, bI_eq1, decide_eq_true_eq, decide_eq_false_iff_not, lc_lt, lc_gt, lc_eq, lc_ge, lc_le, ol_lt, ol_eq, ne_eq, Int.not_lt, Int.not_le, Bool.not_eq_true, Bool.not_eq_false, Decidable.not_not, not_true_eq_false, not_false_eq_true, Bool.true_eq_false, Bool.false_eq_true] at c2) <;> (first | (exfalso; omega) | ((fail_if_success with_reducible refine hJ _ _ _ _ ?_); conv => whnf) | skip)
      · refine hJ _ _ _ _ ?_
        conv => whnf
        rw [e45]
        have hl2 : σ.1 46 0 45 = Int32.ofInt 0 ∨ σ.1 46 0 45 = Int32.ofInt 1 := by
          rcases hl with hl | hl
          · exact Or.inl hl.2
          · exact Or.inr hl.2.1
        rcases hl2 with hl2 | hl2
        · rw [hl2]
          refine ⟨fun c3 => ?_, fun c3 => ?_⟩ <;> (try simp (disch := omega) only [oi_le, oi_lt, oi_eq, oi_lt0, oi_le0, oi_0lt, oi_0le, oi_eq0, oi_eq1, bI_eq0, bI_ne0, bI_eq1, decide_eq_true_eq, decide_eq_false_iff_not, lc_lt, lc_gt, lc_eq, lc_ge, lc_le, ol_lt, ol_eq, ne_eq, Int.not_lt, Int.not_le, Bool.not_eq_true, Bool.not_eq_false, Decidable.not_not, not_true_eq_false, not_false_eq_true, Bool.true_eq_false, Bool.false_eq_true] at c3) <;> (first | (exfalso; omega) | ((with_reducible refine hJ _ _ _ _ ?_); conv => whnf) | (conv => whnf))
          refine s_m_refuse hC ?_
          conv => whnf
          refine hJ _ _ _ _ ?_
          conv => whnf
          exact k2 (by omega) hl2
        · rw [hl2]
          refine ⟨fun c3 => ?_, fun c3 => ?_⟩ <;> (try simp (disch := omega) only [oi_le, oi_lt, oi_eq, oi_lt0, oi_le0, oi_0lt, oi_0le, oi_eq0, oi_eq1, bI_eq0, bI_ne0, bI_eq1, decide_eq_true_eq, decide_eq_false_iff_not, lc_lt, lc_gt, lc_eq, lc_ge, lc_le, ol_lt, ol_eq, ne_eq, Int.not_lt, Int.not_le, Bool.not_eq_true, Bool.not_eq_false, Decidable.not_not, not_true_eq_false, not_false_eq_true, Bool.true_eq_false, Bool.false_eq_true] at c3) <;> (first | (exfalso; omega) | ((with_reducible refine hJ _ _ _ _ ?_); conv => whnf) | (conv => whnf))
          refine ⟨(oi_in (by omega) (by omega)).mpr ⟨by omega, by omega⟩, ?_⟩
          conv => whnf
          rw [oi_nat (by omega) (by omega), show (wI σ 1 0 16 x).1 66 0 z.toNat = σ.1 66 0 z.toNat by rw [wI1, if_neg (by omega)]]
          refine s_m_gives hC ?_
          conv => whnf
          refine hJ _ _ _ _ ?_
          conv => whnf
          exact k3 (by omega) hl2
      · exact fin (by omega)
  refine r_x_lived hC (fun J hJ => ?_)
  refine hJ _ _ _ _ ?_
  conv => whnf
  refine s_withinI hC (by omega) (by omega) (by omega) (by omega) (by omega) (by omega) ?_
  conv => whnf
  refine ⟨fun c => ?_, fun c => ?_⟩ <;> (try simp (disch := omega) only [oi_le, oi_lt, oi_eq, oi_lt0, oi_le0, oi_0lt, oi_0le, oi_eq0, oi_eq1, bI_eq0, bI_ne0, bI_eq1, decide_eq_true_eq, decide_eq_false_iff_not, lc_lt, lc_gt, lc_eq, lc_ge, lc_le, ol_lt, ol_eq, ne_eq, Int.not_lt, Int.not_le, Bool.not_eq_true, Bool.not_eq_false, Decidable.not_not, not_true_eq_false, not_false_eq_true, Bool.true_eq_false, Bool.false_eq_true] at c) <;> (first | (exfalso; omega) | ((with_reducible refine hJ _ _ _ _ ?_); conv => whnf) | (conv => whnf))
  · rcases hl with ⟨l1, l2⟩ | ⟨l1, l2, l3, l4, l5, l6, bb, l7, l8⟩
    · rw [l1]
      refine ⟨fun c2 => ?_, fun c2 => ?_⟩ <;> (try simp (disch := omega) only [oi_le, oi_lt, oi_eq, oi_lt0, oi_le0, oi_0lt, oi_0le, oi_eq0, oi_eq1, bI_eq0, bI_ne0, bI_eq1, decide_eq_true_eq, decide_eq_false_iff_not, lc_lt, lc_gt, lc_eq, lc_ge, lc_le, ol_lt, ol_eq, ne_eq, Int.not_lt, Int.not_le, Bool.not_eq_true, Bool.not_eq_false, Decidable.not_not, not_true_eq_false, not_false_eq_true, Bool.true_eq_false, Bool.false_eq_true] at c2) <;> (first | (exfalso; omega) | ((with_reducible refine hJ _ _ _ _ ?_); conv => whnf) | (conv => whnf))
      refine s_none hC ?_
      conv => whnf
      refine mod _ _ (fun q => absurd c q) (fun _ _ => ?_) (fun _ q => absurd (l2.symm.trans q) (by decide))
      exact h _ _ (hR.sc done2.1 done2.2)
    · rw [l1]
      refine ⟨fun c2 => ?_, fun c2 => ?_⟩ <;> (try simp (disch := omega) only [oi_le, oi_lt, oi_eq, oi_lt0, oi_le0, oi_0lt, oi_0le, oi_eq0, oi_eq1, bI_eq0, bI_ne0, bI_eq1, decide_eq_true_eq, decide_eq_false_iff_not, lc_lt, lc_gt, lc_eq, lc_ge, lc_le, ol_lt, ol_eq, ne_eq, Int.not_lt, Int.not_le, Bool.not_eq_true, Bool.not_eq_false, Decidable.not_not, not_true_eq_false, not_false_eq_true, Bool.true_eq_false, Bool.false_eq_true] at c2) <;> (first | (exfalso; omega) | ((with_reducible refine hJ _ _ _ _ ?_); conv => whnf) | (conv => whnf))
      have e := ti_oi z1 z2
      have fin : ∀ x : Int32, x = σ.1 66 0 z.toNat → K (.inl x) (.inl (σ.1 66 0 z.toNat)) (wI (wI σ 1 0 16 (Int32.ofInt 0)) 46 0 2 (Int32.ofInt 0)) := by
        intro x hx
        rw [hx]
        exact h _ _ (hR.sc done2.1 done2.2)
      refine ⟨⟨fun q => ?_, fun q => ?_, fun q => ?_, fun q => ?_, trivial⟩, fun q => ?_⟩
      all_goals rw [e] at q
      all_goals (refine hJ _ _ _ _ ?_; conv => whnf)
      · subst q
        refine s_give hC ?_
        conv => whnf
        exact mod _ _ (fun q => absurd c q) (fun _ q => absurd (l2.symm.trans q) (by decide)) (fun _ _ => fin _ l3)
      · subst q
        refine s_give hC ?_
        conv => whnf
        exact mod _ _ (fun q => absurd c q) (fun _ q => absurd (l2.symm.trans q) (by decide)) (fun _ _ => fin _ l4)
      · subst q
        refine s_give hC ?_
        conv => whnf
        exact mod _ _ (fun q => absurd c q) (fun _ q => absurd (l2.symm.trans q) (by decide)) (fun _ _ => fin _ l5)
      · subst q
        refine s_give hC ?_
        conv => whnf
        exact mod _ _ (fun q => absurd c q) (fun _ q => absurd (l2.symm.trans q) (by decide)) (fun _ _ => fin _ l6)
      · obtain rfl : z = 4 := by omega
        rw [l7]
        refine s_truth hC ?_
        conv => whnf
        refine s_give hC ?_
        conv => whnf
        exact mod _ _ (fun q => absurd c q) (fun _ q => absurd (l2.symm.trans q) (by decide)) (fun _ _ => fin _ l8.symm)
  · refine s_none hC ?_
    conv => whnf
    refine mod _ _ (fun _ => ?_) (fun q => absurd q c) (fun q => absurd q c)
    exact h _ _ (hR.sc done2.1 done2.2)
