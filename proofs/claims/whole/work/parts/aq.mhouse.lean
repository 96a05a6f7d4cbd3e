theorem m_plainS {CALL : CT} (hC : RuleAll CALL) {r : Nat} {σ : AM} {K : AV → AM → Prop} (h : ∀ σ' : AM, (∀ j : Nat, j < 465 → σ'.1 47 0 (1860 + j) = Int32.ofInt (hZ j)) → Ch (fun t i j => t = 47 ∧ i = 0 ∧ 1860 ≤ j ∧ j < 2325) σ σ' → K unset σ') : CALL (r + 1) n_m_plain [.inr (.inr (46, 0)), .inl (Int32.ofInt 1860)] σ K := by
  refine r_m_plain hC (fun J hJ => ?_)
  refine hJ _ _ _ _ ?_
  conv => whnf
  have loop : ∀ (m j : Nat) (σ1 : AM), j + m = 465 → (∀ i : Nat, i < j → σ1.1 47 0 (1860 + i) = Int32.ofInt 0) → Ch (fun t i j => t = 47 ∧ i = 0 ∧ 1860 ≤ j ∧ j < 2325) σ σ1 → J 2 [.inr (.inr (46, 0)), .inl (Int32.ofInt 1860), .inl (Int32.ofInt (j : Int))] [] σ1 := by
    intro m
    induction m with
    | zero =>
      intro j σ1 hj e hch
      refine hJ _ _ _ _ ?_
      conv => whnf
      refine ⟨fun c => ?_, fun c => ?_⟩ <;> (try simp (disch := omega) only [oi_le, oi_lt, oi_eq, oi_lt0, oi_le0, oi_0lt, oi_0le, oi_eq0, oi_eq1, bI_eq0, bI_ne0, bI_eq1, decide_eq_true_eq, decide_eq_false_iff_not, lc_lt, lc_gt, lc_eq, lc_ge, lc_le, ol_lt, ol_eq, ne_eq, Int.not_lt, Int.not_le, Bool.not_eq_true, Bool.not_eq_false, Decidable.not_not, not_true_eq_false, not_false_eq_true, Bool.true_eq_false, Bool.false_eq_true] at c) <;> (first | (exfalso; omega) | ((with_reducible refine hJ _ _ _ _ ?_); conv => whnf) | (conv => whnf))
      rw [show Int32.ofInt 1860 + Int32.ofInt 3 = Int32.ofInt 1863 from rfl]
      refine ⟨(oi_in (by omega) (by omega)).mpr ⟨by omega, by omega⟩, ?_⟩
      conv => whnf
      rw [show (Int32.ofInt 1863).toNatClampNeg = 1863 from rfl, show Int32.ofInt 1860 + Int32.ofInt 4 = Int32.ofInt 1864 from rfl]
      refine ⟨(oi_in (by omega) (by omega)).mpr ⟨by omega, by omega⟩, ?_⟩
      conv => whnf
      rw [show (Int32.ofInt 1864).toNatClampNeg = 1864 from rfl, show Int32.ofInt 1860 + Int32.ofInt 9 = Int32.ofInt 1869 from rfl]
      refine ⟨(oi_in (by omega) (by omega)).mpr ⟨by omega, by omega⟩, ?_⟩
      conv => whnf
      rw [show (Int32.ofInt 1869).toNatClampNeg = 1869 from rfl, show Int32.ofInt 1860 + Int32.ofInt 10 = Int32.ofInt 1870 from rfl]
      refine ⟨(oi_in (by omega) (by omega)).mpr ⟨by omega, by omega⟩, ?_⟩
      conv => whnf
      rw [show (Int32.ofInt 1870).toNatClampNeg = 1870 from rfl]
      refine h _ (fun i hi => ?_) (((((hch.tr (Ch.wI ⟨rfl, rfl, by omega, by omega⟩)).tr (Ch.wI ⟨rfl, rfl, by omega, by omega⟩)).tr (Ch.wI ⟨rfl, rfl, by omega, by omega⟩)).tr (Ch.wI ⟨rfl, rfl, by omega, by omega⟩)))
      unfold hZ
      by_cases e3 : i = 3
      · rw [if_pos e3, e3, wI1, if_neg (by omega), wI1, if_neg (by omega), wI1, if_neg (by omega), wI1, if_pos (by omega)]
      rw [if_neg e3]
      by_cases e4 : i = 4
      · rw [if_pos e4, e4, wI1, if_neg (by omega), wI1, if_neg (by omega), wI1, if_pos (by omega)]
      rw [if_neg e4]
      by_cases e9 : i = 9
      · rw [if_pos (Or.inl e9), e9, wI1, if_neg (by omega), wI1, if_pos (by omega)]
      by_cases e10 : i = 10
      · rw [if_pos (Or.inr e10), e10, wI1, if_pos (by omega)]
      rw [if_neg (by omega), wI1, if_neg (by omega), wI1, if_neg (by omega), wI1, if_neg (by omega), wI1, if_neg (by omega)]
      exact e i (by omega)
    | succ m ih =>
      intro j σ1 hj e hch
      refine hJ _ _ _ _ ?_
      conv => whnf
      refine ⟨fun c => ?_, fun c => ?_⟩ <;> (try simp (disch := omega) only [oi_le, oi_lt, oi_eq, oi_lt0, oi_le0, oi_0lt, oi_0le, oi_eq0, oi_eq1, bI_eq0, bI_ne0, bI_eq1, decide_eq_true_eq, decide_eq_false_iff_not, lc_lt, lc_gt, lc_eq, lc_ge, lc_le, ol_lt, ol_eq, ne_eq, Int.not_lt, Int.not_le, Bool.not_eq_true, Bool.not_eq_false, Decidable.not_not, not_true_eq_false, not_false_eq_true, Bool.true_eq_false, Bool.false_eq_true] at c) <;> (first | (exfalso; omega) | ((with_reducible refine hJ _ _ _ _ ?_); conv => whnf) | (conv => whnf))
      rw [oi_add]
      refine ⟨(oi_in (by omega) (by omega)).mpr ⟨by omega, by omega⟩, ?_⟩
      conv => whnf
      rw [oi_nat (by omega) (by omega), show (1860 + (j : Int)).toNat = 1860 + j by omega, oi_add]
      refine ih (j + 1) _ (by omega) (fun i hi => ?_) (hch.tr (Ch.wI ⟨rfl, rfl, by omega, by omega⟩))
      by_cases ei : i = j
      · rw [ei, wI_16]
      · rw [wI1, if_neg (by omega)]; exact e i (by omega)
  exact loop 465 0 σ (by omega) (fun i hi => by omega) Ch.rf
theorem m_takenS {CALL : CT} (hC : RuleAll CALL) {r : Nat} {σ : AM} {K : AV → AM → Prop} {x c : Int} (h18 : σ.1 46 0 18 = Int32.ofInt c) (c0 : 0 ≤ c) (c9 : c ≤ 9) (h1 : c = 0 → K (.inl (Int32.ofInt x)) (wI (wI σ 46 0 16 (Int32.ofInt c)) 46 0 2 (Int32.ofInt 0))) (h2 : 1 ≤ c → K (.inl (Int32.ofInt (-1))) (wI (wI σ 46 0 16 (Int32.ofInt c)) 46 0 2 (Int32.ofInt 9))) : CALL (r + 2) n_m_taken [.inr (.inr (46, 0)), .inl (Int32.ofInt x)] σ K := by
  refine r_m_taken hC (fun J hJ => ?_)
  refine hJ _ _ _ _ ?_
  conv => whnf
  rw [h18, wI1, if_neg (by omega), h18]
  refine ⟨fun c2 => ?_, fun c2 => ?_⟩ <;> (try simp (disch := omega) only [oi_le, oi_lt, oi_eq, oi_lt0, oi_le0, oi_0lt, oi_0le, oi_eq0, oi_eq1, bI_eq0, bI_ne0, bI_eq1, decide_eq_true_eq, decide_eq_false_iff_not, lc_lt, lc_gt, lc_eq, lc_ge, lc_le, ol_lt, ol_eq, ne_eq, Int.not_lt, Int.not_le, Bool.not_eq_true, Bool.not_eq_false, Decidable.not_not, not_true_eq_false, not_false_eq_true, Bool.true_eq_false, Bool.false_eq_true] at c2) <;> (first | (exfalso; omega) | ((with_reducible refine hJ _ _ _ _ ?_); conv => whnf) | (conv => whnf))
  · refine s_m_gives hC ?_
    conv => whnf
    refine hJ _ _ _ _ ?_
    conv => whnf
    exact h1 (by omega)
  · refine s_m_refuse hC ?_
    conv => whnf
    refine hJ _ _ _ _ ?_
    conv => whnf
    exact h2 (by omega)
