theorem m_plain0 {CALL : CT} (hC : RuleAll CALL) {r : Nat} {σ : AM} {K : AV → AM → Prop} (h : ∀ σ' : AM, (∀ j : Nat, j < 465 → σ'.1 47 0 j = Int32.ofInt (hZ j)) → Ch (fun t i j => t = 47 ∧ i = 0 ∧ j < 465) σ σ' → K unset σ') : CALL (r + 1) n_m_plain [.inr (.inr (46, 0)), .inl (Int32.ofInt 0)] σ K := by
  refine r_m_plain hC (fun J hJ => ?_)
  refine hJ _ _ _ _ ?_
  conv => whnf
  have loop : ∀ (m j : Nat) (σ1 : AM), j + m = 465 → (∀ i : Nat, i < j → σ1.1 47 0 i = Int32.ofInt 0) → Ch (fun t i j => t = 47 ∧ i = 0 ∧ j < 465) σ σ1 → J 2 [.inr (.inr (46, 0)), .inl (Int32.ofInt 0), .inl (Int32.ofInt (j : Int))] [] σ1 := by
    intro m
    induction m with
    | zero =>
      intro j σ1 hj e hch
      refine hJ _ _ _ _ ?_
      conv => whnf
      refine ⟨fun c => ?_, fun c => ?_⟩ <;> (try simp (disch := omega) only [oi_le, oi_lt, oi_eq, oi_lt0, oi_le0, oi_0lt, oi_0le, oi_eq0, oi_eq1, bI_eq0, bI_ne0, bI_eq1, decide_eq_true_eq, decide_eq_false_iff_not, lc_lt, lc_gt, lc_eq, lc_ge, lc_le, ol_lt, ol_eq, ne_eq, Int.not_lt, Int.not_le, Bool.not_eq_true, Bool.not_eq_false, Decidable.not_not, not_true_eq_false, not_false_eq_true, Bool.true_eq_false, Bool.false_eq_true] at c) <;> (first | (exfalso; omega) | ((with_reducible refine hJ _ _ _ _ ?_); conv => whnf) | (conv => whnf))
      rw [show Int32.ofInt 0 + Int32.ofInt 3 = Int32.ofInt 3 from rfl]
      refine ⟨(oi_in (by omega) (by omega)).mpr ⟨by omega, by omega⟩, ?_⟩
      conv => whnf
      rw [show (Int32.ofInt 3).toNatClampNeg = 3 from rfl, show Int32.ofInt 0 + Int32.ofInt 4 = Int32.ofInt 4 from rfl]
      refine ⟨(oi_in (by omega) (by omega)).mpr ⟨by omega, by omega⟩, ?_⟩
      conv => whnf
      rw [show (Int32.ofInt 4).toNatClampNeg = 4 from rfl, show Int32.ofInt 0 + Int32.ofInt 9 = Int32.ofInt 9 from rfl]
      refine ⟨(oi_in (by omega) (by omega)).mpr ⟨by omega, by omega⟩, ?_⟩
      conv => whnf
      rw [show (Int32.ofInt 9).toNatClampNeg = 9 from rfl, show Int32.ofInt 0 + Int32.ofInt 10 = Int32.ofInt 10 from rfl]
      refine ⟨(oi_in (by omega) (by omega)).mpr ⟨by omega, by omega⟩, ?_⟩
      conv => whnf
      rw [show (Int32.ofInt 10).toNatClampNeg = 10 from rfl]
      refine h _ (fun i hi => ?_) (((((hch.tr (Ch.wI ⟨rfl, rfl, by omega⟩)).tr (Ch.wI ⟨rfl, rfl, by omega⟩)).tr (Ch.wI ⟨rfl, rfl, by omega⟩)).tr (Ch.wI ⟨rfl, rfl, by omega⟩)))
      unfold hZ
      by_cases e3 : i = 3
      · rw [if_pos e3, e3, wI1, if_neg (by omega), wI1, if_neg (by omega), wI1, if_neg (by omega), wI1, if_pos (by omega)]
      rw [if_neg e3]
      by_cases e4 : i = 4
      · rw [if_pos e4, e4, wI1, if_neg (by omega), wI1, if_neg (by omega), wI1, if_pos (by omega)]
      rw [if_neg e4]
      by_cases e9 : i = 9
      · rw [if_pos (Or.inl e9), e9, wI1, if_neg (by omega), wI1, if_pos (by omega)]
      by_cases e10 : i = 10
      · rw [if_pos (Or.inr e10), e10, wI1, if_pos (by omega)]
      rw [if_neg (by omega), wI1, if_neg (by omega), wI1, if_neg (by omega), wI1, if_neg (by omega), wI1, if_neg (by omega)]
      exact e i (by omega)
    | succ m ih =>
      intro j σ1 hj e hch
      refine hJ _ _ _ _ ?_
      conv => whnf
      refine ⟨fun c => ?_, fun c => ?_⟩ <;> (try simp (disch := omega) only [oi_le, oi_lt, oi_eq, oi_lt0, oi_le0, oi_0lt, oi_0le, oi_eq0, oi_eq1, bI_eq0, bI_ne0, bI_eq1, decide_eq_true_eq, decide_eq_false_iff_not, lc_lt, lc_gt, lc_eq, lc_ge, lc_le, ol_lt, ol_eq, ne_eq, Int.not_lt, Int.not_le, Bool.not_eq_true, Bool.not_eq_false, Decidable.not_not, not_true_eq_false, not_false_eq_true, Bool.true_eq_false, Bool.false_eq_true] at c) <;> (first | (exfalso; omega) | ((with_reducible refine hJ _ _ _ _ ?_); conv => whnf) | (conv => whnf))
      rw [oi_add]
      refine ⟨(oi_in (by omega) (by omega)).mpr ⟨by omega, by omega⟩, ?_⟩
      conv => whnf
      rw [oi_nat (by omega) (by omega), show (0 + (j : Int)).toNat = j by omega, oi_add]
      refine ih (j + 1) _ (by omega) (fun i hi => ?_) (hch.tr (Ch.wI ⟨rfl, rfl, by omega⟩))
      by_cases ei : i = j
      · rw [ei, wI_16]
      · rw [wI1, if_neg (by omega)]; exact e i (by omega)
  exact loop 465 0 σ (by omega) (fun i hi => by omega) Ch.rf
theorem kw_ok : ∀ i, i < 23 → (kwSt 133).2 i = Int64.ofInt ((enc5 (keyW.getD i []) : Nat) : Int) := by decide +kernel
theorem trm_ok : ∀ t, t < 4 → trm t = Int32.ofInt (-1) := by decide +kernel
/-- both begin alike -/
theorem Rel_0 {σ : AM} (hz : ∀ j : Nat, j < 465 → σ.1 47 0 j = Int32.ofInt (hZ j)) (f : Ch (fun t i j => t = 47 ∧ i = 0 ∧ j < 465) sg0 σ) : Rel σ := by
  have e : ∀ t i j, t ≠ 47 → σ.1 t i j = IF0 t j := fun t i j h => f.1 t i j (fun z => h z.1)
  have e2 : σ.2 = sg0.2 := f.2
  have aw : awS hZ = 0 := by decide
  refine ⟨⟨4, 0, hZ, Or.inl rfl, by omega, by rw [e2]; rfl, by rw [e2]; rfl, by rw [e2]; rfl, by rw [e2]; rfl, ?_, ?_, hZ_WP, by decide, ?_, ⟨fun t ht => ?_, fun t ht => ?_⟩, Or.inl ⟨rfl, ?_, ?_⟩⟩, ⟨⟨0, by omega, ?_, ?_, fun i hi => absurd hi (Nat.not_lt_zero i)⟩, fun t ht => Or.inl ⟨?_, ?_⟩, ⟨0, by omega, ?_, ?_, fun j hj => absurd hj (Nat.not_lt_zero j)⟩, ⟨?_, ?_⟩, Or.inl ⟨?_, ?_⟩, ?_, fun i hi => ?_⟩, ?_⟩
  · refine ⟨?_, ?_, ?_, ?_, ?_, ?_, ?_, ?_, ?_, ?_, ?_, fun t ht => ?_, fun m hm => ?_, fun e he => ?_⟩
    any_goals (rw [hZ_0 (by omega)] at *; omega)
    all_goals (rw [e _ _ _ (by omega)]; first | decide | (rw [aw]; decide))
  · intro j hj
    rw [Nat.zero_add]
    exact hz j (by omega)
  · intro x y hx hy
    rw [hZ_0 (by omega)] at hx
    omega
  · rw [hZ_0 (by omega)] at ht; omega
  · rw [hZ_0 (by omega)] at ht; omega
  all_goals (first | (rw [e _ _ _ (by omega)]; decide) | (rw [e _ _ _ (by omega)]; exact trm_ok _ (by assumption)) | (rw [e _ _ _ (by omega), e _ _ _ (by omega)]; decide) | (unfold FracR; rw [e2]; decide) | (rw [e2]; exact kw_ok _ (by assumption)))
