/-! the two houses are exchanged -/
def kC' (t i j : Nat) : Prop := (t = 1 ∧ j = 15) ∨ (22 ≤ t ∧ t ≤ 36 ∧ 6 ≤ i) ∨ (37 ≤ t ∧ t ≤ 43 ∧ 2 ≤ i) ∨ t = 44 ∨ (t = 19 ∧ i = 0 ∧ 4 ≤ j) ∨ (t = 46 ∧ (j = 45 ∨ j = 46)) ∨ (t = 47 ∧ 465 ≤ j ∧ j < 1860) ∨ t = 49 ∨ t = 50 ∨ t = 66
theorem MarkR.cw {σ σ' : AM} (hm : MarkR σ) (e1 : ∀ t i j, kC' t i j → σ'.1 t i j = σ.1 t i j) (e2 : ∀ t i j, kBL t i j → t ≠ 1 → t ≠ 46 → σ'.2.1 t i j = σ.2.1 t i j) : MarkR σ' := by
  obtain ⟨k, h1, h2, h3, h4⟩ := hm
  refine ⟨k, h1, by rw [e1 1 0 15 (by unfold kC'; omega), h2], by rw [e1 46 0 46 (by unfold kC'; omega), h3], fun i hi => ?_⟩
  obtain ⟨h, hh⟩ := h4 i hi
  refine ⟨h, hh.cg (fun t j hin => e1 _ _ _ ?_) (fun t j hin => e2 _ _ _ ?_ ?_ ?_) (fun j hj => e1 _ _ _ ?_) (fun j hj => e2 _ _ _ ?_ ?_ ?_) (e1 _ _ _ ?_) (e1 _ _ _ ?_) (fun k _ t a b => e1 _ _ _ ?_)⟩
  · unfold inHI at hin; unfold kC'; omega
  · unfold inHL at hin; unfold kBL; omega
  · unfold inHL at hin; omega
  · unfold inHL at hin; omega
  · unfold kC'; omega
  · unfold kBL; omega
  · omega
  · omega
  · unfold kC'; omega
  · unfold kC'; omega
  · unfold kC'; omega
theorem TrayR.cw {σ σ' : AM} (hm : TrayR σ) (e1 : ∀ t i j, kC' t i j → σ'.1 t i j = σ.1 t i j) (e2 : ∀ t i j, kBL t i j → t ≠ 1 → t ≠ 46 → σ'.2.1 t i j = σ.2.1 t i j) : TrayR σ' := by
  have a : ∀ i j, σ'.1 44 i j = σ.1 44 i j := fun i j => e1 _ _ _ (by unfold kC'; omega)
  have b : ∀ i j, σ'.1 49 i j = σ.1 49 i j := fun i j => e1 _ _ _ (by unfold kC'; omega)
  have c : ∀ i j, σ'.1 50 i j = σ.1 50 i j := fun i j => e1 _ _ _ (by unfold kC'; omega)
  have d : ∀ i j, σ'.2.1 45 i j = σ.2.1 45 i j := fun i j => e2 _ _ _ (by unfold kBL; omega) (by omega) (by omega)
  have e : ∀ i j, σ'.2.1 51 i j = σ.2.1 51 i j := fun i j => e2 _ _ _ (by unfold kBL; omega) (by omega) (by omega)
  intro t ht
  have := hm t ht
  simp only [a, b, c, d, e]
  exact this
theorem LifeR.cw {σ σ' : AM} (hm : LifeR σ) (e1 : ∀ t i j, kC' t i j → σ'.1 t i j = σ.1 t i j) : LifeR σ' := by
  have a : ∀ j, 4 ≤ j → σ'.1 19 0 j = σ.1 19 0 j := fun j hj => e1 _ _ _ (by unfold kC'; omega)
  have b : ∀ j, σ'.1 66 0 j = σ.1 66 0 j := fun j => e1 _ _ _ (by unfold kC'; omega)
  unfold LifeR at hm ⊢
  rw [a 5 (by omega), a 6 (by omega), a 7 (by omega), a 8 (by omega), a 9 (by omega), a 10 (by omega), b, b, b, b, b, e1 46 0 45 (by unfold kC'; omega)]
  exact hm
theorem RelB.cw {σ σ' : AM} (hb : RelB σ) (e1 : ∀ t i j, kC' t i j → σ'.1 t i j = σ.1 t i j) (e2 : ∀ t i j, kBL t i j → σ'.2.1 t i j = σ.2.1 t i j) (ht : TapeR σ') (hf : FltR σ') : RelB σ' := by
  refine ⟨hb.1.cw e1 (fun t i j k _ _ => e2 t i j k), hb.2.1.cw e1 (fun t i j k _ _ => e2 t i j k), ht, hf, hb.2.2.2.2.1.cw e1, ?_, hb.2.2.2.2.2.2.cg (fun t i j k _ _ => e2 t i j k)⟩
  have f := hb.2.2.2.2.2.1
  unfold FracR
  rw [e2 1 0 17 (by unfold kBL; omega), e2 46 0 3 (by unfold kBL; omega), e2 1 0 18 (by unfold kBL; omega), e2 46 0 4 (by unfold kBL; omega)]
  exact f
theorem s_dclear {CALL : CT} (hC : RuleAll CALL) {r : Nat} {σ : AM} {K : AV → AM → Prop} {p : Nat} (h : K unset (wI (wI (wI σ 37 p 6 (Int32.ofInt 0)) 37 p 7 (Int32.ofInt 0)) 37 p 8 (Int32.ofInt 0))) : CALL (r + 1) n_Days_clear [.inr (.inr (37, p))] σ K := by
  refine r_Days_clear hC (fun J hJ => ?_)
  refine hJ _ _ _ _ ?_
  conv => whnf
  exact ⟨Or.inl rfl, h⟩
