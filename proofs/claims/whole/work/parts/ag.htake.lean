/-! a house that nobody told anything -/
def hZ : Nat → Int := fun j => if j = 3 then 10 else if j = 4 then 1 else if j = 9 ∨ j = 10 then -1 else 0
theorem hZ_0 {j : Nat} (h : j ≠ 3 ∧ j ≠ 4 ∧ j ≠ 9 ∧ j ≠ 10) : hZ j = 0 := by
  unfold hZ
  rw [if_neg h.1, if_neg h.2.1, if_neg (by omega)]
theorem hZ_WP : WP hZ := by
  refine ⟨⟨by decide, fun t ht => ?_, fun t ht => ?_, fun t ht => ?_⟩, by decide, by decide⟩
  · rw [hZ_0 (by omega)] at ht; omega
  · rw [hZ_0 (by omega)] at ht; omega
  · rw [hZ_0 (by omega)] at ht; omega
def S0 (f : Nat) : PS := (f, hZ, fun _ => [], fun _ => [], false, false)
theorem S0_PI {L f : Nat} (h : f ≤ L) : PI L (S0 f) := by
  refine ⟨h, hZ_WP, rfl, rfl, rfl, rfl, rfl, rfl, fun t _ _ => hZ_0 (by omega), fun m w _ _ _ _ => hZ_0 (by omega), fun a b ha hb => ?_, fun t ht => ?_, fun t ht => ?_, fun a b ha hb => ?_, fun a b ha hb => ?_⟩
  · have ha : (a : Int) < hZ 1 := ha
    rw [hZ_0 (by omega)] at ha; omega
  · have ht : (t : Int) < hZ 0 := ht
    rw [hZ_0 (by omega)] at ht; omega
  · have ht : (t : Int) < hZ 1 := ht
    rw [hZ_0 (by omega)] at ht; omega
  · have ha : (a : Int) < hZ 1 := ha
    rw [hZ_0 (by omega)] at ha; omega
  · have ha : (a : Int) < hZ 1 := ha
    rw [hZ_0 (by omega)] at ha; omega
theorem s_mclear {CALL : CT} (hC : RuleAll CALL) {r : Nat} {σ : AM} {K : AV → AM → Prop} {q : Nat} (h : K unset (wI (wI σ 27 q 8 (Int32.ofInt 0)) 27 q 7 (Int32.ofInt 0))) : CALL (r + 1) n_Monks_clear [.inr (.inr (27, q))] σ K := by
  refine r_Monks_clear hC (fun J hJ => ?_)
  refine hJ _ _ _ _ ?_
  conv => whnf
  exact h
def hclrS (σ : AM) (q : Nat) : AM := wI (wI (wI (wI (wI (wI (wI (wI (wI (wI (wI σ 23 q 3 (Int32.ofInt 0)) 27 q 8 (Int32.ofInt 0)) 27 q 7 (Int32.ofInt 0)) 22 q 4 (Int32.ofInt 0)) 22 q 5 (Int32.ofInt 10)) 22 q 6 (Int32.ofInt 1)) 22 q 7 (Int32.ofInt 0)) 22 q 8 (Int32.ofInt 0)) 22 q 9 (Int32.ofInt 0)) 22 q 10 (Int32.ofInt 0)) 22 q 11 (Int32.ofInt (-1))
theorem s_hclear {CALL : CT} (hC : RuleAll CALL) {r : Nat} {σ : AM} {K : AV → AM → Prop} {q : Nat} (h : K unset (hclrS σ q)) : CALL (r + 2) n_House_clear [.inr (.inr (22, q))] σ K := by
  refine r_House_clear hC (fun J hJ => ?_)
  refine hJ _ _ _ _ ?_
  conv => whnf
  refine s_mclear hC ?_
  conv => whnf
  exact h
theorem hclr_hs {σ : AM} {q : Nat} : ChA (fun t i _ => HS q t i) (fun _ _ _ => False) σ (hclrS σ q) := by
  unfold hclrS
  refine ChA.tr (ChA.tr (ChA.tr (ChA.tr (ChA.tr (ChA.tr (ChA.tr (ChA.tr (ChA.tr (ChA.tr (ChA.wI ?_) (ChA.wI ?_)) (ChA.wI ?_)) (ChA.wI ?_)) (ChA.wI ?_)) (ChA.wI ?_)) (ChA.wI ?_)) (ChA.wI ?_)) (ChA.wI ?_)) (ChA.wI ?_)) (ChA.wI ?_)
  all_goals exact ⟨by omega, by omega, rfl⟩
theorem hclr_HRep {σ : AM} {q : Nat} : HRep (hclrS σ q) q hZ := by
  have aw : awS hZ = 0 := by decide
  refine ⟨?_, ?_, ?_, ?_, ?_, ?_, ?_, ?_, ?_, ?_, ?_, fun t ht => ?_, fun m hm => ?_, fun e he => ?_⟩
  any_goals (rw [hZ_0 (by omega)] at *; omega)
  all_goals (unfold hclrS; simp only [wI1, aw]; simp; try rfl)
