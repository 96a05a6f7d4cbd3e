/-! the class reads a step; all of them -/
theorem kmC_st {k : Int} (h1 : -1 ≤ k) (h2 : k ≤ 22) : (stX (kmC k) ↔ 11 ≤ k ∧ k ≤ 19 ∧ k ≠ 18) ∧ (11 ≤ k → k ≤ 19 → kmC k = kdC k) := by
  have key : ∀ n : Fin 23, (((11 ≤ kmC ((n.val : Nat) : Int) ∧ kmC ((n.val : Nat) : Int) ≤ 16) ∨ kmC ((n.val : Nat) : Int) = 20 ∨ kmC ((n.val : Nat) : Int) = 22) ↔ (11 ≤ ((n.val : Nat) : Int) ∧ ((n.val : Nat) : Int) ≤ 19 ∧ ((n.val : Nat) : Int) ≠ 18)) ∧ (11 ≤ ((n.val : Nat) : Int) → ((n.val : Nat) : Int) ≤ 19 → kmC ((n.val : Nat) : Int) = kdC ((n.val : Nat) : Int)) := by decide +kernel
  by_cases z : k < 0
  · rw [show kmC k = -1 from if_pos z]
    refine ⟨⟨fun y => ?_, fun y => by omega⟩, fun y => by omega⟩
    unfold stX at y
    omega
  · obtain ⟨m, em⟩ : ∃ m : Nat, k = (m : Int) := ⟨k.toNat, by omega⟩
    rw [em]
    exact key ⟨m, by omega⟩
theorem kdC_v {k : Int} (h1 : 11 ≤ k) (h2 : k ≤ 19) (h3 : k ≠ 18) : (k < 16 → kdC k = k) ∧ (k = 16 → kdC k = 16) ∧ (k = 17 → kdC k = 20) ∧ (k = 19 → kdC k = 22) := by
  refine ⟨fun z => if_pos z, fun z => ?_, fun z => ?_, fun z => ?_⟩
  · rw [z]; rfl
  · rw [z]; rfl
  · rw [z]; rfl
theorem dStep_18 {B : Nat → Int} {L a b : Nat} {tn mn : Nat → List Nat} {S : DZ} (h : kwT B L S.1 = 18) : dStep B L tn mn a b S = if S.2.2.2.1 = 0 then dFl B L S.1 2 else dSemi B L (dEnd S (nxT B L S.1)) := by
  unfold dStep
  by_cases c : S.2.2.2.1 = 0
  · rw [if_pos (Or.inr ⟨h, c⟩), if_pos c]
  · rw [if_neg (by omega), if_pos h, if_neg c]
theorem dStep_go {B : Nat → Int} {L a b : Nat} {tn mn : Nat → List Nat} {S : DZ} (h1 : 11 ≤ kwT B L S.1) (h2 : kwT B L S.1 ≤ 19) (h3 : kwT B L S.1 ≠ 18) (h4 : S.2.2.2.2.2 < 30) (h5 : kwT B L S.1 = 16 ∨ kwT B L S.1 = 17 → S.2.2.2.1 < 3) : dStep B L tn mn a b S = if kwT B L S.1 = 11 then dNum B L 1 60 (nxT B L S.1) (fun v f => dSemi B L (dAdd S f (stp 11 v 0 0)))
  else if kwT B L S.1 = 17 then dNum B L 1 99 (nxT B L S.1) (fun v f => dSemi B L (dOpn S f (stp 17 v 0 0)))
  else if kwT B L S.1 = 16 then dTest B L tn mn a b (nxT B L S.1) (fun g f => dSemi B L (dOpn S f g))
  else if kwT B L S.1 = 15 ∨ kwT B L S.1 = 19 then dSemi B L (dAdd S (nxT B L S.1) (stp (kwT B L S.1) 0 0 0))
  else dOld B L mn b (nxT B L S.1) (fun m f => dSemi B L (dAdd S f (stp (kwT B L S.1) (m : Int) 0 0))) := by
  unfold dStep
  rw [if_neg (by omega), if_neg h3, if_neg (by omega), if_neg (by omega)]
theorem c_dstep {CALL : CT} (hC : RuleAll CALL) {r : Nat} {σ : AM} {K : AV → AM → Prop} {B : Nat → Int} {L p q a b : Nat} {tn mn : Nat → List Nat} {S : DZ} {dep : Nat → Nat} (hc : CDy σ B L p q S) (hn : HN σ q tn mn a b) (hp : DI (a : Int) (b : Int) L S dep) (hw : kwT B L S.1 ≠ 18) (h : ∀ (bb : Bool) (σ' : AM), OD σ' B L p q (dStep B L tn mn a b S) bb → ChA (dyS p) tkL σ σ' → K (.inl (bI bb)) σ') : CALL (r + 6) n_DaysReader_takesStep [.inr (.inr (7, 0))] σ K := by
  refine r_DaysReader_takesStep hC (fun J hJ => ?_)
  refine hJ _ _ _ _ ?_
  conv => whnf
  have kb := kmC_bd2 B L S.1
  have kwb := kwT_bd B L S.1
  have ks := kmC_st kwb.1 kwb.2
  rw [show σ.1 3 0 7 = Int32.ofInt (kmC (kwT B L S.1)) from hc.1.2.2.2.2.2.2.1]
  refine c_dadd hC hc hp.2.2.1 hp.2.1 hp.2.2.2.1 kb.1 kb.2 (fun z => ?_) (fun z z2 => ?_) (fun z z2 z3 z4 => ?_) (fun op σ1 z z2 z3 z4 hc1 e38 f1 => ?_)
  · conv => whnf
    refine ⟨fun y => ?_, fun y => ?_⟩ <;> (try simp (disch := omega) only [oi_le, oi_lt, oi_eq, oi_lt0, oi_le0, oi_0lt, oi_0le, oi_eq0, oi_eq1, bI_eq0, bI_ne0, bI_eq1, decide_eq_true_eq, decide_eq_false_iff_not, lc_lt, lc_gt, lc_eq, lc_ge, lc_le, ol_lt, ol_eq, ne_eq, Int.not_lt, Int.not_le, Bool.not_eq_true, Bool.not_eq_false, Decidable.not_not, not_true_eq_false, not_false_eq_true, Bool.true_eq_false, Bool.false_eq_true] at y) <;> (first | (exfalso; omega) | ((with_reducible refine hJ _ _ _ _ ?_); conv => whnf) | (conv => whnf))
    have e : dStep B L tn mn a b S = dFl B L S.1 2 := if_pos (Or.inl (fun y => z (ks.1.mpr ⟨y.1, y.2, hw⟩)))
    exact ⟨Or.inl rfl, h false _ (e ▸ OD.fl) fC_dy⟩
  · conv => whnf
    refine ⟨fun y => ?_, fun y => ?_⟩ <;> (try simp (disch := omega) only [oi_le, oi_lt, oi_eq, oi_lt0, oi_le0, oi_0lt, oi_0le, oi_eq0, oi_eq1, bI_eq0, bI_ne0, bI_eq1, decide_eq_true_eq, decide_eq_false_iff_not, lc_lt, lc_gt, lc_eq, lc_ge, lc_le, ol_lt, ol_eq, ne_eq, Int.not_lt, Int.not_le, Bool.not_eq_true, Bool.not_eq_false, Decidable.not_not, not_true_eq_false, not_false_eq_true, Bool.true_eq_false, Bool.false_eq_true] at y) <;> (first | (exfalso; omega) | ((with_reducible refine hJ _ _ _ _ ?_); conv => whnf) | (conv => whnf))
    have k3 := ks.1.mp z
    have e : dStep B L tn mn a b S = dFl B L S.1 6 := by
      unfold dStep
      rw [if_neg (by omega), if_neg hw, if_pos z2]
    exact ⟨Or.inl rfl, h false _ (e ▸ OD.fl) fC_dy⟩
  · conv => whnf
    refine ⟨fun y => ?_, fun y => ?_⟩ <;> (try simp (disch := omega) only [oi_le, oi_lt, oi_eq, oi_lt0, oi_le0, oi_0lt, oi_0le, oi_eq0, oi_eq1, bI_eq0, bI_ne0, bI_eq1, decide_eq_true_eq, decide_eq_false_iff_not, lc_lt, lc_gt, lc_eq, lc_ge, lc_le, ol_lt, ol_eq, ne_eq, Int.not_lt, Int.not_le, Bool.not_eq_true, Bool.not_eq_false, Decidable.not_not, not_true_eq_false, not_false_eq_true, Bool.true_eq_false, Bool.false_eq_true] at y) <;> (first | (exfalso; omega) | ((with_reducible refine hJ _ _ _ _ ?_); conv => whnf) | (conv => whnf))
    have k3 := ks.1.mp z
    have kv := ks.2 k3.1 k3.2.1
    have kd := kdC_v k3.1 k3.2.1 k3.2.2
    have e : dStep B L tn mn a b S = dFl B L S.1 7 := by
      unfold dStep
      rw [if_neg (by omega), if_neg hw, if_neg (by omega), if_pos (by omega)]
    exact ⟨Or.inl rfl, h false _ (e ▸ OD.fl) fC_dy⟩
  · have k3 := ks.1.mp z
    have kv := ks.2 k3.1 k3.2.1
    have kd := kdC_v k3.1 k3.2.1 k3.2.2
    have s60 : S.2.1 < 60 := by have := hp.2.2.1; omega
    rw [kv] at z3 z4 e38 ⊢
    rw [dStep_go k3.1 k3.2.1 hw z2 (fun y => (z3 (by omega)).1)] at h
    clear kv z ks kb
    conv => whnf
    refine ⟨fun y => ?_, fun y => ?_⟩ <;> (try simp (disch := omega) only [oi_le, oi_lt, oi_eq, oi_lt0, oi_le0, oi_0lt, oi_0le, oi_eq0, oi_eq1, bI_eq0, bI_ne0, bI_eq1, decide_eq_true_eq, decide_eq_false_iff_not, lc_lt, lc_gt, lc_eq, lc_ge, lc_le, ol_lt, ol_eq, ne_eq, Int.not_lt, Int.not_le, Bool.not_eq_true, Bool.not_eq_false, Decidable.not_not, not_true_eq_false, not_false_eq_true, Bool.true_eq_false, Bool.false_eq_true] at y) <;> (first | (exfalso; omega) | ((with_reducible refine hJ _ _ _ _ ?_); conv => whnf) | (conv => whnf))
    refine s_adv hC hc1.1 (fun σ2 a2 f2 => ?_)
    conv => whnf
    have hc2 := hc1.tk f2 a2
    have f12 : ChA (dyS p) tkL σ σ2 := f1.tr (tk_dy f2)
    have hn2 := hn.cha f12
    have e2 : σ2.1 38 p S.2.1 = Int32.ofInt (kdC (kwT B L S.1)) := by rw [f2.1 _ _ _ (by unfold tkS; omega)]; exact e38
    have dflt : kwT B L S.1 = 15 ∨ kwT B L S.1 = 19 → J 186 [.inr (.inr (7, 0)), .inl (Int32.ofInt (kdC (kwT B L S.1))), .inl (Int32.ofInt (S.2.1 : Int))] [] σ2 := by
      intro y
      rw [if_neg (by omega), if_neg (by omega), if_neg (by omega), if_pos y] at h
      have : op = 0 := z4 (by omega)
      subst this
      refine hJ _ _ _ _ ?_
      conv => whnf
      refine c_dsemi hC (hc2.add (g := stp (kwT B L S.1) 0 0 0) (StC.of e2 (fun u => by omega) (fun u => by omega) (fun u => by omega) (fun u => by omega)) (by unfold isOp; show ¬ (kwT B L S.1 = 17 ∨ 1600 ≤ kwT B L S.1); omega) hw) (fun bb σ3 o3 f3 => ?_)
      conv => whnf
      exact ⟨bI_01 bb, h bb σ3 o3 (f12.tr f3)⟩
    have monk : 12 ≤ kwT B L S.1 ∧ kwT B L S.1 ≤ 14 → J 138 [.inr (.inr (7, 0)), .inl (Int32.ofInt (kdC (kwT B L S.1))), .inl (Int32.ofInt (S.2.1 : Int))] [] σ2 := by
      intro y
      rw [if_neg (by omega), if_neg (by omega), if_neg (by omega), if_neg (by omega)] at h
      have : op = 0 := z4 (by omega)
      subst this
      refine hJ _ _ _ _ ?_
      conv => whnf
      refine c_dmonk hC (k := fun m f => dSemi B L (dAdd S f (stp (kwT B L S.1) (m : Int) 0 0))) hc2 hn2 s60 (fun m σ3 hc3 m1 e39 f3 e3 => ?_) (fun σ3 o3 f3 => ?_)
      · rw [e3] at h
        conv => whnf
        refine ⟨fun y1 => ?_, fun y1 => ?_⟩ <;> (try simp (disch := omega) only [oi_le, oi_lt, oi_eq, oi_lt0, oi_le0, oi_0lt, oi_0le, oi_eq0, oi_eq1, bI_eq0, bI_ne0, bI_eq1, decide_eq_true_eq, decide_eq_false_iff_not, lc_lt, lc_gt, lc_eq, lc_ge, lc_le, ol_lt, ol_eq, ne_eq, Int.not_lt, Int.not_le, Bool.not_eq_true, Bool.not_eq_false, Decidable.not_not, not_true_eq_false, not_false_eq_true, Bool.true_eq_false, Bool.false_eq_true] at y1) <;> (first | (exfalso; omega) | ((with_reducible refine hJ _ _ _ _ ?_); conv => whnf) | (conv => whnf))
        have e4 : σ3.1 38 p S.2.1 = Int32.ofInt (kdC (kwT B L S.1)) := by rw [f3.1 _ _ _ (by unfold opS tkS; omega)]; exact e2
        refine c_dsemi hC (hc3.add (g := stp (kwT B L S.1) (m : Int) 0 0) (StC.of e4 (fun u => e39) (fun u => by omega) (fun u => by omega) (fun u => by omega)) (by unfold isOp; show ¬ (kwT B L S.1 = 17 ∨ 1600 ≤ kwT B L S.1); omega) hw) (fun bb σ4 o4 f4 => ?_)
        cases bb
        · conv => whnf
          refine ⟨fun y2 => ?_, fun y2 => ?_⟩ <;> (try simp (disch := omega) only [oi_le, oi_lt, oi_eq, oi_lt0, oi_le0, oi_0lt, oi_0le, oi_eq0, oi_eq1, bI_eq0, bI_ne0, bI_eq1, decide_eq_true_eq, decide_eq_false_iff_not, lc_lt, lc_gt, lc_eq, lc_ge, lc_le, ol_lt, ol_eq, ne_eq, Int.not_lt, Int.not_le, Bool.not_eq_true, Bool.not_eq_false, Decidable.not_not, not_true_eq_false, not_false_eq_true, Bool.true_eq_false, Bool.false_eq_true] at y2) <;> (first | (exfalso; omega) | ((with_reducible refine hJ _ _ _ _ ?_); conv => whnf) | (conv => whnf))
          refine hJ _ _ _ _ ?_
          conv => whnf
          exact ⟨Or.inl rfl, h false σ4 o4 ((f12.tr (op_dy (by omega) (by omega) f3)).tr f4)⟩
        · conv => whnf
          refine ⟨fun y2 => ?_, fun y2 => ?_⟩ <;> (try simp (disch := omega) only [oi_le, oi_lt, oi_eq, oi_lt0, oi_le0, oi_0lt, oi_0le, oi_eq0, oi_eq1, bI_eq0, bI_ne0, bI_eq1, decide_eq_true_eq, decide_eq_false_iff_not, lc_lt, lc_gt, lc_eq, lc_ge, lc_le, ol_lt, ol_eq, ne_eq, Int.not_lt, Int.not_le, Bool.not_eq_true, Bool.not_eq_false, Decidable.not_not, not_true_eq_false, not_false_eq_true, Bool.true_eq_false, Bool.false_eq_true] at y2) <;> (first | (exfalso; omega) | ((with_reducible refine hJ _ _ _ _ ?_); conv => whnf) | (conv => whnf))
          refine hJ _ _ _ _ ?_
          conv => whnf
          exact ⟨Or.inr rfl, h true σ4 o4 ((f12.tr (op_dy (by omega) (by omega) f3)).tr f4)⟩
      · conv => whnf
        refine ⟨fun y1 => ?_, fun y1 => ?_⟩ <;> (try simp (disch := omega) only [oi_le, oi_lt, oi_eq, oi_lt0, oi_le0, oi_0lt, oi_0le, oi_eq0, oi_eq1, bI_eq0, bI_ne0, bI_eq1, decide_eq_true_eq, decide_eq_false_iff_not, lc_lt, lc_gt, lc_eq, lc_ge, lc_le, ol_lt, ol_eq, ne_eq, Int.not_lt, Int.not_le, Bool.not_eq_true, Bool.not_eq_false, Decidable.not_not, not_true_eq_false, not_false_eq_true, Bool.true_eq_false, Bool.false_eq_true] at y1) <;> (first | (exfalso; omega) | ((with_reducible refine hJ _ _ _ _ ?_); conv => whnf) | (conv => whnf))
        refine hJ _ _ _ _ ?_
        conv => whnf
        exact ⟨Or.inl rfl, h false σ3 o3 (f12.tr f3)⟩
    rw [ti_oi (by omega) (by omega)]
    refine ⟨⟨fun c => ?_, fun c => ?_, fun c => ?_, fun c => ?_, fun c => ?_, fun c => ?_, fun c => ?_, fun c => ?_, fun c => ?_, fun c => ?_, True.intro⟩, fun c => ?_⟩
    all_goals (first | (rw [ti_oi (by omega) (by omega)] at c) | skip)
    · have y : kwT B L S.1 = 11 := by omega
      rw [if_pos y] at h
      have : op = 0 := z4 (by omega)
      subst this
      refine hJ _ _ _ _ ?_
      conv => whnf
      refine c_dnum hC (k := fun v f => dSemi B L (dAdd S f (stp 11 v 0 0))) hc2 (by omega) (by omega) (by omega) (by omega) s60 (fun v σ3 hc3 v1 v2 e40 f3 e3 => ?_) (fun σ3 o3 f3 => ?_)
      · rw [e3] at h
        conv => whnf
        refine ⟨fun y1 => ?_, fun y1 => ?_⟩ <;> (try simp (disch := omega) only [oi_le, oi_lt, oi_eq, oi_lt0, oi_le0, oi_0lt, oi_0le, oi_eq0, oi_eq1, bI_eq0, bI_ne0, bI_eq1, decide_eq_true_eq, decide_eq_false_iff_not, lc_lt, lc_gt, lc_eq, lc_ge, lc_le, ol_lt, ol_eq, ne_eq, Int.not_lt, Int.not_le, Bool.not_eq_true, Bool.not_eq_false, Decidable.not_not, not_true_eq_false, not_false_eq_true, Bool.true_eq_false, Bool.false_eq_true] at y1) <;> (first | (exfalso; omega) | ((with_reducible refine hJ _ _ _ _ ?_); conv => whnf) | (conv => whnf))
        have e4 : σ3.1 38 p S.2.1 = Int32.ofInt (kdC 11) := by rw [f3.1 _ _ _ (by unfold opS tkS; omega), e2, y]
        refine c_dsemi hC (hc3.add (g := stp 11 v 0 0) (StC.of e4 (fun u => by omega) (fun u => e40) (fun u => by omega) (fun u => by omega)) (by unfold isOp; show ¬ ((11 : Int) = 17 ∨ 1600 ≤ (11 : Int)); omega) (by show (11 : Int) ≠ 18; omega)) (fun bb σ4 o4 f4 => ?_)
        cases bb
        · conv => whnf
          refine ⟨fun y2 => ?_, fun y2 => ?_⟩ <;> (try simp (disch := omega) only [oi_le, oi_lt, oi_eq, oi_lt0, oi_le0, oi_0lt, oi_0le, oi_eq0, oi_eq1, bI_eq0, bI_ne0, bI_eq1, decide_eq_true_eq, decide_eq_false_iff_not, lc_lt, lc_gt, lc_eq, lc_ge, lc_le, ol_lt, ol_eq, ne_eq, Int.not_lt, Int.not_le, Bool.not_eq_true, Bool.not_eq_false, Decidable.not_not, not_true_eq_false, not_false_eq_true, Bool.true_eq_false, Bool.false_eq_true] at y2) <;> (first | (exfalso; omega) | ((with_reducible refine hJ _ _ _ _ ?_); conv => whnf) | (conv => whnf))
          refine hJ _ _ _ _ ?_
          conv => whnf
          exact ⟨Or.inl rfl, h false σ4 o4 ((f12.tr (op_dy (by omega) (by omega) f3)).tr f4)⟩
        · conv => whnf
          refine ⟨fun y2 => ?_, fun y2 => ?_⟩ <;> (try simp (disch := omega) only [oi_le, oi_lt, oi_eq, oi_lt0, oi_le0, oi_0lt, oi_0le, oi_eq0, oi_eq1, bI_eq0, bI_ne0, bI_eq1, decide_eq_true_eq, decide_eq_false_iff_not, lc_lt, lc_gt, lc_eq, lc_ge, lc_le, ol_lt, ol_eq, ne_eq, Int.not_lt, Int.not_le, Bool.not_eq_true, Bool.not_eq_false, Decidable.not_not, not_true_eq_false, not_false_eq_true, Bool.true_eq_false, Bool.false_eq_true] at y2) <;> (first | (exfalso; omega) | ((with_reducible refine hJ _ _ _ _ ?_); conv => whnf) | (conv => whnf))
          refine hJ _ _ _ _ ?_
          conv => whnf
          exact ⟨Or.inr rfl, h true σ4 o4 ((f12.tr (op_dy (by omega) (by omega) f3)).tr f4)⟩
      · conv => whnf
        refine ⟨fun y1 => ?_, fun y1 => ?_⟩ <;> (try simp (disch := omega) only [oi_le, oi_lt, oi_eq, oi_lt0, oi_le0, oi_0lt, oi_0le, oi_eq0, oi_eq1, bI_eq0, bI_ne0, bI_eq1, decide_eq_true_eq, decide_eq_false_iff_not, lc_lt, lc_gt, lc_eq, lc_ge, lc_le, ol_lt, ol_eq, ne_eq, Int.not_lt, Int.not_le, Bool.not_eq_true, Bool.not_eq_false, Decidable.not_not, not_true_eq_false, not_false_eq_true, Bool.true_eq_false, Bool.false_eq_true] at y1) <;> (first | (exfalso; omega) | ((with_reducible refine hJ _ _ _ _ ?_); conv => whnf) | (conv => whnf))
        refine hJ _ _ _ _ ?_
        conv => whnf
        exact ⟨Or.inl rfl, h false σ3 o3 (f12.tr f3)⟩
    · exact monk (by omega)
    · exact monk (by omega)
    · exact monk (by omega)
    · exact dflt (by omega)
    · have y : kwT B L S.1 = 16 := by omega
      rw [if_neg (by omega), if_neg (by omega), if_pos y] at h
      have : op = 1 := (z3 (by omega)).2
      subst this
      refine hJ _ _ _ _ ?_
      conv => whnf
      refine c_dtest hC (k := fun g f => dSemi B L (dOpn S f g)) hc2 hn2 s60 (by rw [e2, y]; rfl) (fun g f' σ3 hc3 hg f3 e3 => ?_) (fun σ3 o3 f3 => ?_)
      · rw [e3] at h
        conv => whnf
        refine ⟨fun y1 => ?_, fun y1 => ?_⟩ <;> (try simp (disch := omega) only [oi_le, oi_lt, oi_eq, oi_lt0, oi_le0, oi_0lt, oi_0le, oi_eq0, oi_eq1, bI_eq0, bI_ne0, bI_eq1, decide_eq_true_eq, decide_eq_false_iff_not, lc_lt, lc_gt, lc_eq, lc_ge, lc_le, ol_lt, ol_eq, ne_eq, Int.not_lt, Int.not_le, Bool.not_eq_true, Bool.not_eq_false, Decidable.not_not, not_true_eq_false, not_false_eq_true, Bool.true_eq_false, Bool.false_eq_true] at y1) <;> (first | (exfalso; omega) | ((with_reducible refine hJ _ _ _ _ ?_); conv => whnf) | (conv => whnf))
        refine c_dsemi hC (hc3.opn hg) (fun bb σ4 o4 f4 => ?_)
        cases bb
        · conv => whnf
          refine ⟨fun y2 => ?_, fun y2 => ?_⟩ <;> (try simp (disch := omega) only [oi_le, oi_lt, oi_eq, oi_lt0, oi_le0, oi_0lt, oi_0le, oi_eq0, oi_eq1, bI_eq0, bI_ne0, bI_eq1, decide_eq_true_eq, decide_eq_false_iff_not, lc_lt, lc_gt, lc_eq, lc_ge, lc_le, ol_lt, ol_eq, ne_eq, Int.not_lt, Int.not_le, Bool.not_eq_true, Bool.not_eq_false, Decidable.not_not, not_true_eq_false, not_false_eq_true, Bool.true_eq_false, Bool.false_eq_true] at y2) <;> (first | (exfalso; omega) | ((with_reducible refine hJ _ _ _ _ ?_); conv => whnf) | (conv => whnf))
          refine hJ _ _ _ _ ?_
          conv => whnf
          exact ⟨Or.inl rfl, h false σ4 o4 ((f12.tr f3).tr f4)⟩
        · conv => whnf
          refine ⟨fun y2 => ?_, fun y2 => ?_⟩ <;> (try simp (disch := omega) only [oi_le, oi_lt, oi_eq, oi_lt0, oi_le0, oi_0lt, oi_0le, oi_eq0, oi_eq1, bI_eq0, bI_ne0, bI_eq1, decide_eq_true_eq, decide_eq_false_iff_not, lc_lt, lc_gt, lc_eq, lc_ge, lc_le, ol_lt, ol_eq, ne_eq, Int.not_lt, Int.not_le, Bool.not_eq_true, Bool.not_eq_false, Decidable.not_not, not_true_eq_false, not_false_eq_true, Bool.true_eq_false, Bool.false_eq_true] at y2) <;> (first | (exfalso; omega) | ((with_reducible refine hJ _ _ _ _ ?_); conv => whnf) | (conv => whnf))
          refine hJ _ _ _ _ ?_
          conv => whnf
          exact ⟨Or.inr rfl, h true σ4 o4 ((f12.tr f3).tr f4)⟩
      · conv => whnf
        refine ⟨fun y1 => ?_, fun y1 => ?_⟩ <;> (try simp (disch := omega) only [oi_le, oi_lt, oi_eq, oi_lt0, oi_le0, oi_0lt, oi_0le, oi_eq0, oi_eq1, bI_eq0, bI_ne0, bI_eq1, decide_eq_true_eq, decide_eq_false_iff_not, lc_lt, lc_gt, lc_eq, lc_ge, lc_le, ol_lt, ol_eq, ne_eq, Int.not_lt, Int.not_le, Bool.not_eq_true, Bool.not_eq_false, Decidable.not_not, not_true_eq_false, not_false_eq_true, Bool.true_eq_false, Bool.false_eq_true] at y1) <;> (first | (exfalso; omega) | ((with_reducible refine hJ _ _ _ _ ?_); conv => whnf) | (conv => whnf))
        refine hJ _ _ _ _ ?_
        conv => whnf
        exact ⟨Or.inl rfl, h false σ3 o3 (f12.tr f3)⟩
    · exact dflt (by omega)
    · exact dflt (by omega)
    · exact dflt (by omega)
    · have y : kwT B L S.1 = 17 := by omega
      rw [if_neg (by omega), if_pos y] at h
      have : op = 1 := (z3 (by omega)).2
      subst this
      refine hJ _ _ _ _ ?_
      conv => whnf
      refine c_dnum hC (k := fun v f => dSemi B L (dOpn S f (stp 17 v 0 0))) hc2 (by omega) (by omega) (by omega) (by omega) s60 (fun v σ3 hc3 v1 v2 e40 f3 e3 => ?_) (fun σ3 o3 f3 => ?_)
      · rw [e3] at h
        conv => whnf
        refine ⟨fun y1 => ?_, fun y1 => ?_⟩ <;> (try simp (disch := omega) only [oi_le, oi_lt, oi_eq, oi_lt0, oi_le0, oi_0lt, oi_0le, oi_eq0, oi_eq1, bI_eq0, bI_ne0, bI_eq1, decide_eq_true_eq, decide_eq_false_iff_not, lc_lt, lc_gt, lc_eq, lc_ge, lc_le, ol_lt, ol_eq, ne_eq, Int.not_lt, Int.not_le, Bool.not_eq_true, Bool.not_eq_false, Decidable.not_not, not_true_eq_false, not_false_eq_true, Bool.true_eq_false, Bool.false_eq_true] at y1) <;> (first | (exfalso; omega) | ((with_reducible refine hJ _ _ _ _ ?_); conv => whnf) | (conv => whnf))
        have e4 : σ3.1 38 p S.2.1 = Int32.ofInt (kdC 17) := by rw [f3.1 _ _ _ (by unfold opS tkS; omega), e2, y]
        refine c_dsemi hC (hc3.opn (g := stp 17 v 0 0) (StC.of e4 (fun u => by omega) (fun u => e40) (fun u => by omega) (fun u => by omega))) (fun bb σ4 o4 f4 => ?_)
        cases bb
        · conv => whnf
          refine ⟨fun y2 => ?_, fun y2 => ?_⟩ <;> (try simp (disch := omega) only [oi_le, oi_lt, oi_eq, oi_lt0, oi_le0, oi_0lt, oi_0le, oi_eq0, oi_eq1, bI_eq0, bI_ne0, bI_eq1, decide_eq_true_eq, decide_eq_false_iff_not, lc_lt, lc_gt, lc_eq, lc_ge, lc_le, ol_lt, ol_eq, ne_eq, Int.not_lt, Int.not_le, Bool.not_eq_true, Bool.not_eq_false, Decidable.not_not, not_true_eq_false, not_false_eq_true, Bool.true_eq_false, Bool.false_eq_true] at y2) <;> (first | (exfalso; omega) | ((with_reducible refine hJ _ _ _ _ ?_); conv => whnf) | (conv => whnf))
          refine hJ _ _ _ _ ?_
          conv => whnf
          exact ⟨Or.inl rfl, h false σ4 o4 ((f12.tr (op_dy (by omega) (by omega) f3)).tr f4)⟩
        · conv => whnf
          refine ⟨fun y2 => ?_, fun y2 => ?_⟩ <;> (try simp (disch := omega) only [oi_le, oi_lt, oi_eq, oi_lt0, oi_le0, oi_0lt, oi_0le, oi_eq0, oi_eq1, bI_eq0, bI_ne0, bI_eq1, decide_eq_true_eq, decide_eq_false_iff_not, lc_lt, lc_gt, lc_eq, lc_ge, lc_le, ol_lt, ol_eq, ne_eq, Int.not_lt, Int.not_le, Bool.not_eq_true, Bool.not_eq_false, Decidable.not_not, not_true_eq_false, not_false_eq_true, Bool.true_eq_false, Bool.false_eq_true] at y2) <;> (first | (exfalso; omega) | ((with_reducible refine hJ _ _ _ _ ?_); conv => whnf) | (conv => whnf))
          refine hJ _ _ _ _ ?_
          conv => whnf
          exact ⟨Or.inr rfl, h true σ4 o4 ((f12.tr (op_dy (by omega) (by omega) f3)).tr f4)⟩
      · conv => whnf
        refine ⟨fun y1 => ?_, fun y1 => ?_⟩ <;> (try simp (disch := omega) only [oi_le, oi_lt, oi_eq, oi_lt0, oi_le0, oi_0lt, oi_0le, oi_eq0, oi_eq1, bI_eq0, bI_ne0, bI_eq1, decide_eq_true_eq, decide_eq_false_iff_not, lc_lt, lc_gt, lc_eq, lc_ge, lc_le, ol_lt, ol_eq, ne_eq, Int.not_lt, Int.not_le, Bool.not_eq_true, Bool.not_eq_false, Decidable.not_not, not_true_eq_false, not_false_eq_true, Bool.true_eq_false, Bool.false_eq_true] at y1) <;> (first | (exfalso; omega) | ((with_reducible refine hJ _ _ _ _ ?_); conv => whnf) | (conv => whnf))
        refine hJ _ _ _ _ ?_
        conv => whnf
        exact ⟨Or.inl rfl, h false σ3 o3 (f12.tr f3)⟩
    · exact dflt (by omega)
