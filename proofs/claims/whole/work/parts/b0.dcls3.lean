/-! the class reads a step: a test, an end -/
theorem StC.of {σ : AM} {p k : Nat} {x a v sg : Int} (h38 : σ.1 38 p k = Int32.ofInt (kdC x)) (h39 : (12 ≤ x ∧ x ≤ 14) ∨ (1600 ≤ x ∧ x ≤ 1621) → σ.1 39 p k = Int32.ofInt a) (h40 : x = 11 ∨ x = 17 → σ.1 40 p k = Int32.ofInt a) (h3 : x = 1608 ∨ x = 1622 → σ.1 40 p k = Int32.ofInt v ∧ σ.1 42 p k = Int32.ofInt sg) (h41 : 1600 ≤ x → σ.1 41 p k = Int32.ofInt (teC x)) : StC σ p k (stp x a v sg) := ⟨h38, h39, h40, h3, h41⟩
theorem CDy.tk {σ σ' : AM} {B : Nat → Int} {L p q f : Nat} {S : DZ} (h : CDy σ B L p q S) (hc : ChA tkS tkL σ σ') (ha : AC σ' B L f) : CDy σ' B L p q (f, S.2) := by
  obtain ⟨h1, h2, h3, h4, h5, h6, h7, h8, h9, h10, h11, h12⟩ := h
  refine ⟨ha, by rw [hc.2.2]; exact h2, h3, by rw [hc.2.2]; exact h4, h5, by rw [hc.1 _ _ _ (by unfold tkS; omega)]; exact h6, by rw [hc.1 _ _ _ (by unfold tkS; omega)]; exact h7, by rw [hc.1 _ _ _ (by unfold tkS; omega)]; exact h8, fun i hi => by rw [hc.1 _ _ _ (by unfold tkS; omega)]; exact h9 i hi, fun k hk => ⟨(h10 k hk).1.cg (fun t _ _ => hc.1 _ _ _ (by unfold tkS; omega)), fun z1 z2 => by rw [hc.1 _ _ _ (by unfold tkS; omega)]; exact (h10 k hk).2 z1 z2⟩, by rw [hc.1 _ _ _ (by unfold tkS; omega)]; exact h11, by rw [hc.1 _ _ _ (by unfold tkS; omega)]; exact h12⟩
theorem c_dsemi {CALL : CT} (hC : RuleAll CALL) {r : Nat} {σ : AM} {K : AV → AM → Prop} {B : Nat → Int} {L p q : Nat} {S : DZ} (hc : CDy σ B L p q S) (h : ∀ (b : Bool) (σ' : AM), OD σ' B L p q (dSemi B L S) b → ChA (dyS p) tkL σ σ' → K (.inl (bI b)) σ') : CALL (r + 3) n_Tape_skipSemicolon [.inr (.inr (3, 0))] σ K := by
  refine s_skipSemi hC hc.1 (fun z σ' k1 k2 => ?_) (fun z => ?_)
  · refine h true σ' ?_ (tk_dy k2)
    unfold dSemi
    rw [if_pos z]
    exact ⟨rfl, hc.tk k2 k1⟩
  · refine h false _ ?_ fC_dy
    unfold dSemi
    rw [if_neg z]
    exact OD.fl
theorem dCmp_y {B : Nat → Int} {L f : Nat} {k : Int → Nat → Rd} (z : kdT B L f = 4 ∧ vlT B L f ≠ 59) : dCmp B L f k = k (vlT B L f) (nxT B L f) := if_pos z
theorem dCmp_n {B : Nat → Int} {L f : Nat} {k : Int → Nat → Rd} (z : ¬ (kdT B L f = 4 ∧ vlT B L f ≠ 59)) : dCmp B L f k = dFl B L f 2 := if_neg z
theorem c_dtest {CALL : CT} (hC : RuleAll CALL) {r : Nat} {σ : AM} {K : AV → AM → Prop} {B : Nat → Int} {L p q f a b : Nat} {tn mn : Nat → List Nat} {S : DZ} {k : (Nat → Int) → Nat → Rd} (hc : CP σ B L p q S 1 f) (hn : HN σ q tn mn a b) (hs : S.2.1 < 60) (h38 : σ.1 38 p S.2.1 = Int32.ofInt 16) (h1 : ∀ (g : Nat → Int) (f' : Nat) (σ' : AM), CP σ' B L p q S 1 f' → StC σ' p S.2.1 g → ChA (dyS p) tkL σ σ' → dTest B L tn mn a b f k = k g f' → K (.inl (Int32.ofInt 1)) σ') (h2 : ∀ σ' : AM, OD σ' B L p q (dTest B L tn mn a b f k) false → ChA (dyS p) tkL σ σ' → K (.inl (Int32.ofInt 0)) σ') : CALL (r + 5) n_DaysReader_takesTest [.inr (.inr (7, 0)), .inl (Int32.ofInt (S.2.1 : Int))] σ K := by
  refine r_DaysReader_takesTest hC (fun J hJ => ?_)
  refine hJ _ _ _ _ ?_
  conv => whnf
  obtain ⟨c1, c2, c3, c4, c5, -⟩ := id hc
  have kb := kmC_bd2 B L f
  have kwb := kwT_bd B L f
  have t17 := kmC_eq (k := kwT B L f) kwb.1 kwb.2 (n := 20) (by omega)
  have t18 := kmC_eq (k := kwT B L f) kwb.1 kwb.2 (n := 21) (by omega)
  have t19 := kmC_eq (k := kwT B L f) kwb.1 kwb.2 (n := 22) (by omega)
  have t5 := kmC_eq (k := kwT B L f) kwb.1 kwb.2 (n := 8) (by omega)
  rw [show kmC ((20 : Nat) : Int) = 17 by decide] at t17
  rw [show kmC ((21 : Nat) : Int) = 18 by decide] at t18
  rw [show kmC ((22 : Nat) : Int) = 19 by decide] at t19
  rw [show kmC ((8 : Nat) : Int) = 5 by decide] at t5
  have e7 : σ.1 3 0 7 = Int32.ofInt (kmC (kwT B L f)) := c1.2.2.2.2.2.2.1
  rw [e7]
  have u20 : kwT B L f = 20 → dTest B L tn mn a b f k = dOld B L mn b (nxT B L f) (fun m g => k (stp 1620 (m : Int) 0 0) g) := fun z => by
    unfold dTest
    rw [if_neg (by omega), if_pos z]
  have u21 : kwT B L f = 21 → dTest B L tn mn a b f k = dOld B L tn a (nxT B L f) (fun m g => k (stp 1621 (m : Int) 0 0) g) := fun z => by
    unfold dTest
    rw [if_neg (by omega), if_neg (by omega), if_pos z]
  have u8 : kwT B L f = 8 → dTest B L tn mn a b f k = dOld B L mn b (nxT B L f) (fun m g => dCmp B L g (fun sg g2 => dNum B L 0 99 g2 (fun v g3 => k (stp 1608 (m : Int) v sg) g3))) := fun z => by
    unfold dTest
    rw [if_neg (by omega), if_neg (by omega), if_neg (by omega), if_pos z]
  have u22 : kwT B L f = 22 → dTest B L tn mn a b f k = dCmp B L (nxT B L f) (fun sg g2 => dNum B L 0 9999 g2 (fun v g3 => k (stp 1622 0 v sg) g3)) := fun z => by
    unfold dTest
    rw [if_neg (by omega), if_neg (by omega), if_neg (by omega), if_neg (by omega)]
  have at130 : ∀ (hi x : Int) (kk : Int → Int → Nat → Rd) (σ2 : AM) (f2 : Nat), (x = 5 ∧ hi = 99) ∨ (x = 19 ∧ hi = 9999) → CP σ2 B L p q S 1 f2 → (∀ (sg v : Int) (f' : Nat) (σ' : AM), CP σ' B L p q S 1 f' → σ'.1 40 p S.2.1 = Int32.ofInt v → σ'.1 42 p S.2.1 = Int32.ofInt sg → (∀ t, t = 38 ∨ t = 39 ∨ t = 41 → σ'.1 t p S.2.1 = σ2.1 t p S.2.1) → ChA (dyS p) tkL σ2 σ' → dCmp B L f2 (fun sg g2 => dNum B L 0 hi g2 (fun v g3 => kk sg v g3)) = kk sg v f' → K (.inl (Int32.ofInt 1)) σ') → (∀ σ' : AM, OD σ' B L p q (dCmp B L f2 (fun sg g2 => dNum B L 0 hi g2 (fun v g3 => kk sg v g3))) false → ChA (dyS p) tkL σ2 σ' → K (.inl (Int32.ofInt 0)) σ') → J 122 [.inr (.inr (7, 0)), .inl (Int32.ofInt (S.2.1 : Int)), .inl (Int32.ofInt x)] [] σ2 := by
    intro hi x kk σ2 f2 hx hc2 y1 y2
    refine hJ _ _ _ _ ?_
    conv => whnf
    refine ⟨fun d1 => ?_, fun d1 => ?_⟩ <;> (try simp (disch := omega) only [oi_le, oi_lt, oi_eq, oi_lt0, oi_le0, oi_0lt, oi_0le, oi_eq0, oi_eq1, bI_eq0, bI_ne0, bI_eq1, decide_eq_true_eq, decide_eq_false_iff_not, lc_lt, lc_gt, lc_eq, lc_ge, lc_le, ol_lt, ol_eq, ne_eq, Int.not_lt, Int.not_le, Bool.not_eq_true, Bool.not_eq_false, Decidable.not_not, not_true_eq_false, not_false_eq_true, Bool.true_eq_false, Bool.false_eq_true] at d1) <;> (first | (exfalso; omega) | ((with_reducible refine hJ _ _ _ _ ?_); conv => whnf) | (conv => whnf))
    rw [hc2.2.1]
    refine ⟨c3, ?_⟩
    conv => whnf
    refine s_takeCmp hC hc2.1 (fun z σ3 k1 k2 => ?_) (fun z => ?_)
    · have vb := (vlT_bd hc2.1.2.1 hc2.1.2.2.2.1).2 z.1
      conv => whnf
      refine ⟨(oi_in (by omega) (by omega)).mpr ⟨by omega, by omega⟩, ?_⟩
      conv => whnf
      rw [oi_nat (by omega) (by omega), Int.toNat_natCast]
      have hc3 := hc2.tk k2 k1
      have hc4 := hc3.w (t0 := 42) (x := Int32.ofInt (vlT B L f2)) (by omega) (by omega)
      rw [hc4.2.1]
      refine ⟨c3, ?_⟩
      conv => whnf
      refine ⟨(oi_in (by omega) (by omega)).mpr ⟨by omega, by omega⟩, ?_⟩
      conv => whnf
      rw [oi_nat (by omega) (by omega), Int.toNat_natCast, wI_16]
      have f4 : ChA (dyS p) tkL σ2 (wI σ3 42 p S.2.1 (Int32.ofInt (vlT B L f2))) := (tk_dy k2).tr (op_dy (by omega) (by omega) w_op)
      have n4 : ∀ t, t = 38 ∨ t = 39 ∨ t = 41 → (wI σ3 42 p S.2.1 (Int32.ofInt (vlT B L f2))).1 t p S.2.1 = σ2.1 t p S.2.1 := fun t ht => by
        rw [wI1, if_neg (by omega), k2.1 _ _ _ (by unfold tkS; omega)]
      have s4 : (wI σ3 42 p S.2.1 (Int32.ofInt (vlT B L f2))).1 42 p S.2.1 = Int32.ofInt (vlT B L f2) := wI_16
      rw [dCmp_y z] at y1 y2
      revert hc4 f4 n4 s4
      generalize wI σ3 42 p S.2.1 (Int32.ofInt (vlT B L f2)) = τ
      intro hc4 f4 n4 s4
      have fin : J 177 [.inr (.inr (7, 0)), .inl (Int32.ofInt (S.2.1 : Int)), .inl (Int32.ofInt x)] [.inl (Int32.ofInt hi), .inl (Int32.ofInt 0), .inl (Int32.ofInt (S.2.1 : Int)), .inr (.inr (7, 0))] τ := by
        refine hJ _ _ _ _ ?_
        conv => whnf
        refine c_dnum hC (k := fun v g3 => kk (vlT B L f2) v g3) hc4 (by omega) (by omega) (by omega) (by omega) hs (fun v σ5 hc5 v1 v2 e40 f5 e5 => ?_) (fun σ5 o5 f5 => ?_)
        · conv => whnf
          refine ⟨Or.inr rfl, y1 _ v _ σ5 hc5 e40 ?_ (fun t ht => ?_) (f4.tr (op_dy (by omega) (by omega) f5)) e5⟩
          · rw [f5.1 _ _ _ (by unfold opS tkS; omega)]; exact s4
          · rw [f5.1 _ _ _ (by unfold opS tkS; omega)]; exact n4 t ht
        · conv => whnf
          exact ⟨Or.inl rfl, y2 _ o5 (f4.tr f5)⟩
      refine ⟨fun d2 => ?_, fun d2 => ?_⟩ <;> (try simp (disch := omega) only [oi_le, oi_lt, oi_eq, oi_lt0, oi_le0, oi_0lt, oi_0le, oi_eq0, oi_eq1, bI_eq0, bI_ne0, bI_eq1, decide_eq_true_eq, decide_eq_false_iff_not, lc_lt, lc_gt, lc_eq, lc_ge, lc_le, ol_lt, ol_eq, ne_eq, Int.not_lt, Int.not_le, Bool.not_eq_true, Bool.not_eq_false, Decidable.not_not, not_true_eq_false, not_false_eq_true, Bool.true_eq_false, Bool.false_eq_true] at d2) <;> (first | (exfalso; omega) | ((with_reducible refine hJ _ _ _ _ ?_); conv => whnf) | (conv => whnf))
      refine ⟨fun d3 => ?_, fun d3 => ?_⟩ <;> (try simp (disch := omega) only [oi_le, oi_lt, oi_eq, oi_lt0, oi_le0, oi_0lt, oi_0le, oi_eq0, oi_eq1, bI_eq0, bI_ne0, bI_eq1, decide_eq_true_eq, decide_eq_false_iff_not, lc_lt, lc_gt, lc_eq, lc_ge, lc_le, ol_lt, ol_eq, ne_eq, Int.not_lt, Int.not_le, Bool.not_eq_true, Bool.not_eq_false, Decidable.not_not, not_true_eq_false, not_false_eq_true, Bool.true_eq_false, Bool.false_eq_true] at d3) <;> (first | (exfalso; omega) | ((with_reducible refine hJ _ _ _ _ ?_); conv => whnf) | (conv => whnf))
      · have : hi = 9999 := by omega
        subst this
        exact fin
      · have : hi = 99 := by omega
        subst this
        exact fin
    · conv => whnf
      refine ⟨(oi_in (by omega) (by omega)).mpr ⟨by omega, by omega⟩, ?_⟩
      conv => whnf
      rw [oi_nat (by omega) (by omega), Int.toNat_natCast, show (wI (fC σ2 B L f2 2) 42 p S.2.1 (Int32.ofInt (-1))).2.2 7 0 3 = p from hc2.2.1]
      refine ⟨c3, ?_⟩
      conv => whnf
      refine ⟨(oi_in (by omega) (by omega)).mpr ⟨by omega, by omega⟩, ?_⟩
      conv => whnf
      rw [oi_nat (by omega) (by omega), Int.toNat_natCast, wI_16]
      refine ⟨fun d2 => ?_, fun d2 => ?_⟩ <;> (try simp (disch := omega) only [oi_le, oi_lt, oi_eq, oi_lt0, oi_le0, oi_0lt, oi_0le, oi_eq0, oi_eq1, bI_eq0, bI_ne0, bI_eq1, decide_eq_true_eq, decide_eq_false_iff_not, lc_lt, lc_gt, lc_eq, lc_ge, lc_le, ol_lt, ol_eq, ne_eq, Int.not_lt, Int.not_le, Bool.not_eq_true, Bool.not_eq_false, Decidable.not_not, not_true_eq_false, not_false_eq_true, Bool.true_eq_false, Bool.false_eq_true] at d2) <;> (first | (exfalso; omega) | ((with_reducible refine hJ _ _ _ _ ?_); conv => whnf) | (conv => whnf))
      rw [dCmp_n z] at y2
      refine ⟨Or.inl rfl, y2 _ ⟨rfl, ?_, ?_⟩ (fC_dy.tr (op_dy (by omega) (by omega) w_op))⟩
      · rw [wI1, if_neg (by omega)]; exact (OD.fl (p := p) (q := q)).2.1
      · rw [wI1, if_neg (by omega)]; exact (OD.fl (p := p) (q := q)).2.2
  have go40 : kwT B L f = 8 ∨ 20 ≤ kwT B L f → J 40 [.inr (.inr (7, 0)), .inl (Int32.ofInt (S.2.1 : Int)), .inl (Int32.ofInt (kmC (kwT B L f)))] [] σ := by
    intro hx
    refine hJ _ _ _ _ ?_
    conv => whnf
    rw [c2]
    refine ⟨c3, ?_⟩
    conv => whnf
    refine ⟨(oi_in (by omega) (by omega)).mpr ⟨by omega, by omega⟩, ?_⟩
    conv => whnf
    rw [oi_nat (by omega) (by omega), Int.toNat_natCast]
    have hc0 := hc.w (t0 := 41) (x := Int32.ofInt (kmC (kwT B L f))) (by omega) (by omega)
    refine s_adv hC hc0.1 (fun σ1 a1 f1 => ?_)
    conv => whnf
    have hc1 := hc0.tk f1 a1
    have f01 : ChA (dyS p) tkL σ σ1 := (op_dy (by omega) (by omega) w_op).tr (tk_dy f1)
    have hn1 := hn.cha f01
    have e41 : σ1.1 41 p S.2.1 = Int32.ofInt (kmC (kwT B L f)) := by rw [f1.1 _ _ _ (by unfold tkS; omega), wI_16]
    have e38 : σ1.1 38 p S.2.1 = Int32.ofInt 16 := by rw [f1.1 _ _ _ (by unfold tkS; omega), wI1, if_neg (by omega)]; exact h38
    refine ⟨fun d1 => ?_, fun d1 => ?_⟩ <;> (try simp (disch := omega) only [oi_le, oi_lt, oi_eq, oi_lt0, oi_le0, oi_0lt, oi_0le, oi_eq0, oi_eq1, bI_eq0, bI_ne0, bI_eq1, decide_eq_true_eq, decide_eq_false_iff_not, lc_lt, lc_gt, lc_eq, lc_ge, lc_le, ol_lt, ol_eq, ne_eq, Int.not_lt, Int.not_le, Bool.not_eq_true, Bool.not_eq_false, Decidable.not_not, not_true_eq_false, not_false_eq_true, Bool.true_eq_false, Bool.false_eq_true] at d1) <;> (first | (exfalso; omega) | ((with_reducible refine hJ _ _ _ _ ?_); conv => whnf) | (conv => whnf))
    · refine ⟨fun d2 => ?_, fun d2 => ?_⟩ <;> (try simp (disch := omega) only [oi_le, oi_lt, oi_eq, oi_lt0, oi_le0, oi_0lt, oi_0le, oi_eq0, oi_eq1, bI_eq0, bI_ne0, bI_eq1, decide_eq_true_eq, decide_eq_false_iff_not, lc_lt, lc_gt, lc_eq, lc_ge, lc_le, ol_lt, ol_eq, ne_eq, Int.not_lt, Int.not_le, Bool.not_eq_true, Bool.not_eq_false, Decidable.not_not, not_true_eq_false, not_false_eq_true, Bool.true_eq_false, Bool.false_eq_true] at d2) <;> (first | (exfalso; omega) | ((fail_if_success with_reducible refine hJ _ _ _ _ ?_); conv => whnf) | skip)
      · have z : kwT B L f = 22 := by omega
        rw [u22 z] at h1 h2
        refine at130 9999 (kmC (kwT B L f)) (fun sg v g3 => k (stp 1622 0 v sg) g3) σ1 (nxT B L f) (Or.inr ⟨d2, rfl⟩) hc1 (fun sg v f' σ' w1 w2 w3 w4 w5 w6 => ?_) (fun σ' w1 w2 => h2 σ' w1 (f01.tr w2))
        refine h1 (stp 1622 0 v sg) f' σ' w1 (StC.of (by rw [w4 38 (by omega), e38]; rfl) (fun y => by omega) (fun y => by omega) (fun _ => ⟨w2, w3⟩) (fun _ => ?_)) (f01.tr w5) w6
        rw [w4 41 (by omega), e41, d2]; rfl
      · rcases (show kwT B L f = 20 ∨ kwT B L f = 8 by omega) with z | z
        · rw [u20 z] at h1 h2
          refine c_dmonk hC (k := fun m g => k (stp 1620 (m : Int) 0 0) g) hc1 hn1 hs (fun m σ2 hc2 m1 e39 f2 e2 => ?_) (fun σ2 o2 f2 => ?_)
          · conv => whnf
            refine ⟨fun d3 => ?_, fun d3 => ?_⟩ <;> (try simp (disch := omega) only [oi_le, oi_lt, oi_eq, oi_lt0, oi_le0, oi_0lt, oi_0le, oi_eq0, oi_eq1, bI_eq0, bI_ne0, bI_eq1, decide_eq_true_eq, decide_eq_false_iff_not, lc_lt, lc_gt, lc_eq, lc_ge, lc_le, ol_lt, ol_eq, ne_eq, Int.not_lt, Int.not_le, Bool.not_eq_true, Bool.not_eq_false, Decidable.not_not, not_true_eq_false, not_false_eq_true, Bool.true_eq_false, Bool.false_eq_true] at d3) <;> (first | (exfalso; omega) | ((with_reducible refine hJ _ _ _ _ ?_); conv => whnf) | (conv => whnf))
            refine ⟨fun d4 => ?_, fun d4 => ?_⟩ <;> (try simp (disch := omega) only [oi_le, oi_lt, oi_eq, oi_lt0, oi_le0, oi_0lt, oi_0le, oi_eq0, oi_eq1, bI_eq0, bI_ne0, bI_eq1, decide_eq_true_eq, decide_eq_false_iff_not, lc_lt, lc_gt, lc_eq, lc_ge, lc_le, ol_lt, ol_eq, ne_eq, Int.not_lt, Int.not_le, Bool.not_eq_true, Bool.not_eq_false, Decidable.not_not, not_true_eq_false, not_false_eq_true, Bool.true_eq_false, Bool.false_eq_true] at d4) <;> (first | (exfalso; omega) | ((with_reducible refine hJ _ _ _ _ ?_); conv => whnf) | (conv => whnf))
            refine ⟨Or.inr rfl, h1 (stp 1620 (m : Int) 0 0) _ σ2 hc2 (StC.of ?_ (fun _ => e39) (fun y => by omega) (fun y => by omega) (fun _ => ?_)) (f01.tr (op_dy (by omega) (by omega) f2)) e2⟩
            · rw [f2.1 _ _ _ (by unfold opS tkS; omega), e38]; rfl
            · rw [f2.1 _ _ _ (by unfold opS tkS; omega), e41, t17.mpr (by omega)]; rfl
          · conv => whnf
            refine ⟨fun d3 => ?_, fun d3 => ?_⟩ <;> (try simp (disch := omega) only [oi_le, oi_lt, oi_eq, oi_lt0, oi_le0, oi_0lt, oi_0le, oi_eq0, oi_eq1, bI_eq0, bI_ne0, bI_eq1, decide_eq_true_eq, decide_eq_false_iff_not, lc_lt, lc_gt, lc_eq, lc_ge, lc_le, ol_lt, ol_eq, ne_eq, Int.not_lt, Int.not_le, Bool.not_eq_true, Bool.not_eq_false, Decidable.not_not, not_true_eq_false, not_false_eq_true, Bool.true_eq_false, Bool.false_eq_true] at d3) <;> (first | (exfalso; omega) | ((with_reducible refine hJ _ _ _ _ ?_); conv => whnf) | (conv => whnf))
            exact ⟨Or.inl rfl, h2 σ2 o2 (f01.tr f2)⟩
        · rw [u8 z] at h1 h2
          refine c_dmonk hC (k := fun m g => dCmp B L g (fun sg g2 => dNum B L 0 99 g2 (fun v g3 => k (stp 1608 (m : Int) v sg) g3))) hc1 hn1 hs (fun m σ2 hc2 m1 e39 f2 e2 => ?_) (fun σ2 o2 f2 => ?_)
          · conv => whnf
            refine ⟨fun d3 => ?_, fun d3 => ?_⟩ <;> (try simp (disch := omega) only [oi_le, oi_lt, oi_eq, oi_lt0, oi_le0, oi_0lt, oi_0le, oi_eq0, oi_eq1, bI_eq0, bI_ne0, bI_eq1, decide_eq_true_eq, decide_eq_false_iff_not, lc_lt, lc_gt, lc_eq, lc_ge, lc_le, ol_lt, ol_eq, ne_eq, Int.not_lt, Int.not_le, Bool.not_eq_true, Bool.not_eq_false, Decidable.not_not, not_true_eq_false, not_false_eq_true, Bool.true_eq_false, Bool.false_eq_true] at d3) <;> (first | (exfalso; omega) | ((fail_if_success with_reducible refine hJ _ _ _ _ ?_); conv => whnf) | skip)
            rw [e2] at h1 h2
            refine at130 99 (kmC (kwT B L f)) (fun sg v g3 => k (stp 1608 (m : Int) v sg) g3) σ2 _ (Or.inl ⟨by omega, rfl⟩) hc2 (fun sg v f' σ' w1 w2 w3 w4 w5 w6 => ?_) (fun σ' w1 w2 => h2 σ' w1 ((f01.tr (op_dy (by omega) (by omega) f2)).tr w2))
            refine h1 (stp 1608 (m : Int) v sg) f' σ' w1 (StC.of ?_ (fun _ => by rw [w4 39 (by omega)]; exact e39) (fun y => by omega) (fun _ => ⟨w2, w3⟩) (fun _ => ?_)) ((f01.tr (op_dy (by omega) (by omega) f2)).tr w5) w6
            · rw [w4 38 (by omega), f2.1 _ _ _ (by unfold opS tkS; omega), e38]; rfl
            · rw [w4 41 (by omega), f2.1 _ _ _ (by unfold opS tkS; omega), e41, t5.mpr (by omega)]; rfl
          · conv => whnf
            refine ⟨fun d3 => ?_, fun d3 => ?_⟩ <;> (try simp (disch := omega) only [oi_le, oi_lt, oi_eq, oi_lt0, oi_le0, oi_0lt, oi_0le, oi_eq0, oi_eq1, bI_eq0, bI_ne0, bI_eq1, decide_eq_true_eq, decide_eq_false_iff_not, lc_lt, lc_gt, lc_eq, lc_ge, lc_le, ol_lt, ol_eq, ne_eq, Int.not_lt, Int.not_le, Bool.not_eq_true, Bool.not_eq_false, Decidable.not_not, not_true_eq_false, not_false_eq_true, Bool.true_eq_false, Bool.false_eq_true] at d3) <;> (first | (exfalso; omega) | ((with_reducible refine hJ _ _ _ _ ?_); conv => whnf) | (conv => whnf))
            exact ⟨Or.inl rfl, h2 σ2 o2 (f01.tr f2)⟩
    · have z : kwT B L f = 21 := by omega
      rw [u21 z] at h1 h2
      rw [hc1.2.1]
      refine ⟨c3, ?_⟩
      conv => whnf
      rw [hc1.2.2.2.1]
      refine ⟨c5, ?_⟩
      conv => whnf
      refine c_dtf hC hc1.1 hn1 (fun x x1 x2 x3 => ?_)
      conv => whnf
      refine ⟨(oi_in (by omega) (by omega)).mpr ⟨by omega, by omega⟩, ?_⟩
      conv => whnf
      rw [oi_nat (by omega) (by omega), Int.toNat_natCast, show (wI σ1 39 p S.2.1 (Int32.ofInt x)).2.2 7 0 3 = p from hc1.2.1]
      refine ⟨c3, ?_⟩
      conv => whnf
      refine ⟨(oi_in (by omega) (by omega)).mpr ⟨by omega, by omega⟩, ?_⟩
      conv => whnf
      rw [oi_nat (by omega) (by omega), Int.toNat_natCast, wI_16]
      have hc2 := hc1.w (t0 := 39) (x := Int32.ofInt x) (by omega) (by omega)
      refine c_dold hC (p := p) (q := q) (k := fun m g => k (stp 1621 (m : Int) 0 0) g) hc2.1 x1 x2 x3 (fun t σ' y1 y2 a2 f2 e2 => ?_) (fun σ' o2 f2 => ?_)
      · conv => whnf
        refine ⟨Or.inr rfl, h1 (stp 1621 (t : Int) 0 0) _ σ' (hc2.tk f2 a2) (StC.of ?_ (fun _ => ?_) (fun y => by omega) (fun y => by omega) (fun _ => ?_)) (f01.tr ((op_dy (by omega) (by omega) w_op).tr (tk_dy f2))) e2⟩
        · rw [f2.1 _ _ _ (by unfold tkS; omega), wI1, if_neg (by omega), e38]; rfl
        · rw [f2.1 _ _ _ (by unfold tkS; omega), wI_16, y2]
        · rw [f2.1 _ _ _ (by unfold tkS; omega), wI1, if_neg (by omega), e41, t18.mpr (by omega)]; rfl
      · conv => whnf
        exact ⟨Or.inl rfl, h2 σ' o2 (f01.tr ((op_dy (by omega) (by omega) w_op).tr f2))⟩
  refine ⟨fun c6 => ?_, fun c6 => ?_⟩ <;> (try simp (disch := omega) only [oi_le, oi_lt, oi_eq, oi_lt0, oi_le0, oi_0lt, oi_0le, oi_eq0, oi_eq1, bI_eq0, bI_ne0, bI_eq1, decide_eq_true_eq, decide_eq_false_iff_not, lc_lt, lc_gt, lc_eq, lc_ge, lc_le, ol_lt, ol_eq, ne_eq, Int.not_lt, Int.not_le, Bool.not_eq_true, Bool.not_eq_false, Decidable.not_not, not_true_eq_false, not_false_eq_true, Bool.true_eq_false, Bool.false_eq_true] at c6) <;> (first | (exfalso; omega) | ((fail_if_success with_reducible refine hJ _ _ _ _ ?_); conv => whnf) | skip)
  · exact go40 (by omega)
  refine ⟨fun c7 => ?_, fun c7 => ?_⟩ <;> (try simp (disch := omega) only [oi_le, oi_lt, oi_eq, oi_lt0, oi_le0, oi_0lt, oi_0le, oi_eq0, oi_eq1, bI_eq0, bI_ne0, bI_eq1, decide_eq_true_eq, decide_eq_false_iff_not, lc_lt, lc_gt, lc_eq, lc_ge, lc_le, ol_lt, ol_eq, ne_eq, Int.not_lt, Int.not_le, Bool.not_eq_true, Bool.not_eq_false, Decidable.not_not, not_true_eq_false, not_false_eq_true, Bool.true_eq_false, Bool.false_eq_true] at c7) <;> (first | (exfalso; omega) | ((fail_if_success with_reducible refine hJ _ _ _ _ ?_); conv => whnf) | skip)
  · exact go40 (by omega)
  refine ⟨fun c8 => ?_, fun c8 => ?_⟩ <;> (try simp (disch := omega) only [oi_le, oi_lt, oi_eq, oi_lt0, oi_le0, oi_0lt, oi_0le, oi_eq0, oi_eq1, bI_eq0, bI_ne0, bI_eq1, decide_eq_true_eq, decide_eq_false_iff_not, lc_lt, lc_gt, lc_eq, lc_ge, lc_le, ol_lt, ol_eq, ne_eq, Int.not_lt, Int.not_le, Bool.not_eq_true, Bool.not_eq_false, Decidable.not_not, not_true_eq_false, not_false_eq_true, Bool.true_eq_false, Bool.false_eq_true] at c8) <;> (first | (exfalso; omega) | ((fail_if_success with_reducible refine hJ _ _ _ _ ?_); conv => whnf) | skip)
  · exact go40 (by omega)
  refine ⟨fun c9 => ?_, fun c9 => ?_⟩ <;> (try simp (disch := omega) only [oi_le, oi_lt, oi_eq, oi_lt0, oi_le0, oi_0lt, oi_0le, oi_eq0, oi_eq1, bI_eq0, bI_ne0, bI_eq1, decide_eq_true_eq, decide_eq_false_iff_not, lc_lt, lc_gt, lc_eq, lc_ge, lc_le, ol_lt, ol_eq, ne_eq, Int.not_lt, Int.not_le, Bool.not_eq_true, Bool.not_eq_false, Decidable.not_not, not_true_eq_false, not_false_eq_true, Bool.true_eq_false, Bool.false_eq_true] at c9) <;> (first | (exfalso; omega) | ((fail_if_success with_reducible refine hJ _ _ _ _ ?_); conv => whnf) | skip)
  · exact go40 (by omega)
  refine s_fail hC c1.2.2.2 ?_
  conv => whnf
  refine ⟨Or.inl rfl, h2 _ ?_ fC_dy⟩
  rw [show dTest B L tn mn a b f k = dFl B L f 2 from if_pos (by omega)]
  exact OD.fl
