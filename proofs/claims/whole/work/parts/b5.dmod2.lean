theorem MP.cg {σ : AM} {B : Nat → Int} {L f nn : Nat} {S : DZ} {g g' : Nat → Int} (h : MP σ B L S nn g f) (e : ∀ j, j < 6 → g j = g' j) : MP σ B L S nn g' f := by
  obtain ⟨h1, h2, h3, h4, h5, h6, h7, h8⟩ := h
  exact ⟨h1, h2, h3, h4, h5, h6, fun j hj => by rw [← e j hj]; exact h7 j hj, h8⟩
theorem lt6 {P : Nat → Prop} (h0 : P 0) (h1 : P 1) (h2 : P 2) (h3 : P 3) (h4 : P 4) (h5 : P 5) : ∀ j, j < 6 → P j
  | 0, _ => h0
  | 1, _ => h1
  | 2, _ => h2
  | 3, _ => h3
  | 4, _ => h4
  | 5, _ => h5
  | n + 6, h => absurd h (by omega)
theorem m_dtest {CALL : CT} (hC : RuleAll CALL) {r : Nat} {σ : AM} {K : AV → AM → Prop} {B : Nat → Int} {L f a b nn : Nat} {S : DZ} {x : Int} {tn mn : Nat → List Nat} {k : (Nat → Int) → Nat → Rd} (hm : MP σ B L S nn (stp 16 0 0 0) f) (hn : HM σ tn mn a b) (hx : x = 1957 + 6 * (S.2.1 : Int)) (hs : S.2.1 < 60) (h1 : ∀ (g : Nat → Int) (f' : Nat) (σ' : AM), MP σ' B L S nn g f' → Ch dmT σ σ' → dTest B L tn mn a b f k = k g f' → K (.inl (Int32.ofInt 1)) σ') (h2 : ∀ σ' : AM, Om σ' B L (dTest B L tn mn a b f k) false → Ch dmT σ σ' → K (.inl (Int32.ofInt 0)) σ') : CALL (r + 6) n_m_test [.inr (.inr (46, 0)), .inl (Int32.ofInt x)] σ K := by
  refine r_m_test hC (fun J hJ => ?_)
  refine hJ _ _ _ _ ?_
  conv => whnf
  have kwb := kwT_bd B L f
  have u20 : kwT B L f = 20 → dTest B L tn mn a b f k = dOld B L mn b (nxT B L f) (fun m g => k (stp 1620 (m : Int) 0 0) g) := fun z => by
    unfold dTest
    rw [if_neg (by omega), if_pos z]
  have u21 : kwT B L f = 21 → dTest B L tn mn a b f k = dOld B L tn a (nxT B L f) (fun m g => k (stp 1621 (m : Int) 0 0) g) := fun z => by
    unfold dTest
    rw [if_neg (by omega), if_neg (by omega), if_pos z]
  have u8 : kwT B L f = 8 → dTest B L tn mn a b f k = dOld B L mn b (nxT B L f) (fun m g => dCmp B L g (fun sg g2 => dNum B L 0 99 g2 (fun v g3 => k (stp 1608 (m : Int) v sg) g3))) := fun z => by
    unfold dTest
    rw [if_neg (by omega), if_neg (by omega), if_neg (by omega), if_pos z]
  have u22 : kwT B L f = 22 → dTest B L tn mn a b f k = dCmp B L (nxT B L f) (fun sg g2 => dNum B L 0 9999 g2 (fun v g3 => k (stp 1622 0 v sg) g3)) := fun z => by
    unfold dTest
    rw [if_neg (by omega), if_neg (by omega), if_neg (by omega), if_neg (by omega)]
  have at93 : ∀ (hi : Int) (kk : Int → Int → Nat → Rd) (g2 : Nat → Int) (f2 : Nat) (σ2 : AM), (kwT B L f = 8 ∧ hi = 99) ∨ (kwT B L f = 22 ∧ hi = 9999) → MP σ2 B L S nn g2 f2 → (∀ (sg v : Int) (f' : Nat) (σ' : AM), MP σ' B L S nn (up (up g2 5 sg) 2 v) f' → Ch dmT σ2 σ' → dCmp B L f2 (fun sg g2 => dNum B L 0 hi g2 (fun v g3 => kk sg v g3)) = kk sg v f' → K (.inl (Int32.ofInt 1)) σ') → (∀ σ' : AM, Om σ' B L (dCmp B L f2 (fun sg g2 => dNum B L 0 hi g2 (fun v g3 => kk sg v g3))) false → Ch dmT σ2 σ' → K (.inl (Int32.ofInt 0)) σ') → J 93 [.inr (.inr (46, 0)), .inl (Int32.ofInt x), .inl (Int32.ofInt (kwT B L f))] [] σ2 := by
    intro hi kk g2 f2 σ2 hx2 hm2 y1 y2
    have vb := vlT_bd hm2.1.2.1 hm2.1.2.2.1.1
    have at126 : kdT B L f2 = 4 → vlT B L f2 ≠ 59 → J 126 [.inr (.inr (46, 0)), .inl (Int32.ofInt x), .inl (Int32.ofInt (kwT B L f))] [] σ2 := by
      intro d1 d2
      rw [dCmp_y ⟨d1, d2⟩] at y1 y2
      have fin : ∀ τ : AM, MP τ B L S nn (up g2 5 (vlT B L f2)) (nxT B L f2) → Ch dmT σ2 τ → J 161 [.inr (.inr (46, 0)), .inl (Int32.ofInt x), .inl (Int32.ofInt (kwT B L f))] [.inl (Int32.ofInt hi), .inl (Int32.ofInt 0), .inl (Int32.ofInt (x + 2)), .inr (.inr (46, 0))] τ := by
        intro τ hm3 f3
        refine hJ _ _ _ _ ?_
        conv => whnf
        refine m_dnum hC (i := 2) (k := fun v g3 => kk (vlT B L f2) v g3) hm3 (by omega) (by omega) hs (by omega) (by omega) (by omega) (by omega) (fun v σ5 hm5 f5 e5 => ?_) (fun σ5 o5 f5 => ?_)
        · conv => whnf
          exact ⟨Or.inr rfl, y1 _ v _ σ5 hm5 (f3.tr f5) e5⟩
        · conv => whnf
          exact ⟨Or.inl rfl, y2 _ o5 (f3.tr f5)⟩
      refine hJ _ _ _ _ ?_
      conv => whnf
      rw [oi_add, hm2.1.2.2.1.2.2.2.1 (Or.inr d1)]
      refine ⟨(oi_in (by omega) (by omega)).mpr ⟨by omega, by omega⟩, ?_⟩
      conv => whnf
      rw [oi_nat (by omega) (by omega), show (x + 5).toNat = 1957 + 6 * S.2.1 + 5 by omega]
      have hm3 := hm2.w (i := 5) (v := vlT B L f2) (by omega)
      refine s_m_adv hC hm3.1 (fun σ4 k1 k2 => ?_)
      conv => whnf
      rw [oi_add]
      have f4 : Ch dmT σ2 σ4 := (Ch.wI (Or.inr (Or.inl ⟨rfl, rfl, by omega, by omega⟩))).tr (tm_dm k2)
      refine ⟨fun d3 => ?_, fun d3 => ?_⟩ <;> (try simp (disch := omega) only [oi_le, oi_lt, oi_eq, oi_lt0, oi_le0, oi_0lt, oi_0le, oi_eq0, oi_eq1, bI_eq0, bI_ne0, bI_eq1, decide_eq_true_eq, decide_eq_false_iff_not, lc_lt, lc_gt, lc_eq, lc_ge, lc_le, ol_lt, ol_eq, ne_eq, Int.not_lt, Int.not_le, Bool.not_eq_true, Bool.not_eq_false, Decidable.not_not, not_true_eq_false, not_false_eq_true, Bool.true_eq_false, Bool.false_eq_true] at d3) <;> (first | (exfalso; omega) | ((with_reducible refine hJ _ _ _ _ ?_); conv => whnf) | (conv => whnf))
      · have : hi = 9999 := by omega
        subst this
        exact fin σ4 (hm3.tk k2 k1) f4
      · have : hi = 99 := by omega
        subst this
        exact fin σ4 (hm3.tk k2 k1) f4
    refine hJ _ _ _ _ ?_
    conv => whnf
    refine s_m_isSign hC hm2.1 (by omega) (by omega) ?_
    conv => whnf
    refine ⟨fun d1 => ?_, fun d1 => ?_⟩ <;> (try simp (disch := omega) only [oi_le, oi_lt, oi_eq, oi_lt0, oi_le0, oi_0lt, oi_0le, oi_eq0, oi_eq1, bI_eq0, bI_ne0, bI_eq1, decide_eq_true_eq, decide_eq_false_iff_not, lc_lt, lc_gt, lc_eq, lc_ge, lc_le, ol_lt, ol_eq, ne_eq, Int.not_lt, Int.not_le, Bool.not_eq_true, Bool.not_eq_false, Decidable.not_not, not_true_eq_false, not_false_eq_true, Bool.true_eq_false, Bool.false_eq_true] at d1) <;> (first | (exfalso; omega) | ((fail_if_success with_reducible refine hJ _ _ _ _ ?_); conv => whnf) | skip)
    · exact at126 d1.1 (by omega)
    refine s_m_isSign hC hm2.1 (by omega) (by omega) ?_
    conv => whnf
    refine ⟨fun d2 => ?_, fun d2 => ?_⟩ <;> (try simp (disch := omega) only [oi_le, oi_lt, oi_eq, oi_lt0, oi_le0, oi_0lt, oi_0le, oi_eq0, oi_eq1, bI_eq0, bI_ne0, bI_eq1, decide_eq_true_eq, decide_eq_false_iff_not, lc_lt, lc_gt, lc_eq, lc_ge, lc_le, ol_lt, ol_eq, ne_eq, Int.not_lt, Int.not_le, Bool.not_eq_true, Bool.not_eq_false, Decidable.not_not, not_true_eq_false, not_false_eq_true, Bool.true_eq_false, Bool.false_eq_true] at d2) <;> (first | (exfalso; omega) | ((fail_if_success with_reducible refine hJ _ _ _ _ ?_); conv => whnf) | skip)
    · exact at126 d2.1 (by omega)
    refine s_m_isSign hC hm2.1 (by omega) (by omega) ?_
    conv => whnf
    refine ⟨fun d3 => ?_, fun d3 => ?_⟩ <;> (try simp (disch := omega) only [oi_le, oi_lt, oi_eq, oi_lt0, oi_le0, oi_0lt, oi_0le, oi_eq0, oi_eq1, bI_eq0, bI_ne0, bI_eq1, decide_eq_true_eq, decide_eq_false_iff_not, lc_lt, lc_gt, lc_eq, lc_ge, lc_le, ol_lt, ol_eq, ne_eq, Int.not_lt, Int.not_le, Bool.not_eq_true, Bool.not_eq_false, Decidable.not_not, not_true_eq_false, not_false_eq_true, Bool.true_eq_false, Bool.false_eq_true] at d3) <;> (first | (exfalso; omega) | ((fail_if_success with_reducible refine hJ _ _ _ _ ?_); conv => whnf) | skip)
    · exact at126 d3.1 (by omega)
    have no : ¬ (kdT B L f2 = 4 ∧ vlT B L f2 ≠ 59) := fun y => by
      have := vb.2 y.1
      omega
    rw [dCmp_n no] at y2
    refine s_m_fails hC hm2.1.2.2.1 hm2.1.2.2.2 ?_
    conv => whnf
    exact ⟨Or.inl rfl, y2 _ (Om.fl (by omega) (by omega)) fM_dm⟩
  have go25 : kwT B L f = 8 ∨ 20 ≤ kwT B L f → J 25 [.inr (.inr (46, 0)), .inl (Int32.ofInt x), .inl (Int32.ofInt (kwT B L f))] [] σ := by
    intro hk
    refine hJ _ _ _ _ ?_
    conv => whnf
    rw [oi_add]
    refine ⟨(oi_in (by omega) (by omega)).mpr ⟨by omega, by omega⟩, ?_⟩
    conv => whnf
    rw [oi_nat (by omega) (by omega), show x.toNat = 1957 + 6 * S.2.1 by omega]
    have hm0 : MP (wI σ 47 0 (1957 + 6 * S.2.1) (Int32.ofInt (1600 + kwT B L f))) B L S nn (up (stp 16 0 0 0) 0 (1600 + kwT B L f)) f := hm.w (i := 0) (by omega)
    refine s_m_adv hC hm0.1 (fun σ1 k1 k2 => ?_)
    conv => whnf
    have hm1 := hm0.tk k2 k1
    have f1 : Ch dmT σ σ1 := (Ch.wI (Or.inr (Or.inl ⟨rfl, rfl, by omega, by omega⟩))).tr (tm_dm k2)
    have hn1 := hn.ch f1
    refine ⟨fun d1 => ?_, fun d1 => ?_⟩ <;> (try simp (disch := omega) only [oi_le, oi_lt, oi_eq, oi_lt0, oi_le0, oi_0lt, oi_0le, oi_eq0, oi_eq1, bI_eq0, bI_ne0, bI_eq1, decide_eq_true_eq, decide_eq_false_iff_not, lc_lt, lc_gt, lc_eq, lc_ge, lc_le, ol_lt, ol_eq, ne_eq, Int.not_lt, Int.not_le, Bool.not_eq_true, Bool.not_eq_false, Decidable.not_not, not_true_eq_false, not_false_eq_true, Bool.true_eq_false, Bool.false_eq_true] at d1) <;> (first | (exfalso; omega) | ((with_reducible refine hJ _ _ _ _ ?_); conv => whnf) | (conv => whnf))
    · refine ⟨fun d2 => ?_, fun d2 => ?_⟩ <;> (try simp (disch := omega) only [oi_le, oi_lt, oi_eq, oi_lt0, oi_le0, oi_0lt, oi_0le, oi_eq0, oi_eq1, bI_eq0, bI_ne0, bI_eq1, decide_eq_true_eq, decide_eq_false_iff_not, lc_lt, lc_gt, lc_eq, lc_ge, lc_le, ol_lt, ol_eq, ne_eq, Int.not_lt, Int.not_le, Bool.not_eq_true, Bool.not_eq_false, Decidable.not_not, not_true_eq_false, not_false_eq_true, Bool.true_eq_false, Bool.false_eq_true] at d2) <;> (first | (exfalso; omega) | ((with_reducible refine hJ _ _ _ _ ?_); conv => whnf) | (conv => whnf))
      · refine ⟨fun d3 => ?_, fun d3 => ?_⟩ <;> (try simp (disch := omega) only [oi_le, oi_lt, oi_eq, oi_lt0, oi_le0, oi_0lt, oi_0le, oi_eq0, oi_eq1, bI_eq0, bI_ne0, bI_eq1, decide_eq_true_eq, decide_eq_false_iff_not, lc_lt, lc_gt, lc_eq, lc_ge, lc_le, ol_lt, ol_eq, ne_eq, Int.not_lt, Int.not_le, Bool.not_eq_true, Bool.not_eq_false, Decidable.not_not, not_true_eq_false, not_false_eq_true, Bool.true_eq_false, Bool.false_eq_true] at d3) <;> (first | (exfalso; omega) | ((fail_if_success with_reducible refine hJ _ _ _ _ ?_); conv => whnf) | skip)
        · have z : kwT B L f = 22 := by omega
          rw [u22 z] at h1 h2
          refine at93 9999 (fun sg v g3 => k (stp 1622 0 v sg) g3) _ _ σ1 (Or.inr ⟨z, rfl⟩) hm1 (fun sg v f' σ' w1 w2 w3 => h1 (stp 1622 0 v sg) f' σ' (w1.cg (lt6 ?_ rfl rfl rfl rfl rfl)) (f1.tr w2) w3) (fun σ' w1 w2 => h2 σ' w1 (f1.tr w2))
          show 1600 + kwT B L f = 1622
          omega
        · rw [oi_add]
          rw [u8 d3] at h1 h2
          refine m_dmonk hC (i := 1) (k := fun m g => dCmp B L g (fun sg g2 => dNum B L 0 99 g2 (fun v g3 => k (stp 1608 (m : Int) v sg) g3))) hm1 hn1 (by omega) (by omega) hs (fun m σ2 hm2 f2 e2 => ?_) (fun σ2 o2 f2 => ?_)
          · conv => whnf
            refine ⟨fun d4 => ?_, fun d4 => ?_⟩ <;> (try simp (disch := omega) only [oi_le, oi_lt, oi_eq, oi_lt0, oi_le0, oi_0lt, oi_0le, oi_eq0, oi_eq1, bI_eq0, bI_ne0, bI_eq1, decide_eq_true_eq, decide_eq_false_iff_not, lc_lt, lc_gt, lc_eq, lc_ge, lc_le, ol_lt, ol_eq, ne_eq, Int.not_lt, Int.not_le, Bool.not_eq_true, Bool.not_eq_false, Decidable.not_not, not_true_eq_false, not_false_eq_true, Bool.true_eq_false, Bool.false_eq_true] at d4) <;> (first | (exfalso; omega) | ((fail_if_success with_reducible refine hJ _ _ _ _ ?_); conv => whnf) | skip)
            rw [e2] at h1 h2
            refine at93 99 (fun sg v g3 => k (stp 1608 (m : Int) v sg) g3) _ _ σ2 (Or.inl ⟨d3, rfl⟩) hm2 (fun sg v f' σ' w1 w2 w3 => h1 (stp 1608 (m : Int) v sg) f' σ' (w1.cg (lt6 ?_ rfl rfl rfl rfl rfl)) ((f1.tr f2).tr w2) w3) (fun σ' w1 w2 => h2 σ' w1 ((f1.tr f2).tr w2))
            show 1600 + kwT B L f = 1608
            omega
          · conv => whnf
            refine ⟨fun d4 => ?_, fun d4 => ?_⟩ <;> (try simp (disch := omega) only [oi_le, oi_lt, oi_eq, oi_lt0, oi_le0, oi_0lt, oi_0le, oi_eq0, oi_eq1, bI_eq0, bI_ne0, bI_eq1, decide_eq_true_eq, decide_eq_false_iff_not, lc_lt, lc_gt, lc_eq, lc_ge, lc_le, ol_lt, ol_eq, ne_eq, Int.not_lt, Int.not_le, Bool.not_eq_true, Bool.not_eq_false, Decidable.not_not, not_true_eq_false, not_false_eq_true, Bool.true_eq_false, Bool.false_eq_true] at d4) <;> (first | (exfalso; omega) | ((with_reducible refine hJ _ _ _ _ ?_); conv => whnf) | (conv => whnf))
            exact ⟨Or.inl rfl, h2 σ2 o2 (f1.tr f2)⟩
      · rw [u21 d2] at h1 h2
        refine ⟨(oi_in (by omega) (by omega)).mpr ⟨by omega, by omega⟩, ?_⟩
        conv => whnf
        rw [show (Int32.ofInt 0).toNatClampNeg = 0 from rfl, hn1.2.2.1, oi_add]
        refine m_dold hC (c := a) (base := 0) (i := 1) (tn := tn) (k := fun m g => k (stp 1621 (m : Int) 0 0) g) hm1 (by omega) (by omega) hs (by have := hn1.1; omega) hn1.2.2.2.2.1 (fun t σ2 hm2 f2 e2 => ?_) (fun σ2 o2 f2 => ?_)
        · conv => whnf
          refine ⟨Or.inr rfl, h1 (stp 1621 (t : Int) 0 0) _ σ2 (hm2.cg (lt6 ?_ rfl rfl rfl rfl rfl)) (f1.tr f2) e2⟩
          show 1600 + kwT B L f = 1621
          omega
        · conv => whnf
          exact ⟨Or.inl rfl, h2 σ2 o2 (f1.tr f2)⟩
    · rw [oi_add]
      rw [u20 d1] at h1 h2
      refine m_dmonk hC (i := 1) (k := fun m g => k (stp 1620 (m : Int) 0 0) g) hm1 hn1 (by omega) (by omega) hs (fun m σ2 hm2 f2 e2 => ?_) (fun σ2 o2 f2 => ?_)
      · conv => whnf
        refine ⟨Or.inr rfl, h1 (stp 1620 (m : Int) 0 0) _ σ2 (hm2.cg (lt6 ?_ rfl rfl rfl rfl rfl)) (f1.tr f2) e2⟩
        show 1600 + kwT B L f = 1620
        omega
      · conv => whnf
        exact ⟨Or.inl rfl, h2 σ2 o2 (f1.tr f2)⟩
  refine s_m_inW hC hm.1 ?_
  conv => whnf
  refine ⟨fun c1 => ?_, fun c1 => ?_⟩ <;> (try simp (disch := omega) only [oi_le, oi_lt, oi_eq, oi_lt0, oi_le0, oi_0lt, oi_0le, oi_eq0, oi_eq1, bI_eq0, bI_ne0, bI_eq1, decide_eq_true_eq, decide_eq_false_iff_not, lc_lt, lc_gt, lc_eq, lc_ge, lc_le, ol_lt, ol_eq, ne_eq, Int.not_lt, Int.not_le, Bool.not_eq_true, Bool.not_eq_false, Decidable.not_not, not_true_eq_false, not_false_eq_true, Bool.true_eq_false, Bool.false_eq_true] at c1) <;> (first | (exfalso; omega) | ((fail_if_success with_reducible refine hJ _ _ _ _ ?_); conv => whnf) | skip)
  · exact go25 (by omega)
  refine ⟨fun c2 => ?_, fun c2 => ?_⟩ <;> (try simp (disch := omega) only [oi_le, oi_lt, oi_eq, oi_lt0, oi_le0, oi_0lt, oi_0le, oi_eq0, oi_eq1, bI_eq0, bI_ne0, bI_eq1, decide_eq_true_eq, decide_eq_false_iff_not, lc_lt, lc_gt, lc_eq, lc_ge, lc_le, ol_lt, ol_eq, ne_eq, Int.not_lt, Int.not_le, Bool.not_eq_true, Bool.not_eq_false, Decidable.not_not, not_true_eq_false, not_false_eq_true, Bool.true_eq_false, Bool.false_eq_true] at c2) <;> (first | (exfalso; omega) | ((fail_if_success with_reducible refine hJ _ _ _ _ ?_); conv => whnf) | skip)
  · exact go25 (by omega)
  refine s_m_fails hC hm.1.2.2.1 hm.1.2.2.2 ?_
  conv => whnf
  refine ⟨Or.inl rfl, h2 _ ?_ fM_dm⟩
  rw [show dTest B L tn mn a b f k = dFl B L f 2 from if_pos (by omega)]
  exact Om.fl (by omega) (by omega)
def dOrd (B : Nat → Int) (L : Nat) (tn mn : Nat → List Nat) (a b : Nat) (y : Int) (f : Nat) (kk : (Nat → Int) → Nat → Rd) : Rd :=
  if y = 11 then dNum B L 1 60 f (fun v f => kk (stp 11 v 0 0) f)
  else if y = 17 then dNum B L 1 99 f (fun v f => kk (stp 17 v 0 0) f)
  else if y = 16 then dTest B L tn mn a b f kk
  else if y = 15 ∨ y = 18 ∨ y = 19 then kk (stp y 0 0 0) f
  else dOld B L mn b f (fun m f => kk (stp y (m : Int) 0 0) f)
theorem m_dorder {CALL : CT} (hC : RuleAll CALL) {r : Nat} {σ : AM} {K : AV → AM → Prop} {B : Nat → Int} {L f a b nn : Nat} {S : DZ} {x y : Int} {tn mn : Nat → List Nat} {k : (Nat → Int) → Nat → Rd} (hm : MP σ B L S nn (stp y 0 0 0) f) (hn : HM σ tn mn a b) (hx : x = 1957 + 6 * (S.2.1 : Int)) (hs : S.2.1 < 60) (y1 : 11 ≤ y) (y2 : y ≤ 19) (h1 : ∀ (g : Nat → Int) (f' : Nat) (σ' : AM), MP σ' B L S nn g f' → (y = 18 → g = stp 18 0 0 0) → Ch dmT σ σ' → dOrd B L tn mn a b y f k = k g f' → K (.inl (Int32.ofInt 1)) σ') (h2 : ∀ σ' : AM, Om σ' B L (dOrd B L tn mn a b y f k) false → Ch dmT σ σ' → K (.inl (Int32.ofInt 0)) σ') : CALL (r + 7) n_m_dayOrder [.inr (.inr (46, 0)), .inl (Int32.ofInt y), .inl (Int32.ofInt x)] σ K := by
  refine r_m_dayOrder hC (fun J hJ => ?_)
  refine hJ _ _ _ _ ?_
  conv => whnf
  have monk : 12 ≤ y ∧ y ≤ 14 → J 66 [.inr (.inr (46, 0)), .inl (Int32.ofInt y), .inl (Int32.ofInt x)] [] σ := by
    intro z
    rw [show dOrd B L tn mn a b y f k = dOld B L mn b f (fun m f => k (stp y (m : Int) 0 0) f) by unfold dOrd; rw [if_neg (by omega), if_neg (by omega), if_neg (by omega), if_neg (by omega)]] at h1 h2
    refine hJ _ _ _ _ ?_
    conv => whnf
    rw [oi_add]
    refine m_dmonk hC (i := 1) (k := fun m f => k (stp y (m : Int) 0 0) f) hm hn (by omega) (by omega) hs (fun m σ2 hm2 f2 e2 => ?_) (fun σ2 o2 f2 => ?_)
    · conv => whnf
      exact ⟨Or.inr rfl, h1 (stp y (m : Int) 0 0) _ σ2 (hm2.cg (lt6 rfl rfl rfl rfl rfl rfl)) (fun e => by omega) f2 e2⟩
    · conv => whnf
      exact ⟨Or.inl rfl, h2 σ2 o2 f2⟩
  have dflt : y = 15 ∨ y = 18 ∨ y = 19 → J 80 [.inr (.inr (46, 0)), .inl (Int32.ofInt y), .inl (Int32.ofInt x)] [] σ := by
    intro z
    rw [show dOrd B L tn mn a b y f k = k (stp y 0 0 0) f by unfold dOrd; rw [if_neg (by omega), if_neg (by omega), if_neg (by omega), if_pos z]] at h1
    refine hJ _ _ _ _ ?_
    conv => whnf
    exact ⟨Or.inr rfl, h1 _ f σ hm (fun e => by rw [e]) Ch.rf rfl⟩
  rw [ti_oi (by omega) (by omega)]
  refine ⟨⟨fun c => ?_, fun c => ?_, fun c => ?_, fun c => ?_, fun c => ?_, fun c => ?_, fun c => ?_, True.intro⟩, fun c => ?_⟩
  all_goals (first | (rw [ti_oi (by omega) (by omega)] at c) | skip)
  · rw [show dOrd B L tn mn a b y f k = dNum B L 1 60 f (fun v f => k (stp 11 v 0 0) f) from if_pos c] at h1 h2
    refine hJ _ _ _ _ ?_
    conv => whnf
    rw [oi_add]
    refine m_dnum hC (i := 1) (k := fun v f => k (stp 11 v 0 0) f) hm (by omega) (by omega) hs (by omega) (by omega) (by omega) (by omega) (fun v σ2 hm2 f2 e2 => ?_) (fun σ2 o2 f2 => ?_)
    · conv => whnf
      exact ⟨Or.inr rfl, h1 (stp 11 v 0 0) _ σ2 (hm2.cg (lt6 c rfl rfl rfl rfl rfl)) (fun e => by omega) f2 e2⟩
    · conv => whnf
      exact ⟨Or.inl rfl, h2 σ2 o2 f2⟩
  · exact monk (by omega)
  · exact monk (by omega)
  · exact monk (by omega)
  · exact dflt (by omega)
  · have c : y = 16 := c
    subst c
    rw [show dOrd B L tn mn a b 16 f k = dTest B L tn mn a b f k by unfold dOrd; rw [if_neg (by omega), if_neg (by omega), if_pos rfl]] at h1 h2
    refine hJ _ _ _ _ ?_
    conv => whnf
    refine m_dtest hC (k := k) hm hn hx hs (fun g f' σ2 hm2 f2 e2 => ?_) (fun σ2 o2 f2 => ?_)
    · conv => whnf
      exact ⟨Or.inr rfl, h1 g f' σ2 hm2 (fun e => by omega) f2 e2⟩
    · conv => whnf
      exact ⟨Or.inl rfl, h2 σ2 o2 f2⟩
  · have c : y = 17 := c
    rw [show dOrd B L tn mn a b y f k = dNum B L 1 99 f (fun v f => k (stp 17 v 0 0) f) by unfold dOrd; rw [if_neg (by omega), if_pos c]] at h1 h2
    refine hJ _ _ _ _ ?_
    conv => whnf
    rw [oi_add]
    refine m_dnum hC (i := 1) (k := fun v f => k (stp 17 v 0 0) f) hm (by omega) (by omega) hs (by omega) (by omega) (by omega) (by omega) (fun v σ2 hm2 f2 e2 => ?_) (fun σ2 o2 f2 => ?_)
    · conv => whnf
      exact ⟨Or.inr rfl, h1 (stp 17 v 0 0) _ σ2 (hm2.cg (lt6 c rfl rfl rfl rfl rfl)) (fun e => by omega) f2 e2⟩
    · conv => whnf
      exact ⟨Or.inl rfl, h2 σ2 o2 f2⟩
  · exact dflt (by omega)
