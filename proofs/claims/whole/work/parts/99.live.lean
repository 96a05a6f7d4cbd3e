theorem runF_GD {h0 : Nat → Int} {d : Nat → Nat → Int} {s : Nat} {dep : Nat → Nat} (wd : WD (h0 0) (h0 1) d s dep) : ∀ (n k : Nat) (lp : Nat → Int) (S : DS), k ≤ s → (k < s → d k 0 ≠ 18) → GD h0 S.1 → 0 ≤ S.2.1 → S.2.1 < 65536 → GD h0 (runF d s n k lp S).1.1 ∧ (runF d s n k lp S).2.1 ≤ n
  | 0, k, lp, S, hk, hne, hg, s0, s1 => ⟨hg, Nat.le_refl _⟩
  | n + 1, k, lp, S, hk, hne, hg, s0, s1 => by
    rw [runF]
    by_cases ks : k < s
    · rw [if_pos ks]
      by_cases h19 : d k 0 = 19
      · rw [if_pos h19]
        exact ⟨hg, by show n ≤ n + 1; omega⟩
      · rw [if_neg h19]
        have dg := doF_GD (f := d k) hg rfl rfl (wd.2.2.2.2 k ks).1 s0 s1
        have nle := nxtF_le wd ks (doF (d k) S).1
        have eo := endsF_ok wd 3 (nxtF d k (doF (d k) S).1) (lpF d k lp) nle (wd.2.2.2.1 _ nle)
        have := runF_GD wd n _ (endsF d s 3 (nxtF d k (doF (d k) S).1) (lpF d k lp)).2 (doF (d k) S) eo.1 eo.2 dg.1 dg.2.1 dg.2.2.1
        exact ⟨this.1, by omega⟩
    · rw [if_neg ks]
      exact ⟨hg, Nat.le_refl _⟩
def runR (d : Nat → Nat → Int) (s : Nat) (h : Nat → Int) (g : Int) : DS × Nat × Bool := runF d s 300 0 (fun _ => 0) (h, g, 0)
theorem runR_GD {h0 : Nat → Int} {d : Nat → Nat → Int} {s : Nat} {dep : Nat → Nat} {g : Int} (wd : WD (h0 0) (h0 1) d s dep) (hwp : WP h0) (h59 : h0 5 ≤ 9999) (g0 : 0 ≤ g) (g1 : g < 65536) : GD h0 (runR d s h0 g).1.1 ∧ (runR d s h0 g).2.1 ≤ 300 := by
  refine runF_GD wd 300 0 (fun _ => 0) (h0, g, 0) (by omega) (fun hs h18 => ?_) ⟨hwp, h59, rfl, rfl, rfl, fun _ => rfl⟩ g0 g1
  have := (wd.en hs h18).1
  have := wd.2.1
  omega
def livS (n t i j : Nat) : Prop := HS n t i ∨ ((t = 19 ∨ t = 20) ∧ i = 0) ∨ (t = 1 ∧ i = 0 ∧ j = 16) ∨ (t = 47 ∧ i = 0 ∧ j < 97) ∨ (t = 46 ∧ i = 0 ∧ (j = 2 ∨ j = 24 ∨ j = 25 ∨ j = 26 ∨ j = 40 ∨ j = 41 ∨ j = 45)) ∨ t = 64 ∨ t = 65 ∨ t = 66
theorem Rel.liv {σ σ' : AM} {n p : Nat} {h h' : Nat → Int} (ha : RelA σ n p h) (hb : RelB σ) (e1 : ∀ t i j, ¬ livS n t i j → σ'.1 t i j = σ.1 t i j) (e2 : σ'.2.1 = σ.2.1) (e3 : ∀ j, σ'.2.2 1 0 j = σ.2.2 1 0 j) (hr : HRep σ' n h') (hm : M0 σ' h') (hg : GD h h') (hl : LifeR σ') (st : σ'.1 1 0 16 = σ'.1 46 0 2) : Rel σ' := by
  obtain ⟨n45, hp, r1, r2, r3, r4, g1, g2, g3, g4, g5, g6, g7⟩ := ha
  obtain ⟨b1, b2, b3, b4, b5, b6, b7⟩ := hb
  obtain ⟨k1, k2, k3, k4, k5, k6⟩ := hg
  have e2' : ∀ t i j, σ'.2.1 t i j = σ.2.1 t i j := fun t i j => by rw [e2]
  refine ⟨⟨n, p, h', n45, hp, by rw [e3, r1], by rw [e3, r2], by rw [e3, r3], by rw [e3, r4], hr, hm.mr, k1, k2, g5.cg k4 (fun m _ => k6 m), ?_, ?_⟩, ⟨?_, ?_, ?_, ?_, hl, ?_, ?_⟩, st⟩
  · exact g6.cg g3.1 k3 k4 (fun j _ => e2' _ _ _) (fun j _ => e2' _ _ _) (fun j _ => e2' _ _ _)
  · refine g7.cg k3 k4 k5 (e1 _ _ _ ?_) (e1 _ _ _ ?_) (fun k _ t a b => e1 _ _ _ ?_) (fun j a b => e1 _ _ _ ?_)
    all_goals (unfold livS HS; omega)
  · exact b1.c2 (e1 _ _ _ (by unfold livS HS; omega)) (e1 _ _ _ (by unfold livS HS; omega)) (fun t i j q => e1 _ _ _ (by unfold livS HS; omega)) (fun t i j q => e2' _ _ _)
  · obtain ⟨M, S, ht⟩ := b2.tm
    exact TrM.tr (ht.w (fun t i j q => e1 _ _ _ (by unfold livS HS; omega)) (fun t j t4 hj => by rw [e2', e2']; exact ht.old t4 hj))
  · exact b3.c2 (e1 _ _ _ (by unfold livS HS; omega)) (e1 _ _ _ (by unfold livS HS; omega)) (fun j => e1 _ _ _ (by unfold livS HS; omega)) (fun j => e1 _ _ _ (by unfold livS HS; omega))
  · exact b4.c2 (e1 _ _ _ (by unfold livS HS; omega)) (e1 _ _ _ (by unfold livS HS; omega)) (e1 _ _ _ (by unfold livS HS; omega)) (e1 _ _ _ (by unfold livS HS; omega))
  · exact b6.c2 (e2' _ _ _) (e2' _ _ _) (e2' _ _ _) (e2' _ _ _)
  · exact b7.c2 (fun j => e2' _ _ _)
theorem op_live {CALL : CT} (hC : RuleAll CALL) {r : Nat} {σ : AM} {K : AV → AV → AM → Prop} (hR : Rel σ) {z : Int} (z1 : -2147483648 ≤ z) (z2 : z < 2147483648) (h : ∀ v σ2, Rel σ2 → K v v σ2) : CALL (r + 20) n_x_live [.inr (.inr (1, 0)), .inl (Int32.ofInt z)] σ (fun v σ1 => CALL (r + 20) n_m_live [.inr (.inr (46, 0)), .inl (Int32.ofInt z)] σ1 (fun v' σ2 => K v v' σ2)) := by
  obtain ⟨⟨n, p, h0, ha⟩, hb, hst⟩ := id hR
  have hn := ha.nh
  obtain ⟨n45, hnn, hr, hm, ⟨hw, hw67⟩, h59⟩ := id hn
  have b := hw.1
  have hsy : SymE h0 := ha.2.2.2.2.2.2.2.2.2.2.1
  obtain ⟨q0, q1, q2, q3, q4, q5, q6, q7, q8, q9, qa, qt, qm, qe⟩ := id hr
  obtain ⟨hn45, hp2, r1, r2, r3, r4, g1, g2, g3, g4, g5, g6, g7⟩ := id ha
  refine r_x_live hC (fun J hJ => ?_)
  refine hJ _ _ _ _ ?_
  conv => whnf
  refine s_withinI hC (by omega) (by omega) (by omega) (by omega) (by omega) (by omega) ?_
  conv => whnf
  refine ⟨fun c => ?_, fun c => ?_⟩ <;> (try simp (disch := omega) only [oi_le, oi_lt, oi_eq, oi_lt0, oi_le0, oi_0lt, oi_0le, oi_eq0, oi_eq1, bI_eq0, bI_ne0, bI_eq1, decide_eq_true_eq, decide_eq_false_iff_not, lc_lt, lc_gt, lc_eq, lc_ge, lc_le, ol_lt, ol_eq, ne_eq, Int.not_lt, Int.not_le, Bool.not_eq_true, Bool.not_eq_false, Decidable.not_not, not_true_eq_false, not_false_eq_true, Bool.true_eq_false, Bool.false_eq_true] at c) <;> (first | (exfalso; omega) | ((with_reducible refine hJ _ _ _ _ ?_); conv => whnf) | (conv => whnf))
  · rw [r3]
    refine ⟨by omega, ?_⟩
    conv => whnf
    rcases g7 with ⟨d1, d2, d3⟩ | ⟨s, d, dep, d1, d2, d3, d4, d5⟩
    · rw [d2]
      refine ⟨fun c2 => ?_, fun c2 => ?_⟩ <;> (try simp (disch := omega) only [oi_le, oi_lt, oi_eq, oi_lt0, oi_le0, oi_0lt, oi_0le, oi_eq0, oi_eq1, bI_eq0, bI_ne0, bI_eq1, decide_eq_true_eq, decide_eq_false_iff_not, lc_lt, lc_gt, lc_eq, lc_ge, lc_le, ol_lt, ol_eq, ne_eq, Int.not_lt, Int.not_le, Bool.not_eq_true, Bool.not_eq_false, Decidable.not_not, not_true_eq_false, not_false_eq_true, Bool.true_eq_false, Bool.false_eq_true] at c2) <;> (first | (exfalso; omega) | ((with_reducible refine hJ _ _ _ _ ?_); conv => whnf) | (conv => whnf))
      refine s_none hC ?_
      conv => whnf
      refine r_m_live hC (fun J hJ => ?_)
      refine hJ _ _ _ _ ?_
      conv => whnf
      rw [oi_l (by omega) (by omega)]
      refine s_m_isFrom hC (by omega) (by omega) (by omega) (by omega) (by omega) (by omega) ?_
      conv => whnf
      refine ⟨fun c3 => ?_, fun c3 => ?_⟩ <;> (try simp (disch := omega) only [oi_le, oi_lt, oi_eq, oi_lt0, oi_le0, oi_0lt, oi_0le, oi_eq0, oi_eq1, bI_eq0, bI_ne0, bI_eq1, decide_eq_true_eq, decide_eq_false_iff_not, lc_lt, lc_gt, lc_eq, lc_ge, lc_le, ol_lt, ol_eq, ne_eq, Int.not_lt, Int.not_le, Bool.not_eq_true, Bool.not_eq_false, Decidable.not_not, not_true_eq_false, not_false_eq_true, Bool.true_eq_false, Bool.false_eq_true] at c3) <;> (first | (exfalso; omega) | ((with_reducible refine hJ _ _ _ _ ?_); conv => whnf) | (conv => whnf))
      refine ⟨(oi_in (by omega) (by omega)).mpr ⟨by omega, by omega⟩, ?_⟩
      conv => whnf
      rw [show (Int32.ofInt 10).toNatClampNeg = 10 from rfl, hm.c 10 (by omega)]
      rw [d1]
      refine ⟨fun y => absurd rfl y, fun _ => ?_⟩
      conv => whnf
      refine s_m_refuse hC ?_
      conv => whnf
      exact h _ _ (hR.sc done2.1 done2.2)
    · rw [d2]
      refine ⟨fun c2 => ?_, fun c2 => ?_⟩ <;> (try simp (disch := omega) only [oi_le, oi_lt, oi_eq, oi_lt0, oi_le0, oi_0lt, oi_0le, oi_eq0, oi_eq1, bI_eq0, bI_ne0, bI_eq1, decide_eq_true_eq, decide_eq_false_iff_not, lc_lt, lc_gt, lc_eq, lc_ge, lc_le, ol_lt, ol_eq, ne_eq, Int.not_lt, Int.not_le, Bool.not_eq_true, Bool.not_eq_false, Decidable.not_not, not_true_eq_false, not_false_eq_true, Bool.true_eq_false, Bool.false_eq_true] at c2) <;> (first | (exfalso; omega) | ((with_reducible refine hJ _ _ _ _ ?_); conv => whnf) | (conv => whnf))
      have s60 : s ≤ 60 := d4.1
      have gd : GD h0 (runF d s 300 0 (fun _ => 0) (h0, z, 0)).1.1 ∧ (runF d s 300 0 (fun _ => 0) (h0, z, 0)).2.1 ≤ 300 := runR_GD (g := z) d4 g3 g4 (by omega) (by omega)
      rw [hnn]
      refine ⟨by omega, ?_⟩
      conv => whnf
      rw [r3]
      refine ⟨by omega, ?_⟩
      conv => whnf
      refine s_run hC (i := 0) (d := d) (dep := dep) (by omega) (by omega) d3 (fun k hk => (d5 k hk).1) hr g3 g4 d4 (by omega) (by omega) (fun σ1 k1 k2 k3 k4 k5 k6 k7 k8 k9 k10 k11 => ?_)
      conv => whnf
      rw [k5]
      refine s_give hC ?_
      conv => whnf
      have ms1 : MSt (wI σ1 1 0 16 (Int32.ofInt 0)) s d := ⟨d4.1, fun k hk j hj => by
        rw [wI1, if_neg (by omega), k1 _ _ _ (by unfold runS HS; omega)]
        have := (d5 k hk).2 j hj
        rw [Nat.zero_add] at this
        exact this⟩
      have hm1 : M0 (wI σ1 1 0 16 (Int32.ofInt 0)) h0 := M0.c (hm.fr (fun j _ => k1 _ _ _ (by unfold runS HS; omega)))
      refine r_m_live hC (fun J hJ => ?_)
      refine hJ _ _ _ _ ?_
      conv => whnf
      rw [oi_l (by omega) (by omega)]
      refine s_m_isFrom hC (by omega) (by omega) (by omega) (by omega) (by omega) (by omega) ?_
      conv => whnf
      refine ⟨fun c3 => ?_, fun c3 => ?_⟩ <;> (try simp (disch := omega) only [oi_le, oi_lt, oi_eq, oi_lt0, oi_le0, oi_0lt, oi_0le, oi_eq0, oi_eq1, bI_eq0, bI_ne0, bI_eq1, decide_eq_true_eq, decide_eq_false_iff_not, lc_lt, lc_gt, lc_eq, lc_ge, lc_le, ol_lt, ol_eq, ne_eq, Int.not_lt, Int.not_le, Bool.not_eq_true, Bool.not_eq_false, Decidable.not_not, not_true_eq_false, not_false_eq_true, Bool.true_eq_false, Bool.false_eq_true] at c3) <;> (first | (exfalso; omega) | ((with_reducible refine hJ _ _ _ _ ?_); conv => whnf) | (conv => whnf))
      refine ⟨(oi_in (by omega) (by omega)).mpr ⟨by omega, by omega⟩, ?_⟩
      conv => whnf
      rw [show (Int32.ofInt 10).toNatClampNeg = 10 from rfl, hm1 10 (by omega)]
      rw [d1]
      refine ⟨fun c4 => ?_, fun c4 => ?_⟩ <;> (try simp (disch := omega) only [oi_le, oi_lt, oi_eq, oi_lt0, oi_le0, oi_0lt, oi_0le, oi_eq0, oi_eq1, bI_eq0, bI_ne0, bI_eq1, decide_eq_true_eq, decide_eq_false_iff_not, lc_lt, lc_gt, lc_eq, lc_ge, lc_le, ol_lt, ol_eq, ne_eq, Int.not_lt, Int.not_le, Bool.not_eq_true, Bool.not_eq_false, Decidable.not_not, not_true_eq_false, not_false_eq_true, Bool.true_eq_false, Bool.false_eq_true] at c4) <;> (first | (exfalso; omega) | ((with_reducible refine hJ _ _ _ _ ?_); conv => whnf) | (conv => whnf))
      refine s_m_lives hC (d := d) (dep := dep) hm1 d1 ms1 g3 g4 d4 (by omega) (by omega) (fun σ2 f1 f2 f3 f4 f5 f6 => ?_)
      conv => whnf
      generalize runF d s 300 0 (fun _ => 0) (h0, z, 0) = R at gd k4 k5 k6 k7 k8 k9 k10 f2 f3 f4 f5 f6 hJ
      have loop : ∀ (c i : Nat) (σi : AM), i + c = 5 → Ch (fun t q j => t = 66) σ2 σi → (∀ j, j < i → σi.1 66 0 j = σ2.1 65 0 j) → J 43 [.inr (.inr (46, 0)), .inl (Int32.ofInt z), .inl (Int32.ofInt (i : Int))] [] σi := by
        intro c
        induction c with
        | zero =>
          intro i σi hi hc e66
          have st : ∀ t q j, t ≠ 66 → σi.1 t q j = σ2.1 t q j := fun t q j y => hc.1 _ _ _ y
          refine hJ _ _ _ _ ?_
          conv => whnf
          refine ⟨fun c5 => ?_, fun c5 => ?_⟩ <;> (try simp (disch := omega) only [oi_le, oi_lt, oi_eq, oi_lt0, oi_le0, oi_0lt, oi_0le, oi_eq0, oi_eq1, bI_eq0, bI_ne0, bI_eq1, decide_eq_true_eq, decide_eq_false_iff_not, lc_lt, lc_gt, lc_eq, lc_ge, lc_le, ol_lt, ol_eq, ne_eq, Int.not_lt, Int.not_le, Bool.not_eq_true, Bool.not_eq_false, Decidable.not_not, not_true_eq_false, not_false_eq_true, Bool.true_eq_false, Bool.false_eq_true] at c5) <;> (first | (exfalso; omega) | ((with_reducible refine hJ _ _ _ _ ?_); conv => whnf) | (conv => whnf))
          refine ⟨Or.inr rfl, ?_⟩
          conv => whnf
          rw [wI1, if_neg (by omega), st _ _ _ (by omega), f3]
          refine s_m_gives hC ?_
          conv => whnf
          have zz : ∀ t q j, t ≠ 66 → t ≠ 46 → (wI (wI σi 46 0 45 (Int32.ofInt 1)) 46 0 2 (Int32.ofInt 0)).1 t q j = σ2.1 t q j := fun t q j y1 y2 => by rw [wI1, if_neg (by omega), wI1, if_neg (by omega), st _ _ _ y1]
          have zc : ∀ t q j, ¬ lvS2' t q j → t ≠ 66 → t ≠ 46 → t ≠ 1 → (wI (wI σi 46 0 45 (Int32.ofInt 1)) 46 0 2 (Int32.ofInt 0)).1 t q j = σ1.1 t q j := fun t q j y0 y1 y2 y3 => by rw [zz _ _ _ y1 y2, f1.1 _ _ _ y0, wI1, if_neg (by omega)]
          refine h _ _ (Rel.liv ha hb (h' := R.1.1) (fun t q j y => ?_) ?_ (fun j => ?_) ?_ ?_ gd.1 (Or.inr ⟨?_, ?_, ?_, ?_, ?_, ?_, R.2.2, ?_, ?_⟩) ?_)
          · unfold livS HS at y
            by_cases t46 : t = 46
            · subst t46
              rw [wI1, if_neg (by omega), wI1, if_neg (by omega), st _ _ _ (by omega), f1.1 _ _ _ (by unfold lvS2'; omega), wI1, if_neg (by omega), k1 _ _ _ (by unfold runS HS; omega)]
            · by_cases t1 : t = 1
              · subst t1
                rw [zz _ _ _ (by omega) (by omega), f1.1 _ _ _ (by unfold lvS2'; omega), wI1, if_neg (by omega), k1 _ _ _ (by unfold runS HS; omega)]
              · rw [zc _ _ _ (by unfold lvS2'; omega) (by omega) t46 t1, k1 _ _ _ (by unfold runS HS; omega)]
          · show σi.2.1 = _
            rw [hc.2, f1.2]
            exact k2
          · show σi.2.2 1 0 j = _
            rw [hc.2, f1.2]
            exact k3 1 0 j (by omega)
          · have c12 : Ch (fun t q j => t = 1 ∨ lvS2' t q j ∨ t = 66 ∨ t = 46) σ1 (wI (wI σi 46 0 45 (Int32.ofInt 1)) 46 0 2 (Int32.ofInt 0)) := ⟨fun t q j y => zc _ _ _ (fun w => y (Or.inr (Or.inl w))) (fun w => y (Or.inr (Or.inr (Or.inl w)))) (fun w => y (Or.inr (Or.inr (Or.inr w)))) (fun w => y (Or.inl w)), by
              show σi.2 = _
              rw [hc.2, f1.2]
              rfl⟩
            exact k4.ch c12 (fun t j a b => by unfold lvS2'; omega)
          · exact f2.fr (fun j hj => zz _ _ _ (by omega) (by omega))
          · rw [zc _ _ _ (by unfold lvS2'; omega) (by omega) (by omega) (by omega), k11]
          · rw [wI1, if_neg (by omega), wI_16]
          · rw [zc _ _ _ (by unfold lvS2'; omega) (by omega) (by omega) (by omega), k6, wI1, if_neg (by omega), wI1, if_neg (by omega), e66 0 (by omega), f4]
          · rw [zc _ _ _ (by unfold lvS2'; omega) (by omega) (by omega) (by omega), k7, wI1, if_neg (by omega), wI1, if_neg (by omega), e66 1 (by omega), f5.1]
          · rw [zc _ _ _ (by unfold lvS2'; omega) (by omega) (by omega) (by omega), k8, wI1, if_neg (by omega), wI1, if_neg (by omega), e66 2 (by omega), f5.2.1]
          · rw [zc _ _ _ (by unfold lvS2'; omega) (by omega) (by omega) (by omega), k9, wI1, if_neg (by omega), wI1, if_neg (by omega), e66 3 (by omega), f5.2.2]
          · rw [zc _ _ _ (by unfold lvS2'; omega) (by omega) (by omega) (by omega), k10]
          · rw [wI1, if_neg (by omega), wI1, if_neg (by omega), e66 4 (by omega), f6]
          · rw [zz _ _ _ (by omega) (by omega), f1.1 _ _ _ (by unfold lvS2'; omega), wI_16, wI_16]
        | succ c ih =>
          intro i σi hi hc e66
          refine hJ _ _ _ _ ?_
          conv => whnf
          refine ⟨fun c5 => ?_, fun c5 => ?_⟩ <;> (try simp (disch := omega) only [oi_le, oi_lt, oi_eq, oi_lt0, oi_le0, oi_0lt, oi_0le, oi_eq0, oi_eq1, bI_eq0, bI_ne0, bI_eq1, decide_eq_true_eq, decide_eq_false_iff_not, lc_lt, lc_gt, lc_eq, lc_ge, lc_le, ol_lt, ol_eq, ne_eq, Int.not_lt, Int.not_le, Bool.not_eq_true, Bool.not_eq_false, Decidable.not_not, not_true_eq_false, not_false_eq_true, Bool.true_eq_false, Bool.false_eq_true] at c5) <;> (first | (exfalso; omega) | ((with_reducible refine hJ _ _ _ _ ?_); conv => whnf) | (conv => whnf))
          refine ⟨(oi_in (by omega) (by omega)).mpr ⟨by omega, by omega⟩, ?_⟩
          conv => whnf
          refine ⟨(oi_in (by omega) (by omega)).mpr ⟨by omega, by omega⟩, ?_⟩
          conv => whnf
          rw [oi_nat (by omega) (by omega), Int.toNat_natCast, oi_succ]
          refine ih (i + 1) _ (by omega) (hc.tr (Ch.wI rfl)) (fun j hj => ?_)
          rw [wI1]
          by_cases e : j = i
          · rw [if_pos ⟨rfl, rfl, e⟩, e, hc.1 _ _ _ (by omega)]
          · rw [if_neg (by omega)]; exact e66 j (by omega)
      exact loop 5 0 σ2 (by omega) Ch.rf (fun j hj => by omega)
  · refine s_none hC ?_
    conv => whnf
    refine r_m_live hC (fun J hJ => ?_)
    refine hJ _ _ _ _ ?_
    conv => whnf
    rw [oi_l (by omega) (by omega)]
    refine s_m_isFrom hC (by omega) (by omega) (by omega) (by omega) (by omega) (by omega) ?_
    conv => whnf
    refine ⟨fun c3 => ?_, fun c3 => ?_⟩ <;> (try simp (disch := omega) only [oi_le, oi_lt, oi_eq, oi_lt0, oi_le0, oi_0lt, oi_0le, oi_eq0, oi_eq1, bI_eq0, bI_ne0, bI_eq1, decide_eq_true_eq, decide_eq_false_iff_not, lc_lt, lc_gt, lc_eq, lc_ge, lc_le, ol_lt, ol_eq, ne_eq, Int.not_lt, Int.not_le, Bool.not_eq_true, Bool.not_eq_false, Decidable.not_not, not_true_eq_false, not_false_eq_true, Bool.true_eq_false, Bool.false_eq_true] at c3) <;> (first | (exfalso; omega) | ((with_reducible refine hJ _ _ _ _ ?_); conv => whnf) | (conv => whnf))
    refine s_m_refuse hC ?_
    conv => whnf
    exact h _ _ (hR.sc done2.1 done2.2)
