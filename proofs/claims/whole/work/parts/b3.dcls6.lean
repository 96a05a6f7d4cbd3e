def dFin (B : Nat → Int) (L : Nat) (R : Rd) : Rd := match R with
  | .inl S => if S.2.2.2.1 = 0 then .inl S else dFl B L S.1 2
  | .inr e => .inr e
theorem c_dtakes {CALL : CT} (hC : RuleAll CALL) {r : Nat} {σ : AM} {K : AV → AM → Prop} {B : Nat → Int} {L p q f a b : Nat} {tn mn : Nat → List Nat} (ha : AC σ B L f) (hn : HN σ q tn mn a b) (hp5 : p < 5) (hq : q < 9) (hL : L ≤ 300) (h33 : σ.1 3 0 3 = Int32.ofInt 0) (h34 : σ.1 3 0 4 = Int32.ofInt (-1)) (h : ∀ (bb : Bool) (σ' : AM), OD σ' B L p q (dFin B L (dAll B L tn mn a b 301 (D0 f))) bb → (bb = true → σ'.1 37 p 8 = Int32.ofInt 1) → ChA (dyS p) tkL (wR (wR σ 7 0 3 p) 7 0 4 q) σ' → K (.inl (bI bb)) σ') : CALL (r + 7) n_DaysReader_takes [.inr (.inr (7, 0)), .inr (.inr (37, p)), .inr (.inr (22, q))] σ K := by
  refine r_DaysReader_takes hC (fun J hJ => ?_)
  refine hJ _ _ _ _ ?_
  conv => whnf
  have key : ∀ (n i : Nat) (S : DZ) (dep : Nat → Nat) (σ1 : AM), CDy σ1 B L p q S → DI (a : Int) (b : Int) L S dep → i + n = 301 → i ≤ S.1 → ChA (dyS p) tkL (wR (wR σ 7 0 3 p) 7 0 4 q) σ1 → dAll B L tn mn a b 301 (D0 f) = dAll B L tn mn a b n S → J 24 [.inr (.inr (7, 0)), .inr (.inr (37, p)), .inr (.inr (22, q)), .inl (Int32.ofInt (i : Int))] [] σ1 := by
    intro n
    induction n with
    | zero =>
      intro i S dep σ1 hc hp hi hs hch hr
      have := hp.1
      omega
    | succ n ih =>
      intro i S dep σ1 hc hp hi hs hch hr
      have kb := kC_eq (B := B) (L := L) (f := S.1)
      have hpl := hp.1
      have hn1 : HN σ1 q tn mn a b := HN.cha (σ := wR (wR σ 7 0 3 p) 7 0 4 q) (p := p) hn hch
      have kmb := kmC_bd2 B L S.1
      have kwb := kwT_bd B L S.1
      have t21 := kmC_eq (k := kwT B L S.1) kwb.1 kwb.2 (n := 18) (by omega)
      rw [show kmC ((18 : Nat) : Int) = 21 by decide] at t21
      refine hJ _ _ _ _ ?_
      conv => whnf
      refine ⟨fun c => ?_, fun c => ?_⟩ <;> (try simp (disch := omega) only [oi_le, oi_lt, oi_eq, oi_lt0, oi_le0, oi_0lt, oi_0le, oi_eq0, oi_eq1, bI_eq0, bI_ne0, bI_eq1, decide_eq_true_eq, decide_eq_false_iff_not, lc_lt, lc_gt, lc_eq, lc_ge, lc_le, ol_lt, ol_eq, ne_eq, Int.not_lt, Int.not_le, Bool.not_eq_true, Bool.not_eq_false, Decidable.not_not, not_true_eq_false, not_false_eq_true, Bool.true_eq_false, Bool.false_eq_true] at c) <;> (first | (exfalso; omega) | ((fail_if_success with_reducible refine hJ _ _ _ _ ?_); conv => whnf) | skip)
      rw [show σ1.1 3 0 5 = Int32.ofInt (kC (kdT B L S.1)) from hc.1.2.2.2.2.1]
      refine ⟨fun c2 => ?_, fun c2 => ?_⟩ <;> (try simp (disch := omega) only [oi_le, oi_lt, oi_eq, oi_lt0, oi_le0, oi_0lt, oi_0le, oi_eq0, oi_eq1, bI_eq0, bI_ne0, bI_eq1, decide_eq_true_eq, decide_eq_false_iff_not, lc_lt, lc_gt, lc_eq, lc_ge, lc_le, ol_lt, ol_eq, ne_eq, Int.not_lt, Int.not_le, Bool.not_eq_true, Bool.not_eq_false, Decidable.not_not, not_true_eq_false, not_false_eq_true, Bool.true_eq_false, Bool.false_eq_true] at c2) <;> (first | (exfalso; omega) | ((with_reducible refine hJ _ _ _ _ ?_); conv => whnf) | (conv => whnf))
      · have e0 := kb.2.2.2.2.1.mp c2
        rw [dAll_end e0] at hr
        rw [hr] at h
        rw [hc.2.1]
        refine ⟨hp5, ?_⟩
        conv => whnf
        rw [hc.2.2.2.2.2.2.2.1]
        have o3 := hp.2.2.2.1
        refine ⟨fun c3 => ?_, fun c3 => ?_⟩ <;> (try simp (disch := omega) only [oi_le, oi_lt, oi_eq, oi_lt0, oi_le0, oi_0lt, oi_0le, oi_eq0, oi_eq1, bI_eq0, bI_ne0, bI_eq1, decide_eq_true_eq, decide_eq_false_iff_not, lc_lt, lc_gt, lc_eq, lc_ge, lc_le, ol_lt, ol_eq, ne_eq, Int.not_lt, Int.not_le, Bool.not_eq_true, Bool.not_eq_false, Decidable.not_not, not_true_eq_false, not_false_eq_true, Bool.true_eq_false, Bool.false_eq_true] at c3) <;> (first | (exfalso; omega) | ((with_reducible refine hJ _ _ _ _ ?_); conv => whnf) | (conv => whnf))
        · have e : dFin B L (.inl S) = dFl B L S.1 2 := if_neg (by omega)
          rw [e] at h
          refine hJ _ _ _ _ ?_
          conv => whnf
          refine ⟨Or.inl rfl, ?_⟩
          conv => whnf
          rw [show (wI σ1 37 p 8 (Int32.ofInt 0)).2.2 7 0 3 = p from hc.2.1]
          refine ⟨hp5, ?_⟩
          conv => whnf
          rw [wI_16]
          refine ⟨fun c4 => ?_, fun c4 => ?_⟩ <;> (try simp (disch := omega) only [oi_le, oi_lt, oi_eq, oi_lt0, oi_le0, oi_0lt, oi_0le, oi_eq0, oi_eq1, bI_eq0, bI_ne0, bI_eq1, decide_eq_true_eq, decide_eq_false_iff_not, lc_lt, lc_gt, lc_eq, lc_ge, lc_le, ol_lt, ol_eq, ne_eq, Int.not_lt, Int.not_le, Bool.not_eq_true, Bool.not_eq_false, Decidable.not_not, not_true_eq_false, not_false_eq_true, Bool.true_eq_false, Bool.false_eq_true] at c4) <;> (first | (exfalso; omega) | ((with_reducible refine hJ _ _ _ _ ?_); conv => whnf) | (conv => whnf))
          have ac : AC (wI σ1 37 p 8 (Int32.ofInt 0)) B L S.1 := hc.1.cha (S := fun t i j => t = 37) (SL := fun _ _ _ => False) (ChA.wI rfl) (fun j _ z => by omega) (fun j z => by omega) (fun _ z => z) (fun z => z)
          refine s_fail hC ac.2.2.2 ?_
          conv => whnf
          refine ⟨fun c5 => ?_, fun c5 => ?_⟩ <;> (try simp (disch := omega) only [oi_le, oi_lt, oi_eq, oi_lt0, oi_le0, oi_0lt, oi_0le, oi_eq0, oi_eq1, bI_eq0, bI_ne0, bI_eq1, decide_eq_true_eq, decide_eq_false_iff_not, lc_lt, lc_gt, lc_eq, lc_ge, lc_le, ol_lt, ol_eq, ne_eq, Int.not_lt, Int.not_le, Bool.not_eq_true, Bool.not_eq_false, Decidable.not_not, not_true_eq_false, not_false_eq_true, Bool.true_eq_false, Bool.false_eq_true] at c5) <;> (first | (exfalso; omega) | ((with_reducible refine hJ _ _ _ _ ?_); conv => whnf) | (conv => whnf))
          refine hJ _ _ _ _ ?_
          conv => whnf
          exact ⟨Or.inl rfl, h false _ OD.fl (fun z => by cases z) ((hch.tr (ChA.wI (Or.inr (Or.inl ⟨by omega, by omega, rfl⟩)))).tr fC_dy)⟩
        · have e : dFin B L (.inl S) = .inl S := if_pos (by omega)
          rw [e] at h
          refine hJ _ _ _ _ ?_
          conv => whnf
          refine ⟨Or.inr rfl, ?_⟩
          conv => whnf
          rw [show (wI σ1 37 p 8 (Int32.ofInt 1)).2.2 7 0 3 = p from hc.2.1]
          refine ⟨hp5, ?_⟩
          conv => whnf
          rw [wI_16]
          refine ⟨fun c4 => ?_, fun c4 => ?_⟩ <;> (try simp (disch := omega) only [oi_le, oi_lt, oi_eq, oi_lt0, oi_le0, oi_0lt, oi_0le, oi_eq0, oi_eq1, bI_eq0, bI_ne0, bI_eq1, decide_eq_true_eq, decide_eq_false_iff_not, lc_lt, lc_gt, lc_eq, lc_ge, lc_le, ol_lt, ol_eq, ne_eq, Int.not_lt, Int.not_le, Bool.not_eq_true, Bool.not_eq_false, Decidable.not_not, not_true_eq_false, not_false_eq_true, Bool.true_eq_false, Bool.false_eq_true] at c4) <;> (first | (exfalso; omega) | ((with_reducible refine hJ _ _ _ _ ?_); conv => whnf) | (conv => whnf))
          refine hJ _ _ _ _ ?_
          conv => whnf
          refine ⟨Or.inr rfl, h true _ ⟨rfl, ?_⟩ (fun _ => wI_16) (hch.tr (ChA.wI (Or.inr (Or.inl ⟨by omega, by omega, rfl⟩))))⟩
          obtain ⟨h1, h2, h3, h4, h5, h6, h7, h8, h9, h10, h11, h12⟩ := hc
          refine ⟨h1.cha (S := fun t i j => t = 37) (SL := fun _ _ _ => False) (ChA.wI rfl) (fun j _ z => by omega) (fun j z => by omega) (fun _ z => z) (fun z => z), h2, h3, h4, h5, by rw [wI1, if_neg (by omega)]; exact h6, by rw [wI1, if_neg (by omega)]; exact h7, by rw [wI1, if_neg (by omega)]; exact h8, fun i hi => by rw [wI1, if_neg (by omega)]; exact h9 i hi, fun k hk => ⟨(h10 k hk).1.cg (fun t _ _ => by rw [wI1, if_neg (by omega)]), fun z1 z2 => by rw [wI1, if_neg (by omega)]; exact (h10 k hk).2 z1 z2⟩, by rw [wI1, if_neg (by omega)]; exact h11, by rw [wI1, if_neg (by omega)]; exact h12⟩
      · have e0 : kdT B L S.1 ≠ 0 := fun z => c2 (kb.2.2.2.2.1.mpr z)
        have next : ∀ (bb : Bool) (σ2 : AM), OD σ2 B L p q (dStep B L tn mn a b S) bb → ChA (dyS p) tkL σ1 σ2 → (bb = true → J 72 [.inr (.inr (7, 0)), .inr (.inr (37, p)), .inr (.inr (22, q)), .inl (Int32.ofInt (i : Int))] [] σ2) ∧ (bb = false → J 70 [.inr (.inr (7, 0)), .inr (.inr (37, p)), .inr (.inr (22, q)), .inl (Int32.ofInt (i : Int))] [] σ2) := by
          intro bb σ2 o2 f2
          cases er : dStep B L tn mn a b S with
          | inl S' =>
            rw [er] at o2
            obtain ⟨ob, hc2⟩ := o2
            subst ob
            obtain ⟨⟨dep', pk⟩, lt⟩ := dStep_ok hc.1.2.1 hp er
            rw [dAll_go e0 er] at hr
            refine ⟨fun _ => ?_, fun z => by cases z⟩
            refine hJ _ _ _ _ ?_
            conv => whnf
            rw [oi_add]
            exact ih (i + 1) S' dep' σ2 hc2 pk (by omega) (by omega) (hch.tr f2) hr
          | inr d =>
            rw [er] at o2
            rw [dAll_no e0 er] at hr
            have ob := o2.1
            subst ob
            refine ⟨fun z => Bool.noConfusion z, fun _ => ?_⟩
            refine hJ _ _ _ _ ?_
            conv => whnf
            refine ⟨Or.inl rfl, h false σ2 ?_ (fun z => by cases z) (hch.tr f2)⟩
            rw [hr]
            exact o2
        rw [show σ1.1 3 0 7 = Int32.ofInt (kmC (kwT B L S.1)) from hc.1.2.2.2.2.2.2.1]
        refine ⟨fun c3 => ?_, fun c3 => ?_⟩ <;> (try simp (disch := omega) only [oi_le, oi_lt, oi_eq, oi_lt0, oi_le0, oi_0lt, oi_0le, oi_eq0, oi_eq1, bI_eq0, bI_ne0, bI_eq1, decide_eq_true_eq, decide_eq_false_iff_not, lc_lt, lc_gt, lc_eq, lc_ge, lc_le, ol_lt, ol_eq, ne_eq, Int.not_lt, Int.not_le, Bool.not_eq_true, Bool.not_eq_false, Decidable.not_not, not_true_eq_false, not_false_eq_true, Bool.true_eq_false, Bool.false_eq_true] at c3) <;> (first | (exfalso; omega) | ((with_reducible refine hJ _ _ _ _ ?_); conv => whnf) | (conv => whnf))
        · refine c_dstep hC hc hn1 hp (by omega) (fun bb σ2 o2 f2 => ?_)
          have nx := next bb σ2 o2 f2
          cases bb
          · conv => whnf
            refine ⟨fun c4 => ?_, fun c4 => ?_⟩ <;> (try simp (disch := omega) only [oi_le, oi_lt, oi_eq, oi_lt0, oi_le0, oi_0lt, oi_0le, oi_eq0, oi_eq1, bI_eq0, bI_ne0, bI_eq1, decide_eq_true_eq, decide_eq_false_iff_not, lc_lt, lc_gt, lc_eq, lc_ge, lc_le, ol_lt, ol_eq, ne_eq, Int.not_lt, Int.not_le, Bool.not_eq_true, Bool.not_eq_false, Decidable.not_not, not_true_eq_false, not_false_eq_true, Bool.true_eq_false, Bool.false_eq_true] at c4) <;> (first | (exfalso; omega) | ((fail_if_success with_reducible refine hJ _ _ _ _ ?_); conv => whnf) | skip)
            exact nx.2 rfl
          · conv => whnf
            refine ⟨fun c4 => ?_, fun c4 => ?_⟩ <;> (try simp (disch := omega) only [oi_le, oi_lt, oi_eq, oi_lt0, oi_le0, oi_0lt, oi_0le, oi_eq0, oi_eq1, bI_eq0, bI_ne0, bI_eq1, decide_eq_true_eq, decide_eq_false_iff_not, lc_lt, lc_gt, lc_eq, lc_ge, lc_le, ol_lt, ol_eq, ne_eq, Int.not_lt, Int.not_le, Bool.not_eq_true, Bool.not_eq_false, Decidable.not_not, not_true_eq_false, not_false_eq_true, Bool.true_eq_false, Bool.false_eq_true] at c4) <;> (first | (exfalso; omega) | ((fail_if_success with_reducible refine hJ _ _ _ _ ?_); conv => whnf) | skip)
            exact nx.1 rfl
        · refine c_dend hC hc hp.2.2.1 hp.2.1 hp.2.2.2.1 (fun i hi => (hp.2.2.2.2.2.2.2.1 i hi).1) (fun bb σ2 o2 f2 => ?_)
          rw [← dStep_18 (a := a) (b := b) (tn := tn) (mn := mn) (t21.mp c3)] at o2
          have nx := next bb σ2 o2 f2
          cases bb
          · conv => whnf
            refine ⟨fun c4 => ?_, fun c4 => ?_⟩ <;> (try simp (disch := omega) only [oi_le, oi_lt, oi_eq, oi_lt0, oi_le0, oi_0lt, oi_0le, oi_eq0, oi_eq1, bI_eq0, bI_ne0, bI_eq1, decide_eq_true_eq, decide_eq_false_iff_not, lc_lt, lc_gt, lc_eq, lc_ge, lc_le, ol_lt, ol_eq, ne_eq, Int.not_lt, Int.not_le, Bool.not_eq_true, Bool.not_eq_false, Decidable.not_not, not_true_eq_false, not_false_eq_true, Bool.true_eq_false, Bool.false_eq_true] at c4) <;> (first | (exfalso; omega) | ((fail_if_success with_reducible refine hJ _ _ _ _ ?_); conv => whnf) | skip)
            exact nx.2 rfl
          · conv => whnf
            refine ⟨fun c4 => ?_, fun c4 => ?_⟩ <;> (try simp (disch := omega) only [oi_le, oi_lt, oi_eq, oi_lt0, oi_le0, oi_0lt, oi_0le, oi_eq0, oi_eq1, bI_eq0, bI_ne0, bI_eq1, decide_eq_true_eq, decide_eq_false_iff_not, lc_lt, lc_gt, lc_eq, lc_ge, lc_le, ol_lt, ol_eq, ne_eq, Int.not_lt, Int.not_le, Bool.not_eq_true, Bool.not_eq_false, Decidable.not_not, not_true_eq_false, not_false_eq_true, Bool.true_eq_false, Bool.false_eq_true] at c4) <;> (first | (exfalso; omega) | ((fail_if_success with_reducible refine hJ _ _ _ _ ?_); conv => whnf) | skip)
            exact nx.1 rfl
  rw [show (wR (wR σ 7 0 3 p) 7 0 4 q).2.2 7 0 3 = p by rw [wR1, if_neg (by omega), wR1, if_pos ⟨rfl, rfl, rfl⟩]]
  refine ⟨hp5, ?_⟩
  conv => whnf
  refine s_dclear hC ?_
  conv => whnf
  have f6 : ChA (fun t i j => (t = 37 ∧ i = p) ∨ (t = 7 ∧ i = 0)) (fun _ _ _ => False) (wR (wR σ 7 0 3 p) 7 0 4 q) (wI (wI (wI (wI (wR (wR σ 7 0 3 p) 7 0 4 q) 37 p 6 (Int32.ofInt 0)) 37 p 7 (Int32.ofInt 0)) 37 p 8 (Int32.ofInt 0)) 7 0 2 (Int32.ofInt 0)) := (((ChA.wI (Or.inl ⟨rfl, rfl⟩)).tr (ChA.wI (Or.inl ⟨rfl, rfl⟩))).tr (ChA.wI (Or.inl ⟨rfl, rfl⟩))).tr (ChA.wI (Or.inr ⟨rfl, rfl⟩))
  have ha2 : AC (wR (wR σ 7 0 3 p) 7 0 4 q) B L f := ha
  refine key 301 0 (D0 f) (fun _ => 0) _ ⟨ha2.cha f6 (fun j _ z => by omega) (fun j z => by omega) (fun _ z => z) (fun z => z), ?_, hp5, ?_, hq, ?_, ?_, ?_, fun i hi => absurd hi (Nat.not_lt_zero i), fun k hk => absurd hk (Nat.not_lt_zero k), ?_, ?_⟩ (D0_DI ha.2.2.2.1) (by omega) (by omega) (f6.mo (fun t i j z => by unfold dyS; omega) (fun _ _ _ z => z.elim)) rfl
  · rw [f6.2.2, wR1, if_neg (by omega), wR1, if_pos ⟨rfl, rfl, rfl⟩]
  · rw [f6.2.2, wR1, if_pos ⟨rfl, rfl, rfl⟩]
  · rw [wI1, if_neg (by omega), wI1, if_neg (by omega), wI1, if_neg (by omega), wI_16]; rfl
  · rw [wI1, if_neg (by omega), wI1, if_neg (by omega), wI_16]; rfl
  · rw [wI_16]; rfl
  · rw [f6.1 _ _ _ (by omega)]; exact h33
  · rw [f6.1 _ _ _ (by omega)]; exact h34
