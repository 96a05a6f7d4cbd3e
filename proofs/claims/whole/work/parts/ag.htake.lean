/-! a house that nobody told anything -/
def hZ : Nat → Int := fun j => if j = 3 then 10 else if j = 4 then 1 else if j = 9 ∨ j = 10 then -1 else 0
theorem hZ_0 {j : Nat} (h : j ≠ 3 ∧ j ≠ 4 ∧ j ≠ 9 ∧ j ≠ 10) : hZ j = 0 := by
  unfold hZ
  rw [if_neg h.1, if_neg h.2.1, if_neg (by omega)]
theorem hZ_WP : WP hZ := by
  refine ⟨⟨by decide, fun t ht => ?_, fun t ht => ?_, fun t ht => ?_⟩, by decide, by decide⟩
  · rw [hZ_0 (by omega)] at ht; omega
  · rw [hZ_0 (by omega)] at ht; omega
  · rw [hZ_0 (by omega)] at ht; omega
def S0 (f : Nat) : PS := (f, hZ, fun _ => [], fun _ => [], false, false)
theorem S0_PI {L f : Nat} (h : f ≤ L) : PI L (S0 f) := by
  refine ⟨h, hZ_WP, rfl, rfl, rfl, rfl, rfl, rfl, fun t _ _ => hZ_0 (by omega), fun m w _ _ _ _ => hZ_0 (by omega), fun a b ha hb => ?_, fun t ht => ?_, fun t ht => ?_, fun a b ha hb => ?_, fun a b ha hb => ?_⟩
  · have ha : (a : Int) < hZ 1 := ha
    rw [hZ_0 (by omega)] at ha; omega
  · have ht : (t : Int) < hZ 0 := ht
    rw [hZ_0 (by omega)] at ht; omega
  · have ht : (t : Int) < hZ 1 := ht
    rw [hZ_0 (by omega)] at ht; omega
  · have ha : (a : Int) < hZ 1 := ha
    rw [hZ_0 (by omega)] at ha; omega
  · have ha : (a : Int) < hZ 1 := ha
    rw [hZ_0 (by omega)] at ha; omega
theorem s_mclear {CALL : CT} (hC : RuleAll CALL) {r : Nat} {σ : AM} {K : AV → AM → Prop} {q : Nat} (h : K unset (wI (wI σ 27 q 8 (Int32.ofInt 0)) 27 q 7 (Int32.ofInt 0))) : CALL (r + 1) n_Monks_clear [.inr (.inr (27, q))] σ K := by
  refine r_Monks_clear hC (fun J hJ => ?_)
  refine hJ _ _ _ _ ?_
  conv => whnf
  exact h
def hclrS (σ : AM) (q : Nat) : AM := wI (wI (wI (wI (wI (wI (wI (wI (wI (wI (wI σ 23 q 3 (Int32.ofInt 0)) 27 q 8 (Int32.ofInt 0)) 27 q 7 (Int32.ofInt 0)) 22 q 4 (Int32.ofInt 0)) 22 q 5 (Int32.ofInt 10)) 22 q 6 (Int32.ofInt 1)) 22 q 7 (Int32.ofInt 0)) 22 q 8 (Int32.ofInt 0)) 22 q 9 (Int32.ofInt 0)) 22 q 10 (Int32.ofInt 0)) 22 q 11 (Int32.ofInt (-1))
theorem s_hclear {CALL : CT} (hC : RuleAll CALL) {r : Nat} {σ : AM} {K : AV → AM → Prop} {q : Nat} (h : K unset (hclrS σ q)) : CALL (r + 2) n_House_clear [.inr (.inr (22, q))] σ K := by
  refine r_House_clear hC (fun J hJ => ?_)
  refine hJ _ _ _ _ ?_
  conv => whnf
  refine s_mclear hC ?_
  conv => whnf
  exact h
theorem hclr_hs {σ : AM} {q : Nat} : ChA (fun t i _ => HS q t i) (fun _ _ _ => False) σ (hclrS σ q) := by
  unfold hclrS
  refine ChA.tr (ChA.tr (ChA.tr (ChA.tr (ChA.tr (ChA.tr (ChA.tr (ChA.tr (ChA.tr (ChA.tr (ChA.wI ?_) (ChA.wI ?_)) (ChA.wI ?_)) (ChA.wI ?_)) (ChA.wI ?_)) (ChA.wI ?_)) (ChA.wI ?_)) (ChA.wI ?_)) (ChA.wI ?_)) (ChA.wI ?_)) (ChA.wI ?_)
  all_goals exact ⟨by omega, by omega, rfl⟩
theorem hclr_HRep {σ : AM} {q : Nat} : HRep (hclrS σ q) q hZ := by
  have aw : awS hZ = 0 := by decide
  refine ⟨?_, ?_, ?_, ?_, ?_, ?_, ?_, ?_, ?_, ?_, ?_, fun t ht => ?_, fun m hm => ?_, fun e he => ?_⟩
  any_goals (rw [hZ_0 (by omega)] at *; omega)
  all_goals (unfold hclrS; simp only [wI1, aw]; simp; try rfl)
theorem c_takes {CALL : CT} (hC : RuleAll CALL) {r : Nat} {σ : AM} {K : AV → AM → Prop} {B : Nat → Int} {L q f : Nat} (ha : AC σ B L f) (hq : q < 9) (h33 : σ.1 3 0 3 = Int32.ofInt 0) (h34 : σ.1 3 0 4 = Int32.ofInt (-1)) (h : ∀ (b : Bool) (σ' : AM), OC σ' B L q (rAll B L 901 (S0 f)) b → ChA (hrS q) (hrL q) (wR σ 6 0 1 q) σ' → K (.inl (bI b)) σ') : CALL (r + 6) n_HouseReader_takes [.inr (.inr (6, 0)), .inr (.inr (22, q))] σ K := by
  refine r_HouseReader_takes hC (fun J hJ => ?_)
  refine hJ _ _ _ _ ?_
  conv => whnf
  have hl : L ≤ 900 := ha.2.1.1
  have key : ∀ (n i : Nat) (S : PS) (σ1 : AM), CR σ1 B L q S → PI L S → i + n = 901 → i ≤ S.1 → ChA (hrS q) (hrL q) (wR σ 6 0 1 q) σ1 → rAll B L 901 (S0 f) = rAll B L n S → J 24 [.inr (.inr (6, 0)), .inr (.inr (22, q)), .inl (Int32.ofInt (i : Int))] [] σ1 := by
    intro n
    induction n with
    | zero =>
      intro i S σ1 hc hp hi hs hch hr
      have := hp.1
      omega
    | succ n ih =>
      intro i S σ1 hc hp hi hs hch hr
      have kb := kC_eq (B := B) (L := L) (f := S.1)
      have hpl := hp.1
      refine hJ _ _ _ _ ?_
      conv => whnf
      refine ⟨fun c => ?_, fun c => ?_⟩ <;> (try simp (disch := omega) only [oi_le, oi_lt, oi_eq, oi_lt0, oi_le0, oi_0lt, oi_0le, oi_eq0, oi_eq1, bI_eq0, bI_ne0, bI_eq1, decide_eq_true_eq, decide_eq_false_iff_not, lc_lt, lc_gt, lc_eq, lc_ge, lc_le, ol_lt, ol_eq, ne_eq, Int.not_lt, Int.not_le, Bool.not_eq_true, Bool.not_eq_false, Decidable.not_not, not_true_eq_false, not_false_eq_true, Bool.true_eq_false, Bool.false_eq_true] at c) <;> (first | (exfalso; omega) | ((fail_if_success with_reducible refine hJ _ _ _ _ ?_); conv => whnf) | skip)
      rw [show σ1.1 3 0 5 = Int32.ofInt (kC (kdT B L S.1)) from hc.1.2.2.2.2.1]
      refine ⟨fun c2 => ?_, fun c2 => ?_⟩ <;> (try simp (disch := omega) only [oi_le, oi_lt, oi_eq, oi_lt0, oi_le0, oi_0lt, oi_0le, oi_eq0, oi_eq1, bI_eq0, bI_ne0, bI_eq1, decide_eq_true_eq, decide_eq_false_iff_not, lc_lt, lc_gt, lc_eq, lc_ge, lc_le, ol_lt, ol_eq, ne_eq, Int.not_lt, Int.not_le, Bool.not_eq_true, Bool.not_eq_false, Decidable.not_not, not_true_eq_false, not_false_eq_true, Bool.true_eq_false, Bool.false_eq_true] at c2) <;> (first | (exfalso; omega) | ((with_reducible refine hJ _ _ _ _ ?_); conv => whnf) | (conv => whnf))
      · have e0 := kb.2.2.2.2.1.mp c2
        rw [rAll_end e0] at hr
        refine ⟨Or.inr rfl, h true σ1 ?_ hch⟩
        rw [hr]
        exact ⟨rfl, hc⟩
      · have e0 : kdT B L S.1 ≠ 0 := fun z => c2 (kb.2.2.2.2.1.mpr z)
        refine c_part hC hc hp (fun b σ2 o2 f2 => ?_)
        cases er : rPart B L S with
        | inl S' =>
          rw [er] at o2
          obtain ⟨ob, hc2⟩ := o2
          subst ob
          have pk := rPart_ok hp er
          rw [rAll_go e0 er] at hr
          conv => whnf
          refine ⟨fun c3 => ?_, fun c3 => ?_⟩ <;> (try simp (disch := omega) only [oi_le, oi_lt, oi_eq, oi_lt0, oi_le0, oi_0lt, oi_0le, oi_eq0, oi_eq1, bI_eq0, bI_ne0, bI_eq1, decide_eq_true_eq, decide_eq_false_iff_not, lc_lt, lc_gt, lc_eq, lc_ge, lc_le, ol_lt, ol_eq, ne_eq, Int.not_lt, Int.not_le, Bool.not_eq_true, Bool.not_eq_false, Decidable.not_not, not_true_eq_false, not_false_eq_true, Bool.true_eq_false, Bool.false_eq_true] at c3) <;> (first | (exfalso; omega) | ((with_reducible refine hJ _ _ _ _ ?_); conv => whnf) | (conv => whnf))
          rw [oi_add]
          exact ih (i + 1) S' σ2 hc2 pk.1 (by omega) (by omega) (hch.tr f2) hr
        | inr d =>
          rw [er] at o2
          rw [rAll_no e0 er] at hr
          have ob := o2.1
          subst ob
          conv => whnf
          refine ⟨fun c3 => ?_, fun c3 => ?_⟩ <;> (try simp (disch := omega) only [oi_le, oi_lt, oi_eq, oi_lt0, oi_le0, oi_0lt, oi_0le, oi_eq0, oi_eq1, bI_eq0, bI_ne0, bI_eq1, decide_eq_true_eq, decide_eq_false_iff_not, lc_lt, lc_gt, lc_eq, lc_ge, lc_le, ol_lt, ol_eq, ne_eq, Int.not_lt, Int.not_le, Bool.not_eq_true, Bool.not_eq_false, Decidable.not_not, not_true_eq_false, not_false_eq_true, Bool.true_eq_false, Bool.false_eq_true] at c3) <;> (first | (exfalso; omega) | ((with_reducible refine hJ _ _ _ _ ?_); conv => whnf) | (conv => whnf))
          refine ⟨Or.inl rfl, h false σ2 ?_ (hch.tr f2)⟩
          rw [hr]
          exact o2
  refine ⟨hq, ?_⟩
  conv => whnf
  rw [show (wR σ 6 0 1 q).2.2 6 0 1 = q by rw [wR1, if_pos ⟨rfl, rfl, rfl⟩]]
  refine s_hclear hC ?_
  conv => whnf
  refine ⟨Or.inl rfl, ?_⟩
  conv => whnf
  refine ⟨Or.inl rfl, ?_⟩
  conv => whnf
  have f6 : ChA (fun t i _ => HS q t i ∨ (t = 6 ∧ i = 0)) (fun _ _ _ => False) (wR σ 6 0 1 q) (wI (wI (hclrS (wR σ 6 0 1 q) q) 6 0 2 (Int32.ofInt 0)) 6 0 3 (Int32.ofInt 0)) := ((hclr_hs.mo (fun _ _ _ z => Or.inl z) (fun _ _ _ z => z)).tr (ChA.wI (Or.inr ⟨rfl, rfl⟩))).tr (ChA.wI (Or.inr ⟨rfl, rfl⟩))
  refine key 901 0 (S0 f) _ ?_ (S0_PI ha.2.2.2.1) (by omega) (by omega) ?_ rfl
  · have ha2 : AC (wR σ 6 0 1 q) B L f := ha
    refine ⟨ha2.cha f6 (fun j _ z => by unfold HS at z; omega) (fun j z => by unfold HS at z; omega) (fun _ z => z) (fun z => z), ?_, fun t ht => ?_, fun t ht => ?_, ?_, hq, ?_, ?_, ?_, ?_⟩
    · exact (hclr_HRep (σ := wR σ 6 0 1 q)).cha (S := fun t i j => t = 6) (SL := fun _ _ _ => False) ((ChA.wI rfl).tr (ChA.wI rfl)) (fun t j a b => by omega)
    · have ht : (t : Int) < hZ 0 := ht
      rw [hZ_0 (by omega)] at ht; omega
    · have ht : (t : Int) < hZ 1 := ht
      rw [hZ_0 (by omega)] at ht; omega
    · rw [f6.2.2, wR1, if_pos ⟨rfl, rfl, rfl⟩]
    · rw [wI1, if_neg (by omega), wI_16]; rfl
    · rw [wI_16]; rfl
    · rw [f6.1 _ _ _ (by unfold HS; omega)]; exact h33
    · rw [f6.1 _ _ _ (by unfold HS; omega)]; exact h34
  · exact f6.mo (fun t i j z => by
      rcases z with z | z
      · exact Or.inr (Or.inl z)
      · exact Or.inr (Or.inr z)) (fun _ _ _ z => z.elim)
