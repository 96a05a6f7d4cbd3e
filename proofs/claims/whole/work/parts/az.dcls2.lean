/-! the class reads a step: which one -/
def stX (x : Int) : Prop := (11 ≤ x ∧ x ≤ 16) ∨ x = 20 ∨ x = 22
theorem s_isStep {CALL : CT} (hC : RuleAll CALL) {r : Nat} {σ : AM} {K : AV → AM → Prop} {x : Int} (x1 : -1 ≤ x) (x2 : x ≤ 22) (h1 : stX x → K (.inl (Int32.ofInt 1)) σ) (h2 : ¬ stX x → K (.inl (Int32.ofInt 0)) σ) : CALL (r + 1) n_DaysReader_isStepWord [.inl (Int32.ofInt x)] σ K := by
  refine r_DaysReader_isStepWord hC (fun J hJ => ?_)
  refine hJ _ _ _ _ ?_
  conv => whnf
  have yes : stX x → J 48 [.inl (Int32.ofInt x)] [] σ := by
    intro z
    refine hJ _ _ _ _ ?_
    conv => whnf
    refine hJ _ _ _ _ ?_
    conv => whnf
    exact ⟨Or.inr rfl, h1 z⟩
  refine ⟨fun c1 => ?_, fun c1 => ?_⟩ <;> (try simp (disch := omega) only [oi_le, oi_lt, oi_eq, oi_lt0, oi_le0, oi_0lt, oi_0le, oi_eq0, oi_eq1, bI_eq0, bI_ne0, bI_eq1, decide_eq_true_eq, decide_eq_false_iff_not, lc_lt, lc_gt, lc_eq, lc_ge, lc_le, ol_lt, ol_eq, ne_eq, Int.not_lt, Int.not_le, Bool.not_eq_true, Bool.not_eq_false, Decidable.not_not, not_true_eq_false, not_false_eq_true, Bool.true_eq_false, Bool.false_eq_true] at c1) <;> (first | (exfalso; omega) | ((fail_if_success with_reducible refine hJ _ _ _ _ ?_); conv => whnf) | skip)
  · exact yes (by unfold stX; omega)
  refine ⟨fun c2 => ?_, fun c2 => ?_⟩ <;> (try simp (disch := omega) only [oi_le, oi_lt, oi_eq, oi_lt0, oi_le0, oi_0lt, oi_0le, oi_eq0, oi_eq1, bI_eq0, bI_ne0, bI_eq1, decide_eq_true_eq, decide_eq_false_iff_not, lc_lt, lc_gt, lc_eq, lc_ge, lc_le, ol_lt, ol_eq, ne_eq, Int.not_lt, Int.not_le, Bool.not_eq_true, Bool.not_eq_false, Decidable.not_not, not_true_eq_false, not_false_eq_true, Bool.true_eq_false, Bool.false_eq_true] at c2) <;> (first | (exfalso; omega) | ((fail_if_success with_reducible refine hJ _ _ _ _ ?_); conv => whnf) | skip)
  · exact yes (by unfold stX; omega)
  refine ⟨fun c3 => ?_, fun c3 => ?_⟩ <;> (try simp (disch := omega) only [oi_le, oi_lt, oi_eq, oi_lt0, oi_le0, oi_0lt, oi_0le, oi_eq0, oi_eq1, bI_eq0, bI_ne0, bI_eq1, decide_eq_true_eq, decide_eq_false_iff_not, lc_lt, lc_gt, lc_eq, lc_ge, lc_le, ol_lt, ol_eq, ne_eq, Int.not_lt, Int.not_le, Bool.not_eq_true, Bool.not_eq_false, Decidable.not_not, not_true_eq_false, not_false_eq_true, Bool.true_eq_false, Bool.false_eq_true] at c3) <;> (first | (exfalso; omega) | ((fail_if_success with_reducible refine hJ _ _ _ _ ?_); conv => whnf) | skip)
  · exact yes (by unfold stX; omega)
  refine ⟨fun c4 => ?_, fun c4 => ?_⟩ <;> (try simp (disch := omega) only [oi_le, oi_lt, oi_eq, oi_lt0, oi_le0, oi_0lt, oi_0le, oi_eq0, oi_eq1, bI_eq0, bI_ne0, bI_eq1, decide_eq_true_eq, decide_eq_false_iff_not, lc_lt, lc_gt, lc_eq, lc_ge, lc_le, ol_lt, ol_eq, ne_eq, Int.not_lt, Int.not_le, Bool.not_eq_true, Bool.not_eq_false, Decidable.not_not, not_true_eq_false, not_false_eq_true, Bool.true_eq_false, Bool.false_eq_true] at c4) <;> (first | (exfalso; omega) | ((fail_if_success with_reducible refine hJ _ _ _ _ ?_); conv => whnf) | skip)
  · exact yes (by unfold stX; omega)
  refine ⟨fun c5 => ?_, fun c5 => ?_⟩ <;> (try simp (disch := omega) only [oi_le, oi_lt, oi_eq, oi_lt0, oi_le0, oi_0lt, oi_0le, oi_eq0, oi_eq1, bI_eq0, bI_ne0, bI_eq1, decide_eq_true_eq, decide_eq_false_iff_not, lc_lt, lc_gt, lc_eq, lc_ge, lc_le, ol_lt, ol_eq, ne_eq, Int.not_lt, Int.not_le, Bool.not_eq_true, Bool.not_eq_false, Decidable.not_not, not_true_eq_false, not_false_eq_true, Bool.true_eq_false, Bool.false_eq_true] at c5) <;> (first | (exfalso; omega) | ((fail_if_success with_reducible refine hJ _ _ _ _ ?_); conv => whnf) | skip)
  · exact yes (by unfold stX; omega)
  refine ⟨fun c6 => ?_, fun c6 => ?_⟩ <;> (try simp (disch := omega) only [oi_le, oi_lt, oi_eq, oi_lt0, oi_le0, oi_0lt, oi_0le, oi_eq0, oi_eq1, bI_eq0, bI_ne0, bI_eq1, decide_eq_true_eq, decide_eq_false_iff_not, lc_lt, lc_gt, lc_eq, lc_ge, lc_le, ol_lt, ol_eq, ne_eq, Int.not_lt, Int.not_le, Bool.not_eq_true, Bool.not_eq_false, Decidable.not_not, not_true_eq_false, not_false_eq_true, Bool.true_eq_false, Bool.false_eq_true] at c6) <;> (first | (exfalso; omega) | ((fail_if_success with_reducible refine hJ _ _ _ _ ?_); conv => whnf) | skip)
  · exact yes (by unfold stX; omega)
  refine ⟨fun c7 => ?_, fun c7 => ?_⟩ <;> (try simp (disch := omega) only [oi_le, oi_lt, oi_eq, oi_lt0, oi_le0, oi_0lt, oi_0le, oi_eq0, oi_eq1, bI_eq0, bI_ne0, bI_eq1, decide_eq_true_eq, decide_eq_false_iff_not, lc_lt, lc_gt, lc_eq, lc_ge, lc_le, ol_lt, ol_eq, ne_eq, Int.not_lt, Int.not_le, Bool.not_eq_true, Bool.not_eq_false, Decidable.not_not, not_true_eq_false, not_false_eq_true, Bool.true_eq_false, Bool.false_eq_true] at c7) <;> (first | (exfalso; omega) | ((fail_if_success with_reducible refine hJ _ _ _ _ ?_); conv => whnf) | skip)
  · exact yes (by unfold stX; omega)
  refine ⟨fun c8 => ?_, fun c8 => ?_⟩ <;> (try simp (disch := omega) only [oi_le, oi_lt, oi_eq, oi_lt0, oi_le0, oi_0lt, oi_0le, oi_eq0, oi_eq1, bI_eq0, bI_ne0, bI_eq1, decide_eq_true_eq, decide_eq_false_iff_not, lc_lt, lc_gt, lc_eq, lc_ge, lc_le, ol_lt, ol_eq, ne_eq, Int.not_lt, Int.not_le, Bool.not_eq_true, Bool.not_eq_false, Decidable.not_not, not_true_eq_false, not_false_eq_true, Bool.true_eq_false, Bool.false_eq_true] at c8) <;> (first | (exfalso; omega) | ((fail_if_success with_reducible refine hJ _ _ _ _ ?_); conv => whnf) | skip)
  · refine hJ _ _ _ _ ?_
    conv => whnf
    refine hJ _ _ _ _ ?_
    conv => whnf
    exact ⟨Or.inl rfl, h2 (by unfold stX; omega)⟩
  · exact yes (by unfold stX; omega)
def adS1 (p s t i j : Nat) : Prop := (38 ≤ t ∧ t ≤ 43 ∧ i = p ∧ j = s) ∨ (t = 37 ∧ i = p ∧ j = 6)
def adS0 (p s t i j : Nat) : Prop := adS1 p s t i j ∨ (t = 37 ∧ i = p ∧ j = 7)
def adS (p s o t i j : Nat) : Prop := adS0 p s t i j ∨ (t = 7 ∧ i = 0 ∧ j = 2) ∨ (t = 8 ∧ i = 0 ∧ j = o)
theorem ad_dy {σ σ' : AM} {p s o : Nat} (h : ChA (adS p s o) (fun _ _ _ => False) σ σ') : ChA (dyS p) tkL σ σ' := h.mo (fun t i j z => by unfold adS adS0 adS1 at z; unfold dyS; omega) (fun _ _ _ z => z.elim)
theorem ad_ad {σ σ' : AM} {p s o : Nat} (h : ChA (adS0 p s) (fun _ _ _ => False) σ σ') : ChA (adS p s o) (fun _ _ _ => False) σ σ' := h.mo (fun _ _ _ z => Or.inl z) (fun _ _ _ z => z)
theorem dadd_ch {σ : AM} {p s : Nat} {x : Int} : ChA (adS1 p s) (fun _ _ _ => False) σ (daddS σ p s x) := by
  unfold daddS
  refine ChA.tr (ChA.tr (ChA.tr (ChA.tr (ChA.tr (ChA.tr (ChA.wI ?_) (ChA.wI ?_)) (ChA.wI ?_)) (ChA.wI ?_)) (ChA.wI ?_)) (ChA.wI ?_)) (ChA.wI ?_)
  all_goals (unfold adS1; omega)
theorem dadd_6 {σ : AM} {p s : Nat} {x : Int} : (daddS σ p s x).1 37 p 6 = Int32.ofInt ((s : Int) + 1) := wI_16
theorem dadd_38 {σ : AM} {p s : Nat} {x : Int} : (daddS σ p s x).1 38 p s = Int32.ofInt x := by
  unfold daddS
  rw [wI1, if_neg (by omega), wI1, if_neg (by omega), wI1, if_neg (by omega), wI1, if_neg (by omega), wI1, if_neg (by omega), wI1, if_neg (by omega), wI_16]
theorem CDy.ad {σ σ' : AM} {B : Nat → Int} {L p q op : Nat} {S : DZ} (h : CDy σ B L p q S) (hc : ChA (adS p S.2.1 S.2.2.2.1) (fun _ _ _ => False) σ σ') (e6 : σ'.1 37 p 6 = Int32.ofInt ((S.2.1 : Int) + 1)) (e7 : σ'.1 37 p 7 = Int32.ofInt ((S.2.2.2.2.2 : Int) + 1)) (e2 : σ'.1 7 0 2 = Int32.ofInt ((S.2.2.2.1 : Int) + (op : Int))) (e8 : op = 1 → σ'.1 8 0 S.2.2.2.1 = Int32.ofInt (S.2.1 : Int)) : CP σ' B L p q S op S.1 := by
  obtain ⟨h1, h2, h3, h4, h5, h6, h7, h8, h9, h10, h11, h12⟩ := h
  refine ⟨h1.cha hc (fun j _ z => by unfold adS adS0 adS1 at z; omega) (fun j z => by unfold adS adS0 adS1 at z; omega) (fun _ z => z) (fun z => z), by rw [hc.2.2]; exact h2, h3, by rw [hc.2.2]; exact h4, h5, e6, e7, e2, fun i hi => by rw [hc.1 _ _ _ (by unfold adS adS0 adS1; omega)]; exact h9 i hi, e8, fun k hk => ⟨(h10 k hk).1.cg (fun t _ _ => hc.1 _ _ _ (by unfold adS adS0 adS1; omega)), fun z1 z2 => by rw [hc.1 _ _ _ (by unfold adS adS0 adS1; omega)]; exact (h10 k hk).2 z1 z2⟩, by rw [hc.1 _ _ _ (by unfold adS adS0 adS1; omega)]; exact h11, by rw [hc.1 _ _ _ (by unfold adS adS0 adS1; omega)]; exact h12⟩
theorem c_dadd {CALL : CT} (hC : RuleAll CALL) {r : Nat} {σ : AM} {K : AV → AM → Prop} {B : Nat → Int} {L p q : Nat} {x : Int} {S : DZ} (hc : CDy σ B L p q S) (hs : S.2.1 + S.2.2.2.1 ≤ 2 * S.2.2.2.2.2) (hn : S.2.2.2.2.2 ≤ 30) (ho : S.2.2.2.1 ≤ 3) (x1 : -1 ≤ x) (x2 : x ≤ 22) (h1 : ¬ stX x → K (.inl (Int32.ofInt (-1))) (fC σ B L S.1 2)) (h2 : stX x → 30 ≤ S.2.2.2.2.2 → K (.inl (Int32.ofInt (-1))) (fC σ B L S.1 6)) (h3 : stX x → S.2.2.2.2.2 < 30 → x = 16 ∨ x = 20 → 3 ≤ S.2.2.2.1 → K (.inl (Int32.ofInt (-1))) (fC σ B L S.1 7)) (h4 : ∀ (op : Nat) (σ' : AM), stX x → S.2.2.2.2.2 < 30 → (x = 16 ∨ x = 20 → S.2.2.2.1 < 3 ∧ op = 1) → (¬ (x = 16 ∨ x = 20) → op = 0) → CP σ' B L p q S op S.1 → σ'.1 38 p S.2.1 = Int32.ofInt x → ChA (dyS p) tkL σ σ' → K (.inl (Int32.ofInt (S.2.1 : Int))) σ') : CALL (r + 2) n_DaysReader_addStep [.inr (.inr (7, 0)), .inl (Int32.ofInt x)] σ K := by
  refine r_DaysReader_addStep hC (fun J hJ => ?_)
  refine hJ _ _ _ _ ?_
  conv => whnf
  obtain ⟨k1, k2, k3, k4, k5, k6, k7, k8, k9, k10, k11, k12⟩ := id hc
  have f65 : ∀ (w : Int32) (c : Int), 1 ≤ c → c ≤ 9 → K (.inl (Int32.ofInt (-1))) (fC σ B L S.1 c) → J 65 [.inr (.inr (7, 0)), .inl (Int32.ofInt x), .inl w, .inl (Int32.ofInt c), unset] [] σ := by
    intro w c b1 b2 hk
    refine hJ _ _ _ _ ?_
    conv => whnf
    refine ⟨fun z => ?_, fun z => ?_⟩ <;> (try simp (disch := omega) only [oi_le, oi_lt, oi_eq, oi_lt0, oi_le0, oi_0lt, oi_0le, oi_eq0, oi_eq1, bI_eq0, bI_ne0, bI_eq1, decide_eq_true_eq, decide_eq_false_iff_not, lc_lt, lc_gt, lc_eq, lc_ge, lc_le, ol_lt, ol_eq, ne_eq, Int.not_lt, Int.not_le, Bool.not_eq_true, Bool.not_eq_false, Decidable.not_not, not_true_eq_false, not_false_eq_true, Bool.true_eq_false, Bool.false_eq_true] at z) <;> (first | (exfalso; omega) | ((with_reducible refine hJ _ _ _ _ ?_); conv => whnf) | (conv => whnf))
    refine s_fail hC k1.2.2.2 ?_
    conv => whnf
    exact hk
  have g65 : stX x → S.2.2.2.2.2 < 30 → ∀ op : Nat, op ≤ 1 → (x = 16 ∨ x = 20 → S.2.2.2.1 < 3 ∧ op = 1) → (¬ (x = 16 ∨ x = 20) → op = 0) → J 65 [.inr (.inr (7, 0)), .inl (Int32.ofInt x), .inl (Int32.ofInt (op : Int)), .inl (Int32.ofInt 0), unset] [] σ := by
    intro z1 z2 op opl o1 o2
    refine hJ _ _ _ _ ?_
    conv => whnf
    refine ⟨fun z => ?_, fun z => ?_⟩ <;> (try simp (disch := omega) only [oi_le, oi_lt, oi_eq, oi_lt0, oi_le0, oi_0lt, oi_0le, oi_eq0, oi_eq1, bI_eq0, bI_ne0, bI_eq1, decide_eq_true_eq, decide_eq_false_iff_not, lc_lt, lc_gt, lc_eq, lc_ge, lc_le, ol_lt, ol_eq, ne_eq, Int.not_lt, Int.not_le, Bool.not_eq_true, Bool.not_eq_false, Decidable.not_not, not_true_eq_false, not_false_eq_true, Bool.true_eq_false, Bool.false_eq_true] at z) <;> (first | (exfalso; omega) | ((with_reducible refine hJ _ _ _ _ ?_); conv => whnf) | (conv => whnf))
    rw [k2]
    refine ⟨k3, ?_⟩
    conv => whnf
    refine s_dadd hC k6 (by omega) ?_
    conv => whnf
    rw [show (daddS σ p S.2.1 x).2.2 7 0 3 = p from k2]
    refine ⟨k3, ?_⟩
    conv => whnf
    have w0 : ChA (adS0 p S.2.1) (fun _ _ _ => False) σ (wI (daddS σ p S.2.1 x) 37 p 7 (Int32.ofInt ((S.2.2.2.2.2 : Int) + 1))) := (dadd_ch.mo (fun _ _ _ z => Or.inl z) (fun _ _ _ z => z)).tr (ChA.wI (Or.inr ⟨rfl, rfl, rfl⟩))
    have w6 : (wI (daddS σ p S.2.1 x) 37 p 7 (Int32.ofInt ((S.2.2.2.2.2 : Int) + 1))).1 37 p 6 = Int32.ofInt ((S.2.1 : Int) + 1) := by rw [wI1, if_neg (by omega)]; exact dadd_6
    have w7 : (wI (daddS σ p S.2.1 x) 37 p 7 (Int32.ofInt ((S.2.2.2.2.2 : Int) + 1))).1 37 p 7 = Int32.ofInt ((S.2.2.2.2.2 : Int) + 1) := wI_16
    have w38 : (wI (daddS σ p S.2.1 x) 37 p 7 (Int32.ofInt ((S.2.2.2.2.2 : Int) + 1))).1 38 p S.2.1 = Int32.ofInt x := by rw [wI1, if_neg (by omega)]; exact dadd_38
    rw [(dadd_ch (σ := σ) (p := p) (s := S.2.1) (x := x)).1 37 p 7 (by unfold adS1; omega), k7, oi_add]
    revert w0 w6 w7 w38
    generalize (wI (daddS σ p S.2.1 x) 37 p 7 (Int32.ofInt ((S.2.2.2.2.2 : Int) + 1))) = τ
    intro w0 w6 w7 w38
    have w72 : τ.1 7 0 2 = Int32.ofInt (S.2.2.2.1 : Int) := by rw [w0.1 _ _ _ (by unfold adS0 adS1; omega)]; exact k8
    refine ⟨fun y => ?_, fun y => ?_⟩ <;> (try simp (disch := omega) only [oi_le, oi_lt, oi_eq, oi_lt0, oi_le0, oi_0lt, oi_0le, oi_eq0, oi_eq1, bI_eq0, bI_ne0, bI_eq1, decide_eq_true_eq, decide_eq_false_iff_not, lc_lt, lc_gt, lc_eq, lc_ge, lc_le, ol_lt, ol_eq, ne_eq, Int.not_lt, Int.not_le, Bool.not_eq_true, Bool.not_eq_false, Decidable.not_not, not_true_eq_false, not_false_eq_true, Bool.true_eq_false, Bool.false_eq_true] at y) <;> (first | (exfalso; omega) | ((with_reducible refine hJ _ _ _ _ ?_); conv => whnf) | (conv => whnf))
    · have e : op = 0 := by omega
      subst e
      exact h4 0 τ z1 z2 o1 o2 (hc.ad (ad_ad w0) w6 w7 (by rw [w72]; congr 1) (fun e => by omega)) w38 (ad_dy (o := 0) (ad_ad w0))
    · have e : op = 1 := by omega
      subst e
      have o3 : S.2.2.2.1 < 3 := (o1 (by omega)).1
      rw [w72]
      refine ⟨(oi_in (by omega) (by omega)).mpr ⟨by omega, by omega⟩, ?_⟩
      conv => whnf
      rw [oi_nat (by omega) (by omega), Int.toNat_natCast, wI1, if_neg (by omega), w72, oi_add]
      refine hJ _ _ _ _ ?_
      conv => whnf
      have w9 : ChA (adS p S.2.1 S.2.2.2.1) (fun _ _ _ => False) σ (wI (wI τ 8 0 S.2.2.2.1 (Int32.ofInt (S.2.1 : Int))) 7 0 2 (Int32.ofInt ((S.2.2.2.1 : Int) + 1))) := ((ad_ad w0).tr (ChA.wI (Or.inr (Or.inr ⟨rfl, rfl, rfl⟩)))).tr (ChA.wI (Or.inr (Or.inl ⟨rfl, rfl, rfl⟩)))
      refine h4 1 _ z1 z2 o1 o2 (hc.ad w9 ?_ ?_ wI_16 (fun _ => ?_)) ?_ (ad_dy w9)
      · rw [wI1, if_neg (by omega), wI1, if_neg (by omega)]; exact w6
      · rw [wI1, if_neg (by omega), wI1, if_neg (by omega)]; exact w7
      · rw [wI1, if_neg (by omega), wI_16]
      · rw [wI1, if_neg (by omega), wI1, if_neg (by omega)]; exact w38
  have at17 : ∀ op : Nat, op ≤ 1 → (x = 16 ∨ x = 20 → op = 1) → (¬ (x = 16 ∨ x = 20) → op = 0) → J 17 [.inr (.inr (7, 0)), .inl (Int32.ofInt x), unset, unset, unset] [.inl (Int32.ofInt (op : Int))] σ := by
    intro op opl o1 o2
    refine hJ _ _ _ _ ?_
    conv => whnf
    refine s_isStep hC x1 x2 (fun z => ?_) (fun z => ?_)
    · conv => whnf
      refine ⟨fun y => ?_, fun y => ?_⟩ <;> (try simp (disch := omega) only [oi_le, oi_lt, oi_eq, oi_lt0, oi_le0, oi_0lt, oi_0le, oi_eq0, oi_eq1, bI_eq0, bI_ne0, bI_eq1, decide_eq_true_eq, decide_eq_false_iff_not, lc_lt, lc_gt, lc_eq, lc_ge, lc_le, ol_lt, ol_eq, ne_eq, Int.not_lt, Int.not_le, Bool.not_eq_true, Bool.not_eq_false, Decidable.not_not, not_true_eq_false, not_false_eq_true, Bool.true_eq_false, Bool.false_eq_true] at y) <;> (first | (exfalso; omega) | ((with_reducible refine hJ _ _ _ _ ?_); conv => whnf) | (conv => whnf))
      rw [k2]
      refine ⟨k3, ?_⟩
      conv => whnf
      rw [k7]
      refine ⟨fun y2 => ?_, fun y2 => ?_⟩ <;> (try simp (disch := omega) only [oi_le, oi_lt, oi_eq, oi_lt0, oi_le0, oi_0lt, oi_0le, oi_eq0, oi_eq1, bI_eq0, bI_ne0, bI_eq1, decide_eq_true_eq, decide_eq_false_iff_not, lc_lt, lc_gt, lc_eq, lc_ge, lc_le, ol_lt, ol_eq, ne_eq, Int.not_lt, Int.not_le, Bool.not_eq_true, Bool.not_eq_false, Decidable.not_not, not_true_eq_false, not_false_eq_true, Bool.true_eq_false, Bool.false_eq_true] at y2) <;> (first | (exfalso; omega) | ((with_reducible refine hJ _ _ _ _ ?_); conv => whnf) | (conv => whnf))
      · refine ⟨fun y3 => ?_, fun y3 => ?_⟩ <;> (try simp (disch := omega) only [oi_le, oi_lt, oi_eq, oi_lt0, oi_le0, oi_0lt, oi_0le, oi_eq0, oi_eq1, bI_eq0, bI_ne0, bI_eq1, decide_eq_true_eq, decide_eq_false_iff_not, lc_lt, lc_gt, lc_eq, lc_ge, lc_le, ol_lt, ol_eq, ne_eq, Int.not_lt, Int.not_le, Bool.not_eq_true, Bool.not_eq_false, Decidable.not_not, not_true_eq_false, not_false_eq_true, Bool.true_eq_false, Bool.false_eq_true] at y3) <;> (first | (exfalso; omega) | ((fail_if_success with_reducible refine hJ _ _ _ _ ?_); conv => whnf) | skip)
        · exact g65 z (by omega) op opl (fun e => absurd (o1 e) (by omega)) (fun e => o2 e)
        · rw [k8]
          refine ⟨fun y4 => ?_, fun y4 => ?_⟩ <;> (try simp (disch := omega) only [oi_le, oi_lt, oi_eq, oi_lt0, oi_le0, oi_0lt, oi_0le, oi_eq0, oi_eq1, bI_eq0, bI_ne0, bI_eq1, decide_eq_true_eq, decide_eq_false_iff_not, lc_lt, lc_gt, lc_eq, lc_ge, lc_le, ol_lt, ol_eq, ne_eq, Int.not_lt, Int.not_le, Bool.not_eq_true, Bool.not_eq_false, Decidable.not_not, not_true_eq_false, not_false_eq_true, Bool.true_eq_false, Bool.false_eq_true] at y4) <;> (first | (exfalso; omega) | ((fail_if_success with_reducible refine hJ _ _ _ _ ?_); conv => whnf) | skip)
          · exact g65 z (by omega) op opl (fun e => ⟨by omega, o1 e⟩) o2
          · exact f65 _ 7 (by omega) (by omega) (h3 z (by omega) (Decidable.byContradiction (fun e => by have := o2 e; omega)) (by omega))
      · exact f65 _ 6 (by omega) (by omega) (h2 z (by omega))
    · conv => whnf
      refine ⟨fun y => ?_, fun y => ?_⟩ <;> (try simp (disch := omega) only [oi_le, oi_lt, oi_eq, oi_lt0, oi_le0, oi_0lt, oi_0le, oi_eq0, oi_eq1, bI_eq0, bI_ne0, bI_eq1, decide_eq_true_eq, decide_eq_false_iff_not, lc_lt, lc_gt, lc_eq, lc_ge, lc_le, ol_lt, ol_eq, ne_eq, Int.not_lt, Int.not_le, Bool.not_eq_true, Bool.not_eq_false, Decidable.not_not, not_true_eq_false, not_false_eq_true, Bool.true_eq_false, Bool.false_eq_true] at y) <;> (first | (exfalso; omega) | ((with_reducible refine hJ _ _ _ _ ?_); conv => whnf) | (conv => whnf))
      exact f65 _ 2 (by omega) (by omega) (h1 z)
  refine ⟨fun c1 => ?_, fun c1 => ?_⟩ <;> (try simp (disch := omega) only [oi_le, oi_lt, oi_eq, oi_lt0, oi_le0, oi_0lt, oi_0le, oi_eq0, oi_eq1, bI_eq0, bI_ne0, bI_eq1, decide_eq_true_eq, decide_eq_false_iff_not, lc_lt, lc_gt, lc_eq, lc_ge, lc_le, ol_lt, ol_eq, ne_eq, Int.not_lt, Int.not_le, Bool.not_eq_true, Bool.not_eq_false, Decidable.not_not, not_true_eq_false, not_false_eq_true, Bool.true_eq_false, Bool.false_eq_true] at c1) <;> (first | (exfalso; omega) | ((fail_if_success with_reducible refine hJ _ _ _ _ ?_); conv => whnf) | skip)
  · refine hJ _ _ _ _ ?_
    conv => whnf
    exact at17 1 (by omega) (by omega) (by omega)
  · refine ⟨fun c2 => ?_, fun c2 => ?_⟩ <;> (try simp (disch := omega) only [oi_le, oi_lt, oi_eq, oi_lt0, oi_le0, oi_0lt, oi_0le, oi_eq0, oi_eq1, bI_eq0, bI_ne0, bI_eq1, decide_eq_true_eq, decide_eq_false_iff_not, lc_lt, lc_gt, lc_eq, lc_ge, lc_le, ol_lt, ol_eq, ne_eq, Int.not_lt, Int.not_le, Bool.not_eq_true, Bool.not_eq_false, Decidable.not_not, not_true_eq_false, not_false_eq_true, Bool.true_eq_false, Bool.false_eq_true] at c2) <;> (first | (exfalso; omega) | ((fail_if_success with_reducible refine hJ _ _ _ _ ?_); conv => whnf) | skip)
    · refine hJ _ _ _ _ ?_
      conv => whnf
      exact at17 0 (by omega) (by omega) (by omega)
    · refine hJ _ _ _ _ ?_
      conv => whnf
      exact at17 1 (by omega) (by omega) (by omega)
