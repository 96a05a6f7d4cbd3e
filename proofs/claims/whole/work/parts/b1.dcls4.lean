def ndS (p s u t i j : Nat) : Prop := adS1 p s t i j ∨ (t = 7 ∧ i = 0 ∧ j = 2) ∨ (t = 43 ∧ i = p ∧ j = u)
theorem CDy.end {σ σ' : AM} {B : Nat → Int} {L p q : Nat} {S : DZ} (h : CDy σ B L p q S) (ho : 1 ≤ S.2.2.2.1) (hk : ∀ i, i < S.2.2.2.1 → S.2.2.2.2.1 i < S.2.1) (hc : ChA (ndS p S.2.1 (S.2.2.2.2.1 (S.2.2.2.1 - 1))) (fun _ _ _ => False) σ σ') (e6 : σ'.1 37 p 6 = Int32.ofInt ((S.2.1 : Int) + 1)) (e38 : σ'.1 38 p S.2.1 = Int32.ofInt 21) (e2 : σ'.1 7 0 2 = Int32.ofInt (((S.2.2.2.1 - 1 : Nat)) : Int)) (es : σ'.1 43 p S.2.1 = Int32.ofInt ((S.2.2.2.2.1 (S.2.2.2.1 - 1) : Nat) : Int)) (et : σ'.1 43 p (S.2.2.2.2.1 (S.2.2.2.1 - 1)) = Int32.ofInt (S.2.1 : Int)) : CDy σ' B L p q (dEnd S S.1) := by
  obtain ⟨f0, s, d, o, stk, non⟩ := S
  obtain ⟨h1, h2, h3, h4, h5, h6, h7, h8, h9, h10, h11, h12⟩ := h
  dsimp only at h6 h7 h8 h9 h10 ho hk hc e6 e38 e2 es et
  have t1 := hk (o - 1) (by omega)
  unfold dEnd
  dsimp only
  revert t1 hc es et
  generalize ht : stk (o - 1) = u
  intro hc es et t1
  refine ⟨h1.cha hc (fun j _ z => by unfold ndS adS1 at z; omega) (fun j z => by unfold ndS adS1 at z; omega) (fun _ z => z) (fun z => z), by rw [hc.2.2]; exact h2, h3, by rw [hc.2.2]; exact h4, h5, by rw [e6]; rfl, by rw [hc.1 _ _ _ (by unfold ndS adS1; omega)]; exact h7, e2, fun i hi => by rw [hc.1 _ _ _ (by unfold ndS adS1; omega)]; exact h9 i (by have : i < o - 1 := hi; omega), fun k hk2 => ?_, by rw [hc.1 _ _ _ (by unfold ndS adS1; omega)]; exact h11, by rw [hc.1 _ _ _ (by unfold ndS adS1; omega)]; exact h12⟩
  have hk2 : k < s + 1 := hk2
  show StC σ' p k (upD (upD d s (up (stp 18 0 0 0) 4 (u : Int))) u (up (d u) 4 (s : Int)) k) ∧ (isOp (upD (upD d s (up (stp 18 0 0 0) 4 (u : Int))) u (up (d u) 4 (s : Int)) k 0) ∨ upD (upD d s (up (stp 18 0 0 0) 4 (u : Int))) u (up (d u) 4 (s : Int)) k 0 = 18 → (∀ i, i < o - 1 → stk i ≠ k) → σ'.1 43 p k = Int32.ofInt (upD (upD d s (up (stp 18 0 0 0) 4 (u : Int))) u (up (d u) 4 (s : Int)) k 4))
  by_cases c1 : k = u
  · rw [c1, upD_eq]
    refine ⟨?_, fun _ _ => by rw [up_eq]; exact et⟩
    have := (h10 u t1).1.cg (σ' := σ') (fun t _ _ => hc.1 _ _ _ (by unfold ndS adS1; omega))
    unfold StC at this ⊢
    rw [up_ne (by omega), up_ne (by omega), up_ne (by omega), up_ne (by omega)]
    exact this
  · rw [upD_ne c1]
    by_cases c2 : k = s
    · rw [c2, upD_eq]
      refine ⟨?_, fun _ _ => by rw [up_eq]; exact es⟩
      have v0 : up (stp 18 0 0 0) 4 (u : Int) 0 = 18 := by rw [up_ne (by omega)]; rfl
      refine ⟨by rw [v0, e38]; rfl, fun y => ?_, fun y => ?_, fun y => ?_, fun y => ?_⟩ <;> (rw [v0] at y; omega)
    · rw [upD_ne c2]
      refine ⟨(h10 k (by omega)).1.cg (fun t _ _ => hc.1 _ _ _ (by unfold ndS adS1; omega)), fun z1 z2 => ?_⟩
      rw [hc.1 _ _ _ (by unfold ndS adS1; omega)]
      refine (h10 k (by omega)).2 z1 (fun i hi => ?_)
      by_cases c3 : i = o - 1
      · rw [c3, ht]; exact fun e => c1 e.symm
      · exact z2 i (by omega)
theorem c_dend {CALL : CT} (hC : RuleAll CALL) {r : Nat} {σ : AM} {K : AV → AM → Prop} {B : Nat → Int} {L p q : Nat} {S : DZ} (hc : CDy σ B L p q S) (hs : S.2.1 + S.2.2.2.1 ≤ 2 * S.2.2.2.2.2) (hn : S.2.2.2.2.2 ≤ 30) (ho : S.2.2.2.1 ≤ 3) (hk : ∀ i, i < S.2.2.2.1 → S.2.2.2.2.1 i < S.2.1) (h : ∀ (b : Bool) (σ' : AM), OD σ' B L p q (if S.2.2.2.1 = 0 then dFl B L S.1 2 else dSemi B L (dEnd S (nxT B L S.1))) b → ChA (dyS p) tkL σ σ' → K (.inl (bI b)) σ') : CALL (r + 4) n_DaysReader_takesEnd [.inr (.inr (7, 0))] σ K := by
  refine r_DaysReader_takesEnd hC (fun J hJ => ?_)
  refine hJ _ _ _ _ ?_
  conv => whnf
  obtain ⟨k1, k2, k3, k4, k5, k6, k7, k8, k9, k10, k11, k12⟩ := id hc
  rw [k8]
  refine ⟨fun c => ?_, fun c => ?_⟩ <;> (try simp (disch := omega) only [oi_le, oi_lt, oi_eq, oi_lt0, oi_le0, oi_0lt, oi_0le, oi_eq0, oi_eq1, bI_eq0, bI_ne0, bI_eq1, decide_eq_true_eq, decide_eq_false_iff_not, lc_lt, lc_gt, lc_eq, lc_ge, lc_le, ol_lt, ol_eq, ne_eq, Int.not_lt, Int.not_le, Bool.not_eq_true, Bool.not_eq_false, Decidable.not_not, not_true_eq_false, not_false_eq_true, Bool.true_eq_false, Bool.false_eq_true] at c) <;> (first | (exfalso; omega) | ((with_reducible refine hJ _ _ _ _ ?_); conv => whnf) | (conv => whnf))
  · rw [if_neg (by omega)] at h
    rw [k8, oi_sub, show (wI σ 7 0 2 (Int32.ofInt ((S.2.2.2.1 : Int) - 1))).2.2 7 0 3 = p from k2]
    refine ⟨k3, ?_⟩
    conv => whnf
    have ks := hk (S.2.2.2.1 - 1) (by omega)
    refine s_dadd hC (show (wI σ 7 0 2 (Int32.ofInt ((S.2.2.2.1 : Int) - 1))).1 37 p 6 = Int32.ofInt (S.2.1 : Int) by rw [wI1, if_neg (by omega)]; exact k6) (by omega) ?_
    conv => whnf
    have w0 : ChA (ndS p S.2.1 (S.2.2.2.2.1 (S.2.2.2.1 - 1))) (fun _ _ _ => False) σ (daddS (wI σ 7 0 2 (Int32.ofInt ((S.2.2.2.1 : Int) - 1))) p S.2.1 21) := (ChA.wI (Or.inr (Or.inl ⟨rfl, rfl, rfl⟩))).tr (dadd_ch.mo (fun _ _ _ z => Or.inl z) (fun _ _ _ z => z))
    have w6 : (daddS (wI σ 7 0 2 (Int32.ofInt ((S.2.2.2.1 : Int) - 1))) p S.2.1 21).1 37 p 6 = Int32.ofInt ((S.2.1 : Int) + 1) := dadd_6
    have w38 : (daddS (wI σ 7 0 2 (Int32.ofInt ((S.2.2.2.1 : Int) - 1))) p S.2.1 21).1 38 p S.2.1 = Int32.ofInt 21 := dadd_38
    have w2 : (daddS (wI σ 7 0 2 (Int32.ofInt ((S.2.2.2.1 : Int) - 1))) p S.2.1 21).1 7 0 2 = Int32.ofInt (((S.2.2.2.1 - 1 : Nat)) : Int) := by
      rw [dadd_ch.1 _ _ _ (by unfold adS1; omega), wI_16]; congr 1; omega
    revert w0 w6 w38 w2
    generalize daddS (wI σ 7 0 2 (Int32.ofInt ((S.2.2.2.1 : Int) - 1))) p S.2.1 21 = τ
    intro w0 w6 w38 w2
    rw [w2]
    refine ⟨(oi_in (by omega) (by omega)).mpr ⟨by omega, by omega⟩, ?_⟩
    conv => whnf
    rw [oi_nat (by omega) (by omega), Int.toNat_natCast, w0.1 8 0 (S.2.2.2.1 - 1) (by unfold ndS adS1; omega), k9 _ (by omega)]
    refine ⟨fun y1 => ?_, fun y1 => ?_⟩ <;> (try simp (disch := omega) only [oi_le, oi_lt, oi_eq, oi_lt0, oi_le0, oi_0lt, oi_0le, oi_eq0, oi_eq1, bI_eq0, bI_ne0, bI_eq1, decide_eq_true_eq, decide_eq_false_iff_not, lc_lt, lc_gt, lc_eq, lc_ge, lc_le, ol_lt, ol_eq, ne_eq, Int.not_lt, Int.not_le, Bool.not_eq_true, Bool.not_eq_false, Decidable.not_not, not_true_eq_false, not_false_eq_true, Bool.true_eq_false, Bool.false_eq_true] at y1) <;> (first | (exfalso; omega) | ((with_reducible refine hJ _ _ _ _ ?_); conv => whnf) | (conv => whnf))
    refine ⟨fun y2 => ?_, fun y2 => ?_⟩ <;> (try simp (disch := omega) only [oi_le, oi_lt, oi_eq, oi_lt0, oi_le0, oi_0lt, oi_0le, oi_eq0, oi_eq1, bI_eq0, bI_ne0, bI_eq1, decide_eq_true_eq, decide_eq_false_iff_not, lc_lt, lc_gt, lc_eq, lc_ge, lc_le, ol_lt, ol_eq, ne_eq, Int.not_lt, Int.not_le, Bool.not_eq_true, Bool.not_eq_false, Decidable.not_not, not_true_eq_false, not_false_eq_true, Bool.true_eq_false, Bool.false_eq_true] at y2) <;> (first | (exfalso; omega) | ((with_reducible refine hJ _ _ _ _ ?_); conv => whnf) | (conv => whnf))
    rw [show τ.2.2 7 0 3 = p by rw [w0.2.2]; exact k2]
    refine ⟨k3, ?_⟩
    conv => whnf
    refine ⟨(oi_in (by omega) (by omega)).mpr ⟨by omega, by omega⟩, ?_⟩
    conv => whnf
    rw [oi_nat (by omega) (by omega), Int.toNat_natCast, show (wI τ 43 p S.2.1 (Int32.ofInt ((S.2.2.2.2.1 (S.2.2.2.1 - 1) : Nat) : Int))).2.2 7 0 3 = p by show τ.2.2 7 0 3 = p; rw [w0.2.2]; exact k2]
    refine ⟨k3, ?_⟩
    conv => whnf
    refine ⟨(oi_in (by omega) (by omega)).mpr ⟨by omega, by omega⟩, ?_⟩
    conv => whnf
    rw [oi_nat (by omega) (by omega), Int.toNat_natCast]
    have hc2 := hc.end (σ' := wI (wI τ 43 p S.2.1 (Int32.ofInt ((S.2.2.2.2.1 (S.2.2.2.1 - 1) : Nat) : Int))) 43 p (S.2.2.2.2.1 (S.2.2.2.1 - 1)) (Int32.ofInt (S.2.1 : Int))) (by omega) hk ((w0.tr (ChA.wI (Or.inl (Or.inl ⟨by omega, by omega, rfl, rfl⟩)))).tr (ChA.wI (Or.inr (Or.inr ⟨rfl, rfl, rfl⟩)))) (by rw [wI1, if_neg (by omega), wI1, if_neg (by omega)]; exact w6) (by rw [wI1, if_neg (by omega), wI1, if_neg (by omega)]; exact w38) (by rw [wI1, if_neg (by omega), wI1, if_neg (by omega)]; exact w2) (by rw [wI1, if_neg (by omega), wI_16]) wI_16
    have f2 : ChA (dyS p) tkL σ (wI (wI τ 43 p S.2.1 (Int32.ofInt ((S.2.2.2.2.1 (S.2.2.2.1 - 1) : Nat) : Int))) 43 p (S.2.2.2.2.1 (S.2.2.2.1 - 1)) (Int32.ofInt (S.2.1 : Int))) := ((w0.tr (ChA.wI (Or.inl (Or.inl ⟨by omega, by omega, rfl, rfl⟩)))).tr (ChA.wI (Or.inr (Or.inr ⟨rfl, rfl, rfl⟩)))).mo (fun t i j z => by unfold ndS adS1 at z; unfold dyS; omega) (fun _ _ _ z => z.elim)
    revert hc2 f2
    generalize wI (wI τ 43 p S.2.1 (Int32.ofInt ((S.2.2.2.2.1 (S.2.2.2.1 - 1) : Nat) : Int))) 43 p (S.2.2.2.2.1 (S.2.2.2.1 - 1)) (Int32.ofInt (S.2.1 : Int)) = ρ
    intro hc2 f2
    refine s_adv hC hc2.1 (fun σ3 a3 f3 => ?_)
    conv => whnf
    refine c_dsemi hC (hc2.tk f3 a3) (fun b σ4 o4 f4 => ?_)
    conv => whnf
    exact ⟨bI_01 b, h b σ4 o4 ((f2.tr (tk_dy f3)).tr f4)⟩
  · rw [if_pos (by omega)] at h
    refine s_fail hC k1.2.2.2 ?_
    conv => whnf
    exact ⟨Or.inl rfl, h false _ OD.fl fC_dy⟩
