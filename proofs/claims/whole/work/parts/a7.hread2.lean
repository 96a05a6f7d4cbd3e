/-! the class reads a house, part by part -/
theorem CR.hs {σ σ' : AM} {B : Nat → Int} {L q : Nat} {S : PS} {h' : Nat → Int} (hc : CR σ B L q S) (hf : ChA (fun t i _ => HS q t i) (fun _ _ _ => False) σ σ') (hr : HRep σ' q h') (e0 : h' 0 = S.2.1 0) (e1 : h' 1 = S.2.1 1) : CR σ' B L q (S.1, h', S.2.2) := by
  obtain ⟨h1, h2, h3, h4, h5, h6, h7, h8, h9, h10⟩ := id hc
  refine ⟨h1.cha hf (fun j _ z => by unfold HS at z; omega) (fun j z => by unfold HS at z; omega) (fun _ z => z) (fun z => z), hr, fun t ht => ?_, fun t ht => ?_, by rw [hf.2.2]; exact h5, h6, ?_, ?_, ?_, ?_⟩
  · rw [hf.2.1 _ _ _ (fun z => z)]
    exact h3 t (by rw [← e0]; exact ht)
  · rw [hf.2.1 _ _ _ (fun z => z)]
    exact h4 t (by rw [← e1]; exact ht)
  · rw [hf.1 _ _ _ (by unfold HS; omega)]; exact h7
  · rw [hf.1 _ _ _ (by unfold HS; omega)]; exact h8
  · rw [hf.1 _ _ _ (by unfold HS; omega)]; exact h9
  · rw [hf.1 _ _ _ (by unfold HS; omega)]; exact h10
theorem hs_hr {σ σ' : AM} {q : Nat} (hf : ChA (fun t i _ => HS q t i) (fun _ _ _ => False) σ σ') : ChA (hrS q) (hrL q) σ σ' := hf.mo (fun t i j z => Or.inr (Or.inl z)) (fun t i j z => z.elim)
theorem CR.w6 {σ : AM} {B : Nat → Int} {L q j : Nat} {S : PS} (hc : CR σ B L q S) : CR (wI σ 6 0 j (Int32.ofInt 1)) B L q (S.1, S.2.1, S.2.2.1, S.2.2.2.1, if j = 2 then true else S.2.2.2.2.1, if j = 3 then true else S.2.2.2.2.2) := by
  obtain ⟨h1, h2, h3, h4, h5, h6, h7, h8, h9, h10⟩ := id hc
  refine ⟨h1.cha (S := fun t i j => t = 6) (SL := fun _ _ _ => False) (ChA.wI rfl) (fun j _ z => by omega) (fun j z => by omega) (fun _ z => z) (fun z => z), h2.cha (S := fun t i j => t = 6) (SL := fun _ _ _ => False) (ChA.wI rfl) (fun t j a b => by omega), h3, h4, h5, h6, ?_, ?_, ?_, ?_⟩
  · show _ = bI (if j = 2 then true else S.2.2.2.2.1)
    by_cases e : j = 2
    · rw [if_pos e, e, wI_16]; rfl
    · rw [if_neg e, wI1, if_neg (by omega)]; exact h7
  · show _ = bI (if j = 3 then true else S.2.2.2.2.2)
    by_cases e : j = 3
    · rw [if_pos e, e, wI_16]; rfl
    · rw [if_neg e, wI1, if_neg (by omega)]; exact h8
  · rw [wI1, if_neg (by omega)]; exact h9
  · rw [wI1, if_neg (by omega)]; exact h10
theorem c_turn {CALL : CT} (hC : RuleAll CALL) {r : Nat} {σ : AM} {K : AV → AM → Prop} {B : Nat → Int} {L q : Nat} {S : PS} (hc : CR σ B L q S) (hw : WF S.2.1) (h : ∀ (b : Bool) (σ' : AM), OC σ' B L q (rTurn B L S) b → ChA (hrS q) (hrL q) σ σ' → K (.inl (bI b)) σ') : CALL (r + 4) n_HouseReader_takesTurn [.inr (.inr (6, 0))] σ K := by
  refine r_HouseReader_takesTurn hC (fun J hJ => ?_)
  refine hJ _ _ _ _ ?_
  conv => whnf
  obtain ⟨h1, h2, h3, h4, h5, h6, h7, h8, h9, h10⟩ := id hc
  rw [h7]
  refine ⟨fun c => ?_, fun c => ?_⟩ <;> (try simp (disch := omega) only [oi_le, oi_lt, oi_eq, oi_lt0, oi_le0, oi_0lt, oi_0le, oi_eq0, oi_eq1, bI_eq0, bI_ne0, bI_eq1, decide_eq_true_eq, decide_eq_false_iff_not, lc_lt, lc_gt, lc_eq, lc_ge, lc_le, ol_lt, ol_eq, ne_eq, Int.not_lt, Int.not_le, Bool.not_eq_true, Bool.not_eq_false, Decidable.not_not, not_true_eq_false, not_false_eq_true, Bool.true_eq_false, Bool.false_eq_true] at c) <;> (first | (exfalso; omega) | ((with_reducible refine hJ _ _ _ _ ?_); conv => whnf) | (conv => whnf))
  · have e : rTurn B L S = rNum B L 1 99 (nxT B L S.1) (fun v f => rSemi B L (f, up S.2.1 3 v, S.2.2.1, S.2.2.2.1, true, S.2.2.2.2.2)) := if_neg (by rw [c]; decide)
    rw [e] at h
    have ch0 : ChA (hrS q) (hrL q) σ (wI σ 6 0 2 (Int32.ofInt 1)) := ChA.wI (Or.inr (Or.inr ⟨rfl, rfl⟩))
    have hc1 : CR (wI σ 6 0 2 (Int32.ofInt 1)) B L q (S.1, S.2.1, S.2.2.1, S.2.2.2.1, true, S.2.2.2.2.2) := hc.w6
    refine ⟨Or.inr rfl, ?_⟩
    conv => whnf
    refine s_adv hC hc1.1 (fun σ1 a1 f1 => ?_)
    conv => whnf
    have hc2 := hc1.tk f1 a1
    refine c_num hC (q := q) (f := nxT B L S.1) (k := fun v f => rSemi B L (f, up S.2.1 3 v, S.2.2.1, S.2.2.2.1, true, S.2.2.2.2.2)) hc2.1 (by omega) (by omega) (by omega) (by omega) (fun σ2 v1 v2 a2 f2 e2 => ?_) (fun σ2 o2 f2 => ?_)
    · conv => whnf
      refine ⟨fun c2 => ?_, fun c2 => ?_⟩ <;> (try simp (disch := omega) only [oi_le, oi_lt, oi_eq, oi_lt0, oi_le0, oi_0lt, oi_0le, oi_eq0, oi_eq1, bI_eq0, bI_ne0, bI_eq1, decide_eq_true_eq, decide_eq_false_iff_not, lc_lt, lc_gt, lc_eq, lc_ge, lc_le, ol_lt, ol_eq, ne_eq, Int.not_lt, Int.not_le, Bool.not_eq_true, Bool.not_eq_false, Decidable.not_not, not_true_eq_false, not_false_eq_true, Bool.true_eq_false, Bool.false_eq_true] at c2) <;> (first | (exfalso; omega) | ((with_reducible refine hJ _ _ _ _ ?_); conv => whnf) | (conv => whnf))
      have hc3 := hc2.tk f2 a2
      rw [hc3.2.2.2.2.1]
      refine ⟨h6, ?_⟩
      conv => whnf
      have f3 : ChA (fun t i _ => HS q t i) (fun _ _ _ => False) σ2 (wI σ2 22 q 5 (Int32.ofInt (vlT B L (nxT B L S.1)))) := ChA.wI (by unfold HS; omega)
      have hc4 := hc3.hs f3 (hc3.2.1.upd (t := 22) (j := 5) hw (Or.inl ⟨rfl, by omega, by omega⟩) (by decide)) (up_ne (by decide)) (up_ne (by decide))
      refine c_semi hC hc4 (fun b σ3 o3 f4 => ?_)
      conv => whnf
      refine ⟨bI_01 b, ?_⟩
      rw [e2] at h
      exact h b σ3 o3 ((((ch0.tr (tk_hr f1)).tr (tk_hr f2)).tr (hs_hr f3)).tr f4)
    · conv => whnf
      refine ⟨fun c2 => ?_, fun c2 => ?_⟩ <;> (try simp (disch := omega) only [oi_le, oi_lt, oi_eq, oi_lt0, oi_le0, oi_0lt, oi_0le, oi_eq0, oi_eq1, bI_eq0, bI_ne0, bI_eq1, decide_eq_true_eq, decide_eq_false_iff_not, lc_lt, lc_gt, lc_eq, lc_ge, lc_le, ol_lt, ol_eq, ne_eq, Int.not_lt, Int.not_le, Bool.not_eq_true, Bool.not_eq_false, Decidable.not_not, not_true_eq_false, not_false_eq_true, Bool.true_eq_false, Bool.false_eq_true] at c2) <;> (first | (exfalso; omega) | ((with_reducible refine hJ _ _ _ _ ?_); conv => whnf) | (conv => whnf))
      exact ⟨Or.inl rfl, h false _ o2 ((ch0.tr (tk_hr f1)).tr f2)⟩
  · have e : rTurn B L S = rFl B L S.1 5 := if_pos c
    refine s_fail hC h1.2.2.2 ?_
    conv => whnf
    exact ⟨Or.inl rfl, h false _ (e ▸ OC.fl) fC_hr⟩
theorem c_odds {CALL : CT} (hC : RuleAll CALL) {r : Nat} {σ : AM} {K : AV → AM → Prop} {B : Nat → Int} {L q : Nat} {S : PS} (hc : CR σ B L q S) (hw : WF S.2.1) (h : ∀ (b : Bool) (σ' : AM), OC σ' B L q (rOdds B L S) b → ChA (hrS q) (hrL q) σ σ' → K (.inl (bI b)) σ') : CALL (r + 4) n_HouseReader_takesOdds [.inr (.inr (6, 0))] σ K := by
  refine r_HouseReader_takesOdds hC (fun J hJ => ?_)
  refine hJ _ _ _ _ ?_
  conv => whnf
  obtain ⟨h1, h2, h3, h4, h5, h6, h7, h8, h9, h10⟩ := id hc
  rw [h8]
  refine ⟨fun c => ?_, fun c => ?_⟩ <;> (try simp (disch := omega) only [oi_le, oi_lt, oi_eq, oi_lt0, oi_le0, oi_0lt, oi_0le, oi_eq0, oi_eq1, bI_eq0, bI_ne0, bI_eq1, decide_eq_true_eq, decide_eq_false_iff_not, lc_lt, lc_gt, lc_eq, lc_ge, lc_le, ol_lt, ol_eq, ne_eq, Int.not_lt, Int.not_le, Bool.not_eq_true, Bool.not_eq_false, Decidable.not_not, not_true_eq_false, not_false_eq_true, Bool.true_eq_false, Bool.false_eq_true] at c) <;> (first | (exfalso; omega) | ((with_reducible refine hJ _ _ _ _ ?_); conv => whnf) | (conv => whnf))
  · have e : rOdds B L S = rNum B L 0 16 (nxT B L S.1) (fun v f => rSemi B L (f, up S.2.1 4 v, S.2.2.1, S.2.2.2.1, S.2.2.2.2.1, true)) := if_neg (by rw [c]; decide)
    rw [e] at h
    have ch0 : ChA (hrS q) (hrL q) σ (wI σ 6 0 3 (Int32.ofInt 1)) := ChA.wI (Or.inr (Or.inr ⟨rfl, rfl⟩))
    have hc1 : CR (wI σ 6 0 3 (Int32.ofInt 1)) B L q (S.1, S.2.1, S.2.2.1, S.2.2.2.1, S.2.2.2.2.1, true) := hc.w6
    refine ⟨Or.inr rfl, ?_⟩
    conv => whnf
    refine s_adv hC hc1.1 (fun σ1 a1 f1 => ?_)
    conv => whnf
    have hc2 := hc1.tk f1 a1
    refine c_num hC (q := q) (f := nxT B L S.1) (k := fun v f => rSemi B L (f, up S.2.1 4 v, S.2.2.1, S.2.2.2.1, S.2.2.2.2.1, true)) hc2.1 (by omega) (by omega) (by omega) (by omega) (fun σ2 v1 v2 a2 f2 e2 => ?_) (fun σ2 o2 f2 => ?_)
    · conv => whnf
      refine ⟨fun c2 => ?_, fun c2 => ?_⟩ <;> (try simp (disch := omega) only [oi_le, oi_lt, oi_eq, oi_lt0, oi_le0, oi_0lt, oi_0le, oi_eq0, oi_eq1, bI_eq0, bI_ne0, bI_eq1, decide_eq_true_eq, decide_eq_false_iff_not, lc_lt, lc_gt, lc_eq, lc_ge, lc_le, ol_lt, ol_eq, ne_eq, Int.not_lt, Int.not_le, Bool.not_eq_true, Bool.not_eq_false, Decidable.not_not, not_true_eq_false, not_false_eq_true, Bool.true_eq_false, Bool.false_eq_true] at c2) <;> (first | (exfalso; omega) | ((with_reducible refine hJ _ _ _ _ ?_); conv => whnf) | (conv => whnf))
      have hc3 := hc2.tk f2 a2
      rw [hc3.2.2.2.2.1]
      refine ⟨h6, ?_⟩
      conv => whnf
      have f3 : ChA (fun t i _ => HS q t i) (fun _ _ _ => False) σ2 (wI σ2 22 q 6 (Int32.ofInt (vlT B L (nxT B L S.1)))) := ChA.wI (by unfold HS; omega)
      have hc4 := hc3.hs f3 (hc3.2.1.upd (t := 22) (j := 6) hw (Or.inl ⟨rfl, by omega, by omega⟩) (by decide)) (up_ne (by decide)) (up_ne (by decide))
      refine c_semi hC hc4 (fun b σ3 o3 f4 => ?_)
      conv => whnf
      refine ⟨bI_01 b, ?_⟩
      rw [e2] at h
      exact h b σ3 o3 ((((ch0.tr (tk_hr f1)).tr (tk_hr f2)).tr (hs_hr f3)).tr f4)
    · conv => whnf
      refine ⟨fun c2 => ?_, fun c2 => ?_⟩ <;> (try simp (disch := omega) only [oi_le, oi_lt, oi_eq, oi_lt0, oi_le0, oi_0lt, oi_0le, oi_eq0, oi_eq1, bI_eq0, bI_ne0, bI_eq1, decide_eq_true_eq, decide_eq_false_iff_not, lc_lt, lc_gt, lc_eq, lc_ge, lc_le, ol_lt, ol_eq, ne_eq, Int.not_lt, Int.not_le, Bool.not_eq_true, Bool.not_eq_false, Decidable.not_not, not_true_eq_false, not_false_eq_true, Bool.true_eq_false, Bool.false_eq_true] at c2) <;> (first | (exfalso; omega) | ((with_reducible refine hJ _ _ _ _ ?_); conv => whnf) | (conv => whnf))
      exact ⟨Or.inl rfl, h false _ o2 ((ch0.tr (tk_hr f1)).tr f2)⟩
  · have e : rOdds B L S = rFl B L S.1 5 := if_pos c
    refine s_fail hC h1.2.2.2 ?_
    conv => whnf
    exact ⟨Or.inl rfl, h false _ (e ▸ OC.fl) fC_hr⟩
