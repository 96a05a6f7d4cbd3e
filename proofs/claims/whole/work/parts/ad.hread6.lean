theorem c_part {CALL : CT} (hC : RuleAll CALL) {r : Nat} {σ : AM} {K : AV → AM → Prop} {B : Nat → Int} {L q : Nat} {S : PS} (hc : CR σ B L q S) (hp : PI L S) (h : ∀ (b : Bool) (σ' : AM), OC σ' B L q (rPart B L S) b → ChA (hrS q) (hrL q) σ σ' → K (.inl (bI b)) σ') : CALL (r + 5) n_HouseReader_takesPart [.inr (.inr (6, 0))] σ K := by
  refine r_HouseReader_takesPart hC (fun J hJ => ?_)
  refine hJ _ _ _ _ ?_
  conv => whnf
  obtain ⟨h1, h2, h3, h4, h5, h6, h7, h8⟩ := id hc
  rw [show σ.1 3 0 7 = Int32.ofInt (kmC (kwT B L S.1)) from h1.2.2.2.2.2.2.1]
  have kb := kmC_bd2 B L S.1
  have kwb := kwT_bd B L S.1
  have k0 := kmC_eq (k := kwT B L S.1) kwb.1 kwb.2 (n := 0) (by omega)
  have k1 := kmC_eq (k := kwT B L S.1) kwb.1 kwb.2 (n := 1) (by omega)
  have k2 := kmC_eq (k := kwT B L S.1) kwb.1 kwb.2 (n := 2) (by omega)
  have k3 := kmC_eq (k := kwT B L S.1) kwb.1 kwb.2 (n := 3) (by omega)
  have k4 := kmC_eq (k := kwT B L S.1) kwb.1 kwb.2 (n := 4) (by omega)
  have k5 := kmC_eq (k := kwT B L S.1) kwb.1 kwb.2 (n := 5) (by omega)
  have k6 := kmC_eq (k := kwT B L S.1) kwb.1 kwb.2 (n := 6) (by omega)
  rw [show kmC ((0 : Nat) : Int) = 0 by decide] at k0
  rw [show kmC ((1 : Nat) : Int) = 1 by decide] at k1
  rw [show kmC ((2 : Nat) : Int) = 2 by decide] at k2
  rw [show kmC ((3 : Nat) : Int) = 4 by decide] at k3
  rw [show kmC ((4 : Nat) : Int) = 8 by decide] at k4
  rw [show kmC ((5 : Nat) : Int) = 9 by decide] at k5
  rw [show kmC ((6 : Nat) : Int) = 10 by decide] at k6
  unfold rPart at h
  have bad : ¬ (kwT B L S.1 = 0) → ¬ (kwT B L S.1 = 1) → ¬ (kwT B L S.1 = 2) → ¬ (kwT B L S.1 = 3) → ¬ (kwT B L S.1 = 4) → ¬ (kwT B L S.1 = 5) → ¬ (kwT B L S.1 = 6) → J 99 (ent 1 [.inr (.inr (6, 0))]) [] σ := by
    intro c0 c1 c2 c3 c4 c5 c6
    rw [if_neg c0, if_neg c1, if_neg c2, if_neg c3, if_neg c4, if_neg c5, if_neg c6] at h
    refine hJ _ _ _ _ ?_
    conv => whnf
    refine s_fail hC h1.2.2.2 ?_
    conv => whnf
    exact ⟨Or.inl rfl, h false _ OC.fl fC_hr⟩
  rw [ti_oi (by omega) (by omega)]
  refine ⟨⟨fun c => ?_, fun c => ?_, fun c => ?_, fun c => ?_, fun c => ?_, fun c => ?_, fun c => ?_, fun c => ?_, fun c => ?_, fun c => ?_, fun c => ?_, True.intro⟩, fun c => ?_⟩
  all_goals (first | (rw [ti_oi (by omega) (by omega)] at c) | skip)
  · rw [if_pos (by omega)] at h
    refine hJ _ _ _ _ ?_
    conv => whnf
    refine c_turn hC hc hp.wf (fun b σ' o f => ?_)
    conv => whnf
    exact ⟨bI_01 b, h b _ o f⟩
  · rw [if_neg (by omega), if_pos (by omega)] at h
    refine hJ _ _ _ _ ?_
    conv => whnf
    refine c_odds hC hc hp.wf (fun b σ' o f => ?_)
    conv => whnf
    exact ⟨bI_01 b, h b _ o f⟩
  · rw [if_neg (by omega), if_neg (by omega), if_pos (by omega)] at h
    refine hJ _ _ _ _ ?_
    conv => whnf
    refine c_topic hC hc hp (fun b σ' o f => ?_)
    conv => whnf
    exact ⟨bI_01 b, h b _ o f⟩
  · exact bad (by omega) (by omega) (by omega) (by omega) (by omega) (by omega) (by omega)
  · rw [if_neg (by omega), if_neg (by omega), if_neg (by omega), if_pos (by omega)] at h
    refine hJ _ _ _ _ ?_
    conv => whnf
    refine c_monk hC hc hp (fun b σ' o f => ?_)
    conv => whnf
    exact ⟨bI_01 b, h b _ o f⟩
  · exact bad (by omega) (by omega) (by omega) (by omega) (by omega) (by omega) (by omega)
  · exact bad (by omega) (by omega) (by omega) (by omega) (by omega) (by omega) (by omega)
  · exact bad (by omega) (by omega) (by omega) (by omega) (by omega) (by omega) (by omega)
  · rw [if_neg (by omega), if_neg (by omega), if_neg (by omega), if_neg (by omega), if_pos (by omega)] at h
    refine hJ _ _ _ _ ?_
    conv => whnf
    refine c_follow hC hc hp (fun b σ' o f => ?_)
    conv => whnf
    exact ⟨bI_01 b, h b _ o f⟩
  · rw [if_neg (by omega), if_neg (by omega), if_neg (by omega), if_neg (by omega), if_neg (by omega), if_pos (by omega)] at h
    refine hJ _ _ _ _ ?_
    conv => whnf
    refine c_roster hC hc hp (fun b σ' o f => ?_)
    conv => whnf
    exact ⟨bI_01 b, h b _ o f⟩
  · rw [if_neg (by omega), if_neg (by omega), if_neg (by omega), if_neg (by omega), if_neg (by omega), if_neg (by omega), if_pos (by omega)] at h
    refine hJ _ _ _ _ ?_
    conv => whnf
    refine c_hear hC hc hp (fun b σ' o f => ?_)
    conv => whnf
    exact ⟨bI_01 b, h b _ o f⟩
  · exact bad (by omega) (by omega) (by omega) (by omega) (by omega) (by omega) (by omega)
