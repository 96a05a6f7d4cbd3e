theorem rWord_n {B : Nat → Int} {L n f : Nat} {k : Nat → Rz} (h : kwT B L f = (n : Int)) : rWord B L n f k = k (nxT B L f) := if_pos h
theorem c_topic {CALL : CT} (hC : RuleAll CALL) {r : Nat} {σ : AM} {K : AV → AM → Prop} {B : Nat → Int} {L q : Nat} {S : PS} (hc : CR σ B L q S) (hp : PI L S) (h : ∀ (b : Bool) (σ' : AM), OC σ' B L q (rTopic B L S) b → ChA (hrS q) (hrL q) σ σ' → K (.inl (bI b)) σ') : CALL (r + 4) n_HouseReader_takesTopic [.inr (.inr (6, 0))] σ K := by
  refine r_HouseReader_takesTopic hC (fun J hJ => ?_)
  refine hJ _ _ _ _ ?_
  conv => whnf
  obtain ⟨h1, h2, h3, h4, h5, h6, h7, h8⟩ := id hc
  have b0 : 0 ≤ S.2.1 0 := hp.wf.1.1
  have b1 : S.2.1 0 ≤ 6 := hp.wf.1.2.1
  rw [h5]
  refine ⟨h6, ?_⟩
  conv => whnf
  rw [h2.1]
  refine ⟨fun c => ?_, fun c => ?_⟩ <;> (try simp (disch := omega) only [oi_le, oi_lt, oi_eq, oi_lt0, oi_le0, oi_0lt, oi_0le, oi_eq0, oi_eq1, bI_eq0, bI_ne0, bI_eq1, decide_eq_true_eq, decide_eq_false_iff_not, lc_lt, lc_gt, lc_eq, lc_ge, lc_le, ol_lt, ol_eq, ne_eq, Int.not_lt, Int.not_le, Bool.not_eq_true, Bool.not_eq_false, Decidable.not_not, not_true_eq_false, not_false_eq_true, Bool.true_eq_false, Bool.false_eq_true] at c) <;> (first | (exfalso; omega) | ((with_reducible refine hJ _ _ _ _ ?_); conv => whnf) | (conv => whnf))
  · have e : rTopic B L S = rNew B L S (nxT B L S.1) (fun f1 => rWord B L 7 f1 (fun f2 => rNum B L 0 20 f2 (fun v f3 => rSemi B L (f3, addT S.2.1 v, upN S.2.2.1 (S.2.1 0).toNat (wdH B L (nxT B L S.1)), S.2.2.2)))) := if_neg (by omega)
    rw [e] at h
    have z13 : S.2.1 (13 + 2 * (S.2.1 0).toNat) = 0 := hp.z13 _ (by omega) (by omega)
    refine s_adv hC h1 (fun σ1 a1 f1 => ?_)
    conv => whnf
    have hc1 := hc.tk f1 a1
    have n54 : ∀ (lv : List AV) (σ' : AM), K (.inl (bI false)) σ' → J 54 lv [] σ' := by
      intro lv σ' hk
      refine hJ _ _ _ _ ?_
      conv => whnf
      exact ⟨Or.inl rfl, hk⟩
    refine c_new hC (f := nxT B L S.1) (S := S) (k := fun f1 => rWord B L 7 f1 (fun f2 => rNum B L 0 20 f2 (fun v f3 => rSemi B L (f3, addT S.2.1 v, upN S.2.2.1 (S.2.1 0).toNat (wdH B L (nxT B L S.1)), S.2.2.2)))) hc1 hp (fun σ2 n2 a2 f2 e2 => ?_) (fun σ2 o2 f2 => ?_)
    · have wok := (isNm_ok n2 a1.2.2.2.1).1
      have l1 := enc5_lt wok
      have l2 := enc5_pos wok
      have hc2 := hc1.tk f2 a2
      rw [e2] at h
      conv => whnf
      refine ⟨fun c2 => ?_, fun c2 => ?_⟩ <;> (try simp (disch := omega) only [oi_le, oi_lt, oi_eq, oi_lt0, oi_le0, oi_0lt, oi_0le, oi_eq0, oi_eq1, bI_eq0, bI_ne0, bI_eq1, decide_eq_true_eq, decide_eq_false_iff_not, lc_lt, lc_gt, lc_eq, lc_ge, lc_le, ol_lt, ol_eq, ne_eq, Int.not_lt, Int.not_le, Bool.not_eq_true, Bool.not_eq_false, Decidable.not_not, not_true_eq_false, not_false_eq_true, Bool.true_eq_false, Bool.false_eq_true] at c2) <;> (first | (exfalso; omega) | ((fail_if_success with_reducible refine hJ _ _ _ _ ?_); conv => whnf) | skip)
      · refine c_word hC (q := q) (n := 7) (k := fun f2 => rNum B L 0 20 f2 (fun v f3 => rSemi B L (f3, addT S.2.1 v, upN S.2.2.1 (S.2.1 0).toNat (wdH B L (nxT B L S.1)), S.2.2.2))) a2 (by omega) (by decide) (fun σ3 a3 f3 e3 => ?_) (fun σ3 o3 f3 => ?_)
        · conv => whnf
          refine ⟨fun c3 => ?_, fun c3 => ?_⟩ <;> (try simp (disch := omega) only [oi_le, oi_lt, oi_eq, oi_lt0, oi_le0, oi_0lt, oi_0le, oi_eq0, oi_eq1, bI_eq0, bI_ne0, bI_eq1, decide_eq_true_eq, decide_eq_false_iff_not, lc_lt, lc_gt, lc_eq, lc_ge, lc_le, ol_lt, ol_eq, ne_eq, Int.not_lt, Int.not_le, Bool.not_eq_true, Bool.not_eq_false, Decidable.not_not, not_true_eq_false, not_false_eq_true, Bool.true_eq_false, Bool.false_eq_true] at c3) <;> (first | (exfalso; omega) | ((with_reducible refine hJ _ _ _ _ ?_); conv => whnf) | (conv => whnf))
          have hc3 := hc2.tk f3 a3
          rw [e3] at h
          refine c_num hC (q := q) (k := fun v f3 => rSemi B L (f3, addT S.2.1 v, upN S.2.2.1 (S.2.1 0).toNat (wdH B L (nxT B L S.1)), S.2.2.2)) a3 (by omega) (by omega) (by omega) (by omega) (fun σ4 v1 v2 a4 f4 e4 => ?_) (fun σ4 o4 f4 => ?_)
          · conv => whnf
            refine ⟨fun c4 => ?_, fun c4 => ?_⟩ <;> (try simp (disch := omega) only [oi_le, oi_lt, oi_eq, oi_lt0, oi_le0, oi_0lt, oi_0le, oi_eq0, oi_eq1, bI_eq0, bI_ne0, bI_eq1, decide_eq_true_eq, decide_eq_false_iff_not, lc_lt, lc_gt, lc_eq, lc_ge, lc_le, ol_lt, ol_eq, ne_eq, Int.not_lt, Int.not_le, Bool.not_eq_true, Bool.not_eq_false, Decidable.not_not, not_true_eq_false, not_false_eq_true, Bool.true_eq_false, Bool.false_eq_true] at c4) <;> (first | (exfalso; omega) | ((with_reducible refine hJ _ _ _ _ ?_); conv => whnf) | (conv => whnf))
            have hc4 := hc3.tk f4 a4
            rw [e4] at h
            rw [hc4.2.2.2.2.1]
            refine ⟨h6, ?_⟩
            conv => whnf
            refine s_tadd hC (c := (S.2.1 0).toNat) (by rw [hc4.2.1.1]; show Int32.ofInt (S.2.1 0) = _; rw [Int.toNat_of_nonneg b0]) (by omega) ?_
            conv => whnf
            have hc5 := hc4.tadd (v := vlT B L (nxT B L (nxT B L (nxT B L S.1)))) (w := wdH B L (nxT B L S.1)) hp.wf c z13
            refine c_semi hC hc5 (fun b σ5 o5 f5 => ?_)
            conv => whnf
            exact ⟨bI_01 b, h b _ o5 ((((((tk_hr f1).tr (tk_hr f2)).tr (tk_hr f3)).tr (tk_hr f4)).tr tadd_hr).tr f5)⟩
          · conv => whnf
            refine ⟨fun c4 => ?_, fun c4 => ?_⟩ <;> (try simp (disch := omega) only [oi_le, oi_lt, oi_eq, oi_lt0, oi_le0, oi_0lt, oi_0le, oi_eq0, oi_eq1, bI_eq0, bI_ne0, bI_eq1, decide_eq_true_eq, decide_eq_false_iff_not, lc_lt, lc_gt, lc_eq, lc_ge, lc_le, ol_lt, ol_eq, ne_eq, Int.not_lt, Int.not_le, Bool.not_eq_true, Bool.not_eq_false, Decidable.not_not, not_true_eq_false, not_false_eq_true, Bool.true_eq_false, Bool.false_eq_true] at c4) <;> (first | (exfalso; omega) | ((with_reducible refine hJ _ _ _ _ ?_); conv => whnf) | (conv => whnf))
            exact ⟨Or.inl rfl, h false _ o4 ((((tk_hr f1).tr (tk_hr f2)).tr (tk_hr f3)).tr f4)⟩
        · conv => whnf
          refine ⟨fun c3 => ?_, fun c3 => ?_⟩ <;> (try simp (disch := omega) only [oi_le, oi_lt, oi_eq, oi_lt0, oi_le0, oi_0lt, oi_0le, oi_eq0, oi_eq1, bI_eq0, bI_ne0, bI_eq1, decide_eq_true_eq, decide_eq_false_iff_not, lc_lt, lc_gt, lc_eq, lc_ge, lc_le, ol_lt, ol_eq, ne_eq, Int.not_lt, Int.not_le, Bool.not_eq_true, Bool.not_eq_false, Decidable.not_not, not_true_eq_false, not_false_eq_true, Bool.true_eq_false, Bool.false_eq_true] at c3) <;> (first | (exfalso; omega) | ((fail_if_success with_reducible refine hJ _ _ _ _ ?_); conv => whnf) | skip)
          exact n54 _ _ (h false _ o3 (((tk_hr f1).tr (tk_hr f2)).tr f3))
    · conv => whnf
      refine ⟨fun c2 => ?_, fun c2 => ?_⟩ <;> (try simp (disch := omega) only [oi_le, oi_lt, oi_eq, oi_lt0, oi_le0, oi_0lt, oi_0le, oi_eq0, oi_eq1, bI_eq0, bI_ne0, bI_eq1, decide_eq_true_eq, decide_eq_false_iff_not, lc_lt, lc_gt, lc_eq, lc_ge, lc_le, ol_lt, ol_eq, ne_eq, Int.not_lt, Int.not_le, Bool.not_eq_true, Bool.not_eq_false, Decidable.not_not, not_true_eq_false, not_false_eq_true, Bool.true_eq_false, Bool.false_eq_true] at c2) <;> (first | (exfalso; omega) | ((fail_if_success with_reducible refine hJ _ _ _ _ ?_); conv => whnf) | skip)
      exact n54 _ _ (h false _ o2 ((tk_hr f1).tr f2))
  · have e : rTopic B L S = rFl B L S.1 6 := if_pos c
    refine s_fail hC h1.2.2.2 ?_
    conv => whnf
    exact ⟨Or.inl rfl, h false _ (e ▸ OC.fl) fC_hr⟩
theorem c_monk {CALL : CT} (hC : RuleAll CALL) {r : Nat} {σ : AM} {K : AV → AM → Prop} {B : Nat → Int} {L q : Nat} {S : PS} (hc : CR σ B L q S) (hp : PI L S) (h : ∀ (b : Bool) (σ' : AM), OC σ' B L q (rMonk B L S) b → ChA (hrS q) (hrL q) σ σ' → K (.inl (bI b)) σ') : CALL (r + 4) n_HouseReader_takesMonk [.inr (.inr (6, 0))] σ K := by
  refine r_HouseReader_takesMonk hC (fun J hJ => ?_)
  refine hJ _ _ _ _ ?_
  conv => whnf
  obtain ⟨h1, h2, h3, h4, h5, h6, h7, h8⟩ := id hc
  have b0 : 0 ≤ S.2.1 1 := hp.wf.1.2.2.1
  have b1 : S.2.1 1 ≤ 7 := hp.wf.1.2.2.2.1
  rw [h5]
  refine ⟨h6, ?_⟩
  conv => whnf
  rw [h2.2.1]
  refine ⟨fun c => ?_, fun c => ?_⟩ <;> (try simp (disch := omega) only [oi_le, oi_lt, oi_eq, oi_lt0, oi_le0, oi_0lt, oi_0le, oi_eq0, oi_eq1, bI_eq0, bI_ne0, bI_eq1, decide_eq_true_eq, decide_eq_false_iff_not, lc_lt, lc_gt, lc_eq, lc_ge, lc_le, ol_lt, ol_eq, ne_eq, Int.not_lt, Int.not_le, Bool.not_eq_true, Bool.not_eq_false, Decidable.not_not, not_true_eq_false, not_false_eq_true, Bool.true_eq_false, Bool.false_eq_true] at c) <;> (first | (exfalso; omega) | ((with_reducible refine hJ _ _ _ _ ?_); conv => whnf) | (conv => whnf))
  · obtain ⟨fin, hfin⟩ : ∃ fin : Int → Int → Nat → Rz, fin = fun v rs f4 => rSemi B L (if kwT B L f4 = 10 then nxT B L f4 else f4, addM S.2.1 v rs (if kwT B L f4 = 10 then 0 else 1), S.2.2.1, upN S.2.2.2.1 (S.2.1 1).toNat (wdH B L (nxT B L S.1)), S.2.2.2.2) := ⟨_, rfl⟩
    have e : rMonk B L S = rNew B L S (nxT B L S.1) (fun f1 => rWord B L 8 f1 (fun f2 => rNum B L 0 99 f2 (fun v f3 => if kwT B L f3 = 9 then rNum B L 0 9 (nxT B L f3) (fin v) else fin v 1 f3))) := by
      rw [hfin]
      exact if_neg (by omega)
    rw [e] at h
    have z28 : S.2.1 (28 + 7 * (S.2.1 1).toNat) = 0 ∧ S.2.1 (29 + 7 * (S.2.1 1).toNat) = 0 ∧ S.2.1 (30 + 7 * (S.2.1 1).toNat) = 0 := ⟨hp.z28 _ 4 (by omega) (by omega) (by omega) (by omega), hp.z28 _ 5 (by omega) (by omega) (by omega) (by omega), hp.z28 _ 6 (by omega) (by omega) (by omega) (by omega)⟩
    refine s_adv hC h1 (fun σ1 a1 f1 => ?_)
    conv => whnf
    have hc1 := hc.tk f1 a1
    have n54 : ∀ (lv : List AV) (σ' : AM), K (.inl (bI false)) σ' → J 54 lv [] σ' := by
      intro lv σ' hk
      refine hJ _ _ _ _ ?_
      conv => whnf
      exact ⟨Or.inl rfl, hk⟩
    refine c_new hC (f := nxT B L S.1) (S := S) (k := fun f1 => rWord B L 8 f1 (fun f2 => rNum B L 0 99 f2 (fun v f3 => if kwT B L f3 = 9 then rNum B L 0 9 (nxT B L f3) (fin v) else fin v 1 f3))) hc1 hp (fun σ2 n2 a2 f2 e2 => ?_) (fun σ2 o2 f2 => ?_)
    · have wok := (isNm_ok n2 a1.2.2.2.1).1
      have l1 := enc5_lt wok
      have l2 := enc5_pos wok
      have hc2 := hc1.tk f2 a2
      rw [e2] at h
      conv => whnf
      refine ⟨fun c2 => ?_, fun c2 => ?_⟩ <;> (try simp (disch := omega) only [oi_le, oi_lt, oi_eq, oi_lt0, oi_le0, oi_0lt, oi_0le, oi_eq0, oi_eq1, bI_eq0, bI_ne0, bI_eq1, decide_eq_true_eq, decide_eq_false_iff_not, lc_lt, lc_gt, lc_eq, lc_ge, lc_le, ol_lt, ol_eq, ne_eq, Int.not_lt, Int.not_le, Bool.not_eq_true, Bool.not_eq_false, Decidable.not_not, not_true_eq_false, not_false_eq_true, Bool.true_eq_false, Bool.false_eq_true] at c2) <;> (first | (exfalso; omega) | ((fail_if_success with_reducible refine hJ _ _ _ _ ?_); conv => whnf) | skip)
      · refine c_word hC (q := q) (n := 8) (k := fun f2 => rNum B L 0 99 f2 (fun v f3 => if kwT B L f3 = 9 then rNum B L 0 9 (nxT B L f3) (fin v) else fin v 1 f3)) a2 (by omega) (by decide) (fun σ3 a3 f3 e3 => ?_) (fun σ3 o3 f3 => ?_)
        · conv => whnf
          refine ⟨fun c3 => ?_, fun c3 => ?_⟩ <;> (try simp (disch := omega) only [oi_le, oi_lt, oi_eq, oi_lt0, oi_le0, oi_0lt, oi_0le, oi_eq0, oi_eq1, bI_eq0, bI_ne0, bI_eq1, decide_eq_true_eq, decide_eq_false_iff_not, lc_lt, lc_gt, lc_eq, lc_ge, lc_le, ol_lt, ol_eq, ne_eq, Int.not_lt, Int.not_le, Bool.not_eq_true, Bool.not_eq_false, Decidable.not_not, not_true_eq_false, not_false_eq_true, Bool.true_eq_false, Bool.false_eq_true] at c3) <;> (first | (exfalso; omega) | ((with_reducible refine hJ _ _ _ _ ?_); conv => whnf) | (conv => whnf))
          have hc3 := hc2.tk f3 a3
          rw [e3] at h
          refine c_num hC (q := q) (k := fun v f3 => if kwT B L f3 = 9 then rNum B L 0 9 (nxT B L f3) (fin v) else fin v 1 f3) a3 (by omega) (by omega) (by omega) (by omega) (fun σ4 v1 v2 a4 f4 e4 => ?_) (fun σ4 o4 f4 => ?_)
          · conv => whnf
            refine ⟨fun c4 => ?_, fun c4 => ?_⟩ <;> (try simp (disch := omega) only [oi_le, oi_lt, oi_eq, oi_lt0, oi_le0, oi_0lt, oi_0le, oi_eq0, oi_eq1, bI_eq0, bI_ne0, bI_eq1, decide_eq_true_eq, decide_eq_false_iff_not, lc_lt, lc_gt, lc_eq, lc_ge, lc_le, ol_lt, ol_eq, ne_eq, Int.not_lt, Int.not_le, Bool.not_eq_true, Bool.not_eq_false, Decidable.not_not, not_true_eq_false, not_false_eq_true, Bool.true_eq_false, Bool.false_eq_true] at c4) <;> (first | (exfalso; omega) | ((with_reducible refine hJ _ _ _ _ ?_); conv => whnf) | (conv => whnf))
            have hc4 := hc3.tk f4 a4
            rw [e4] at h
            have ch4 := ((tk_hr (q := q) f1).tr (tk_hr f2)).tr ((tk_hr f3).tr (tk_hr f4))
            revert h a4 hc4 v1 v2
            generalize vlT B L (nxT B L (nxT B L (nxT B L S.1))) = v
            generalize nxT B L (nxT B L (nxT B L (nxT B L S.1))) = g3
            intro h v1 v2 a4 hc4
            have kb := kmC_bd2 B L g3
            have kwb := kwT_bd B L g3
            have k9 := kmC_eq (k := kwT B L g3) kwb.1 kwb.2 (n := 9) (by omega)
            have m9 : kmC ((9 : Nat) : Int) = 6 := by decide
            have b116 : ∀ (rs : Int) (g4 : Nat) (σ5 : AM), 0 ≤ rs → rs ≤ 9 → CR σ5 B L q (g4, S.2) → ChA (hrS q) (hrL q) σ σ5 → (∀ (b : Bool) (σ' : AM), OC σ' B L q (fin v rs g4) b → ChA (hrS q) (hrL q) σ σ' → K (.inl (bI b)) σ') → J 116 [.inr (.inr (6, 0)), .inr (.inl (Int64.ofInt ((enc5 (wdH B L (nxT B L S.1)) : Nat) : Int))), unset, .inl (Int32.ofInt v), .inl (Int32.ofInt rs), unset] [] σ5 := by
              intro rs g4 σ5 r1 r2 hc5 ch5 h
              have kb5 := kmC_bd2 B L g4
              have kwb5 := kwT_bd B L g4
              have k10 := kmC_eq (k := kwT B L g4) kwb5.1 kwb5.2 (n := 10) (by omega)
              have m10 : kmC ((10 : Nat) : Int) = 7 := by decide
              have add : ∀ (is as : Bool) (g5 : Nat) (σ6 : AM), CR σ6 B L q (g5, S.2) → ChA (hrS q) (hrL q) σ σ6 → fin v rs g4 = rSemi B L (g5, addM S.2.1 v rs (b01 is), S.2.2.1, upN S.2.2.2.1 (S.2.1 1).toNat (wdH B L (nxT B L S.1)), S.2.2.2.2) → J 168 [.inr (.inr (6, 0)), .inr (.inl (Int64.ofInt ((enc5 (wdH B L (nxT B L S.1)) : Nat) : Int))), unset, .inl (Int32.ofInt v), .inl (Int32.ofInt rs), .inl (bI as)] [.inl (bI is), .inl (Int32.ofInt rs), .inl (Int32.ofInt v), .inr (.inl (Int64.ofInt ((enc5 (wdH B L (nxT B L S.1)) : Nat) : Int))), .inr (.inr (27, q))] σ6 := by
                intro is as g5 σ6 hc6 ch6 e6
                refine hJ _ _ _ _ ?_
                conv => whnf
                refine s_madd hC (c := (S.2.1 1).toNat) (a := awS S.2.1) (by rw [hc6.2.1.2.1]; show Int32.ofInt (S.2.1 1) = _; rw [Int.toNat_of_nonneg b0]) hc6.2.1.2.2.2.2.2.2.2.2.2.2.1 (awS_lt _) (by omega) ?_
                conv => whnf
                have hc7 := hc6.madd (v := v) (rs := rs) (is := is) (w := wdH B L (nxT B L S.1)) hp.wf c z28
                refine c_semi hC hc7 (fun b σ7 o7 f7 => ?_)
                conv => whnf
                exact ⟨bI_01 b, h b _ (e6 ▸ o7) ((ch6.tr madd_hr).tr f7)⟩
              have b147 : ∀ (as : Bool) (g5 : Nat) (σ6 : AM), CR σ6 B L q (g5, S.2) → ChA (hrS q) (hrL q) σ σ6 → fin v rs g4 = rSemi B L (g5, addM S.2.1 v rs (b01 (!as)), S.2.2.1, upN S.2.2.2.1 (S.2.1 1).toNat (wdH B L (nxT B L S.1)), S.2.2.2.2) → J 147 [.inr (.inr (6, 0)), .inr (.inl (Int64.ofInt ((enc5 (wdH B L (nxT B L S.1)) : Nat) : Int))), unset, .inl (Int32.ofInt v), .inl (Int32.ofInt rs), .inl (bI as)] [] σ6 := by
                intro as g5 σ6 hc6 ch6 e6
                refine hJ _ _ _ _ ?_
                conv => whnf
                rw [hc6.2.2.2.2.1]
                refine ⟨h6, ?_⟩
                conv => whnf
                refine ⟨fun c6 => ?_, fun c6 => ?_⟩ <;> (try simp (disch := omega) only [oi_le, oi_lt, oi_eq, oi_lt0, oi_le0, oi_0lt, oi_0le, oi_eq0, oi_eq1, bI_eq0, bI_ne0, bI_eq1, decide_eq_true_eq, decide_eq_false_iff_not, lc_lt, lc_gt, lc_eq, lc_ge, lc_le, ol_lt, ol_eq, ne_eq, Int.not_lt, Int.not_le, Bool.not_eq_true, Bool.not_eq_false, Decidable.not_not, not_true_eq_false, not_false_eq_true, Bool.true_eq_false, Bool.false_eq_true] at c6) <;> (first | (exfalso; omega) | ((fail_if_success with_reducible refine hJ _ _ _ _ ?_); conv => whnf) | skip)
                · subst c6
                  refine hJ _ _ _ _ ?_
                  conv => whnf
                  exact add false true g5 σ6 hc6 ch6 e6
                · subst c6
                  exact add true false g5 σ6 hc6 ch6 e6
              refine hJ _ _ _ _ ?_
              conv => whnf
              rw [show σ5.1 3 0 7 = Int32.ofInt (kmC (kwT B L g4)) from hc5.1.2.2.2.2.2.2.1]
              refine ⟨fun c6 => ?_, fun c6 => ?_⟩ <;> (try simp (disch := omega) only [oi_le, oi_lt, oi_eq, oi_lt0, oi_le0, oi_0lt, oi_0le, oi_eq0, oi_eq1, bI_eq0, bI_ne0, bI_eq1, decide_eq_true_eq, decide_eq_false_iff_not, lc_lt, lc_gt, lc_eq, lc_ge, lc_le, ol_lt, ol_eq, ne_eq, Int.not_lt, Int.not_le, Bool.not_eq_true, Bool.not_eq_false, Decidable.not_not, not_true_eq_false, not_false_eq_true, Bool.true_eq_false, Bool.false_eq_true] at c6) <;> (first | (exfalso; omega) | ((with_reducible refine hJ _ _ _ _ ?_); conv => whnf) | (conv => whnf))
              · have e10 : ¬ kwT B L g4 = 10 := fun z => c6 (k10.mpr z)
                refine hJ _ _ _ _ ?_
                conv => whnf
                refine ⟨fun c7 => ?_, fun c7 => ?_⟩ <;> (try simp (disch := omega) only [oi_le, oi_lt, oi_eq, oi_lt0, oi_le0, oi_0lt, oi_0le, oi_eq0, oi_eq1, bI_eq0, bI_ne0, bI_eq1, decide_eq_true_eq, decide_eq_false_iff_not, lc_lt, lc_gt, lc_eq, lc_ge, lc_le, ol_lt, ol_eq, ne_eq, Int.not_lt, Int.not_le, Bool.not_eq_true, Bool.not_eq_false, Decidable.not_not, not_true_eq_false, not_false_eq_true, Bool.true_eq_false, Bool.false_eq_true] at c7) <;> (first | (exfalso; omega) | ((fail_if_success with_reducible refine hJ _ _ _ _ ?_); conv => whnf) | skip)
                refine b147 false g4 σ5 hc5 ch5 ?_
                rw [hfin]
                show rSemi B L (if kwT B L g4 = 10 then _ else _, addM S.2.1 v rs (if kwT B L g4 = 10 then 0 else 1), _) = _
                rw [if_neg e10, if_neg e10]
                rfl
              · have e10 : kwT B L g4 = 10 := k10.mp c6
                refine hJ _ _ _ _ ?_
                conv => whnf
                refine ⟨fun c7 => ?_, fun c7 => ?_⟩ <;> (try simp (disch := omega) only [oi_le, oi_lt, oi_eq, oi_lt0, oi_le0, oi_0lt, oi_0le, oi_eq0, oi_eq1, bI_eq0, bI_ne0, bI_eq1, decide_eq_true_eq, decide_eq_false_iff_not, lc_lt, lc_gt, lc_eq, lc_ge, lc_le, ol_lt, ol_eq, ne_eq, Int.not_lt, Int.not_le, Bool.not_eq_true, Bool.not_eq_false, Decidable.not_not, not_true_eq_false, not_false_eq_true, Bool.true_eq_false, Bool.false_eq_true] at c7) <;> (first | (exfalso; omega) | ((fail_if_success with_reducible refine hJ _ _ _ _ ?_); conv => whnf) | skip)
                refine s_adv hC hc5.1 (fun σ6 a6 f6 => ?_)
                conv => whnf
                refine b147 true (nxT B L g4) σ6 (hc5.tk f6 a6) (ch5.tr (tk_hr f6)) ?_
                rw [hfin]
                show rSemi B L (if kwT B L g4 = 10 then _ else _, addM S.2.1 v rs (if kwT B L g4 = 10 then 0 else 1), _) = _
                rw [if_pos e10, if_pos e10]
                rfl
            rw [show σ4.1 3 0 7 = Int32.ofInt (kmC (kwT B L g3)) from a4.2.2.2.2.2.2.1]
            refine ⟨fun c5 => ?_, fun c5 => ?_⟩ <;> (try simp (disch := omega) only [oi_le, oi_lt, oi_eq, oi_lt0, oi_le0, oi_0lt, oi_0le, oi_eq0, oi_eq1, bI_eq0, bI_ne0, bI_eq1, decide_eq_true_eq, decide_eq_false_iff_not, lc_lt, lc_gt, lc_eq, lc_ge, lc_le, ol_lt, ol_eq, ne_eq, Int.not_lt, Int.not_le, Bool.not_eq_true, Bool.not_eq_false, Decidable.not_not, not_true_eq_false, not_false_eq_true, Bool.true_eq_false, Bool.false_eq_true] at c5) <;> (first | (exfalso; omega) | ((with_reducible refine hJ _ _ _ _ ?_); conv => whnf) | (conv => whnf))
            · have e9 : ¬ kwT B L g3 = 9 := fun z => c5 (k9.mpr z)
              refine ⟨fun c6 => ?_, fun c6 => ?_⟩ <;> (try simp (disch := omega) only [oi_le, oi_lt, oi_eq, oi_lt0, oi_le0, oi_0lt, oi_0le, oi_eq0, oi_eq1, bI_eq0, bI_ne0, bI_eq1, decide_eq_true_eq, decide_eq_false_iff_not, lc_lt, lc_gt, lc_eq, lc_ge, lc_le, ol_lt, ol_eq, ne_eq, Int.not_lt, Int.not_le, Bool.not_eq_true, Bool.not_eq_false, Decidable.not_not, not_true_eq_false, not_false_eq_true, Bool.true_eq_false, Bool.false_eq_true] at c6) <;> (first | (exfalso; omega) | ((fail_if_success with_reducible refine hJ _ _ _ _ ?_); conv => whnf) | skip)
              refine b116 1 g3 σ4 (by omega) (by omega) hc4 ch4 (fun b σ' o f => h b σ' ?_ f)
              show OC σ' B L q (if kwT B L g3 = 9 then _ else _) b
              rw [if_neg e9]
              exact o
            · have e9 : kwT B L g3 = 9 := k9.mp c5
              refine s_adv hC a4 (fun σ5 a5 f5 => ?_)
              conv => whnf
              have eh : (if kwT B L g3 = 9 then rNum B L 0 9 (nxT B L g3) (fin v) else fin v 1 g3) = rNum B L 0 9 (nxT B L g3) (fin v) := if_pos e9
              have hc5 := hc4.tk f5 a5
              refine c_num hC (q := q) (k := fin v) a5 (by omega) (by omega) (by omega) (by omega) (fun σ6 v3 v4 a6 f6 e6 => ?_) (fun σ6 o6 f6 => ?_)
              · conv => whnf
                refine hJ _ _ _ _ ?_
                conv => whnf
                refine ⟨fun c6 => ?_, fun c6 => ?_⟩ <;> (try simp (disch := omega) only [oi_le, oi_lt, oi_eq, oi_lt0, oi_le0, oi_0lt, oi_0le, oi_eq0, oi_eq1, bI_eq0, bI_ne0, bI_eq1, decide_eq_true_eq, decide_eq_false_iff_not, lc_lt, lc_gt, lc_eq, lc_ge, lc_le, ol_lt, ol_eq, ne_eq, Int.not_lt, Int.not_le, Bool.not_eq_true, Bool.not_eq_false, Decidable.not_not, not_true_eq_false, not_false_eq_true, Bool.true_eq_false, Bool.false_eq_true] at c6) <;> (first | (exfalso; omega) | ((fail_if_success with_reducible refine hJ _ _ _ _ ?_); conv => whnf) | skip)
                refine b116 _ (nxT B L (nxT B L g3)) σ6 v3 v4 (hc5.tk f6 a6) ((ch4.tr (tk_hr f5)).tr (tk_hr f6)) (fun b σ' o f => h b σ' ?_ f)
                show OC σ' B L q (if kwT B L g3 = 9 then rNum B L 0 9 (nxT B L g3) (fin v) else fin v 1 g3) b
                rw [eh, e6]
                exact o
              · conv => whnf
                refine hJ _ _ _ _ ?_
                conv => whnf
                refine ⟨fun c6 => ?_, fun c6 => ?_⟩ <;> (try simp (disch := omega) only [oi_le, oi_lt, oi_eq, oi_lt0, oi_le0, oi_0lt, oi_0le, oi_eq0, oi_eq1, bI_eq0, bI_ne0, bI_eq1, decide_eq_true_eq, decide_eq_false_iff_not, lc_lt, lc_gt, lc_eq, lc_ge, lc_le, ol_lt, ol_eq, ne_eq, Int.not_lt, Int.not_le, Bool.not_eq_true, Bool.not_eq_false, Decidable.not_not, not_true_eq_false, not_false_eq_true, Bool.true_eq_false, Bool.false_eq_true] at c6) <;> (first | (exfalso; omega) | ((with_reducible refine hJ _ _ _ _ ?_); conv => whnf) | (conv => whnf))
                refine ⟨Or.inl rfl, h false _ ?_ ((ch4.tr (tk_hr f5)).tr f6)⟩
                show OC σ6 B L q (if kwT B L g3 = 9 then rNum B L 0 9 (nxT B L g3) (fin v) else fin v 1 g3) false
                rw [eh]
                exact o6
          · conv => whnf
            refine ⟨fun c4 => ?_, fun c4 => ?_⟩ <;> (try simp (disch := omega) only [oi_le, oi_lt, oi_eq, oi_lt0, oi_le0, oi_0lt, oi_0le, oi_eq0, oi_eq1, bI_eq0, bI_ne0, bI_eq1, decide_eq_true_eq, decide_eq_false_iff_not, lc_lt, lc_gt, lc_eq, lc_ge, lc_le, ol_lt, ol_eq, ne_eq, Int.not_lt, Int.not_le, Bool.not_eq_true, Bool.not_eq_false, Decidable.not_not, not_true_eq_false, not_false_eq_true, Bool.true_eq_false, Bool.false_eq_true] at c4) <;> (first | (exfalso; omega) | ((with_reducible refine hJ _ _ _ _ ?_); conv => whnf) | (conv => whnf))
            exact ⟨Or.inl rfl, h false _ o4 ((((tk_hr f1).tr (tk_hr f2)).tr (tk_hr f3)).tr f4)⟩
        · conv => whnf
          refine ⟨fun c3 => ?_, fun c3 => ?_⟩ <;> (try simp (disch := omega) only [oi_le, oi_lt, oi_eq, oi_lt0, oi_le0, oi_0lt, oi_0le, oi_eq0, oi_eq1, bI_eq0, bI_ne0, bI_eq1, decide_eq_true_eq, decide_eq_false_iff_not, lc_lt, lc_gt, lc_eq, lc_ge, lc_le, ol_lt, ol_eq, ne_eq, Int.not_lt, Int.not_le, Bool.not_eq_true, Bool.not_eq_false, Decidable.not_not, not_true_eq_false, not_false_eq_true, Bool.true_eq_false, Bool.false_eq_true] at c3) <;> (first | (exfalso; omega) | ((fail_if_success with_reducible refine hJ _ _ _ _ ?_); conv => whnf) | skip)
          exact n54 _ _ (h false _ o3 (((tk_hr f1).tr (tk_hr f2)).tr f3))
    · conv => whnf
      refine ⟨fun c2 => ?_, fun c2 => ?_⟩ <;> (try simp (disch := omega) only [oi_le, oi_lt, oi_eq, oi_lt0, oi_le0, oi_0lt, oi_0le, oi_eq0, oi_eq1, bI_eq0, bI_ne0, bI_eq1, decide_eq_true_eq, decide_eq_false_iff_not, lc_lt, lc_gt, lc_eq, lc_ge, lc_le, ol_lt, ol_eq, ne_eq, Int.not_lt, Int.not_le, Bool.not_eq_true, Bool.not_eq_false, Decidable.not_not, not_true_eq_false, not_false_eq_true, Bool.true_eq_false, Bool.false_eq_true] at c2) <;> (first | (exfalso; omega) | ((fail_if_success with_reducible refine hJ _ _ _ _ ?_); conv => whnf) | skip)
      exact n54 _ _ (h false _ o2 ((tk_hr f1).tr f2))
  · have e : rMonk B L S = rFl B L S.1 6 := if_pos c
    refine s_fail hC h1.2.2.2 ?_
    conv => whnf
    exact ⟨Or.inl rfl, h false _ (e ▸ OC.fl) fC_hr⟩
