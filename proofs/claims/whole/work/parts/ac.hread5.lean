theorem fnW_lt {tn : Nat → List Nat} {c t : Nat} {w : List Nat} (h : fnW tn c w = some t) : t < c := by
  have := fnW_bd tn c w
  rw [h] at this
  have := this.2.1
  change (t : Int) < (c : Int) at this
  omega
theorem CR.upd {σ : AM} {B : Nat → Int} {L q t j : Nat} {S : PS} {z : Int} (hc : CR σ B L q S) (hw : WF S.2.1) (hi : hin S.2.1 t j) (hx : hix t j ≠ 0 ∧ hix t j ≠ 1 ∧ hix t j ≠ 2) (ht : 22 ≤ t ∧ t ≤ 36) : CR (wI σ t q j (Int32.ofInt z)) B L q (S.1, up S.2.1 (hix t j) z, S.2.2) := hc.hs (ChA.wI ⟨ht.1, ht.2, rfl⟩) (hc.2.1.upd hw hi hx) (up_ne (fun e => hx.1 e.symm)) (up_ne (fun e => hx.2.1 e.symm))
theorem c_follow {CALL : CT} (hC : RuleAll CALL) {r : Nat} {σ : AM} {K : AV → AM → Prop} {B : Nat → Int} {L q : Nat} {S : PS} (hc : CR σ B L q S) (hp : PI L S) (h : ∀ (b : Bool) (σ' : AM), OC σ' B L q (rFollow B L S) b → ChA (hrS q) (hrL q) σ σ' → K (.inl (bI b)) σ') : CALL (r + 4) n_HouseReader_takesFollows [.inr (.inr (6, 0))] σ K := by
  refine r_HouseReader_takesFollows hC (fun J hJ => ?_)
  refine hJ _ _ _ _ ?_
  conv => whnf
  obtain ⟨h1, h2, h3, h4, h5, h6, h7, h8⟩ := id hc
  have b0 : 0 ≤ S.2.1 0 := hp.wf.1.1
  have b1 : S.2.1 0 ≤ 6 := hp.wf.1.2.1
  unfold rFollow at h
  refine s_adv hC h1 (fun σ1 a1 f1 => ?_)
  conv => whnf
  have hc1 := hc.tk f1 a1
  rw [hc1.2.2.2.2.1]
  refine ⟨h6, ?_⟩
  conv => whnf
  refine c_tf hC (S := S) hc1 hp (fun x x1 x2 x3 _ => ?_)
  conv => whnf
  refine c_old hC (q := q) (c := (S.2.1 0).toNat) (tn := S.2.2.1) (k := fun t f1 => rOld B L S.2.2.1 (S.2.1 0).toNat f1 (fun u f2 => rSemi B L (f2, orF S.2.1 (13 + 2 * t) u, S.2.2))) a1 x1 x2 x3 (fun t σ2 n2 t1 t2 a2 f2 e2 => ?_) (fun σ2 o2 f2 => ?_)
  · have tl := fnW_lt t1
    have hc2 := hc1.tk f2 a2
    rw [e2] at h
    conv => whnf
    refine ⟨fun c2 => ?_, fun c2 => ?_⟩ <;> (try simp (disch := omega) only [oi_le, oi_lt, oi_eq, oi_lt0, oi_le0, oi_0lt, oi_0le, oi_eq0, oi_eq1, bI_eq0, bI_ne0, bI_eq1, decide_eq_true_eq, decide_eq_false_iff_not, lc_lt, lc_gt, lc_eq, lc_ge, lc_le, ol_lt, ol_eq, ne_eq, Int.not_lt, Int.not_le, Bool.not_eq_true, Bool.not_eq_false, Decidable.not_not, not_true_eq_false, not_false_eq_true, Bool.true_eq_false, Bool.false_eq_true] at c2) <;> (first | (exfalso; omega) | ((with_reducible refine hJ _ _ _ _ ?_); conv => whnf) | (conv => whnf))
    rw [hc2.2.2.2.2.1]
    refine ⟨h6, ?_⟩
    conv => whnf
    refine c_tf hC (S := S) hc2 hp (fun y y1 y2 y3 _ => ?_)
    conv => whnf
    refine c_old hC (q := q) (c := (S.2.1 0).toNat) (tn := S.2.2.1) (k := fun u f2 => rSemi B L (f2, orF S.2.1 (13 + 2 * t) u, S.2.2)) a2 y1 y2 y3 (fun u σ3 n3 u1 u2 a3 f3 e3 => ?_) (fun σ3 o3 f3 => ?_)
    · have ul := fnW_lt u1
      have hc3 := hc2.tk f3 a3
      rw [e3] at h
      have hq := hp.wf.2.1 t (by omega)
      conv => whnf
      refine ⟨fun c3 => ?_, fun c3 => ?_⟩ <;> (try simp (disch := omega) only [oi_le, oi_lt, oi_eq, oi_lt0, oi_le0, oi_0lt, oi_0le, oi_eq0, oi_eq1, bI_eq0, bI_ne0, bI_eq1, decide_eq_true_eq, decide_eq_false_iff_not, lc_lt, lc_gt, lc_eq, lc_ge, lc_le, ol_lt, ol_eq, ne_eq, Int.not_lt, Int.not_le, Bool.not_eq_true, Bool.not_eq_false, Decidable.not_not, not_true_eq_false, not_false_eq_true, Bool.true_eq_false, Bool.false_eq_true] at c3) <;> (first | (exfalso; omega) | ((with_reducible refine hJ _ _ _ _ ?_); conv => whnf) | (conv => whnf))
      rw [hc3.2.2.2.2.1]
      refine ⟨h6, ?_⟩
      conv => whnf
      rw [hc3.2.2.2.2.1]
      refine ⟨h6, ?_⟩
      conv => whnf
      refine ⟨(oi_in (by omega) (by omega)).mpr ⟨by omega, by omega⟩, ?_⟩
      conv => whnf
      have tx : x.toNat = t := by omega
      rw [oi_nat (by omega) (by omega), tx]
      obtain ⟨e, he⟩ : ∃ e : Nat, S.2.1 (13 + 2 * t) = (e : Int) := ⟨_, (Int.toNat_of_nonneg hq.2.2.1).symm⟩
      have r26 : σ3.1 26 q t = Int32.ofInt (e : Int) := by
        rw [← he]
        exact (hc3.2.1.2.2.2.2.2.2.2.2.2.2.2.1 t (by show (t : Int) < S.2.1 0; omega)).2
      rw [r26, u2]
      refine s_with hC (b := true) (by omega) (by omega) ?_
      conv => whnf
      refine ⟨(oi_in (by omega) (by omega)).mpr ⟨by omega, by omega⟩, ?_⟩
      conv => whnf
      rw [oi_nat (by omega) (by omega), tx]
      have hc4 := hc3.upd (t := 26) (j := t) (z := ((setW e u true : Nat) : Int)) hp.wf (by show hin S.2.1 26 t; unfold hin; omega) (by rw [show hix 26 t = 13 + 2 * t from rfl]; omega) (by omega)
      refine c_semi hC hc4 (fun b σ5 o5 f5 => ?_)
      conv => whnf
      refine ⟨bI_01 b, h b _ ?_ ((((((tk_hr f1).tr (tk_hr f2)).tr (tk_hr f3))).tr (ChA.wI (Or.inr (Or.inl ⟨by omega, by omega, rfl⟩)))).tr f5)⟩
      unfold orF
      rw [he]
      exact o5
    · conv => whnf
      refine ⟨fun c3 => ?_, fun c3 => ?_⟩ <;> (try simp (disch := omega) only [oi_le, oi_lt, oi_eq, oi_lt0, oi_le0, oi_0lt, oi_0le, oi_eq0, oi_eq1, bI_eq0, bI_ne0, bI_eq1, decide_eq_true_eq, decide_eq_false_iff_not, lc_lt, lc_gt, lc_eq, lc_ge, lc_le, ol_lt, ol_eq, ne_eq, Int.not_lt, Int.not_le, Bool.not_eq_true, Bool.not_eq_false, Decidable.not_not, not_true_eq_false, not_false_eq_true, Bool.true_eq_false, Bool.false_eq_true] at c3) <;> (first | (exfalso; omega) | ((with_reducible refine hJ _ _ _ _ ?_); conv => whnf) | (conv => whnf))
      exact ⟨Or.inl rfl, h false _ o3 (((tk_hr f1).tr (tk_hr f2)).tr f3)⟩
  · conv => whnf
    refine ⟨fun c2 => ?_, fun c2 => ?_⟩ <;> (try simp (disch := omega) only [oi_le, oi_lt, oi_eq, oi_lt0, oi_le0, oi_0lt, oi_0le, oi_eq0, oi_eq1, bI_eq0, bI_ne0, bI_eq1, decide_eq_true_eq, decide_eq_false_iff_not, lc_lt, lc_gt, lc_eq, lc_ge, lc_le, ol_lt, ol_eq, ne_eq, Int.not_lt, Int.not_le, Bool.not_eq_true, Bool.not_eq_false, Decidable.not_not, not_true_eq_false, not_false_eq_true, Bool.true_eq_false, Bool.false_eq_true] at c2) <;> (first | (exfalso; omega) | ((with_reducible refine hJ _ _ _ _ ?_); conv => whnf) | (conv => whnf))
    exact ⟨Or.inl rfl, h false _ o2 ((tk_hr f1).tr f2)⟩
theorem s_addEntry2 {CALL : CT} (hC : RuleAll CALL) {r : Nat} {σ : AM} {K : AV → AM → Prop} {n : Nat} {h0 : Nat → Int} {m t : Int} (hr : HRep σ n h0) (hw : WF h0) (h12 : h0 2 < 12) (h : ∀ σ' : AM, HRep σ' n (entF h0 m t) → ChA (fun t i _ => HS n t i) (fun _ _ _ => False) σ σ' → K unset σ') : CALL (r + 1) n_House_addEntry [.inr (.inr (22, n)), .inl (Int32.ofInt m), .inl (Int32.ofInt t)] σ K := by
  refine r_House_addEntry hC (fun J hJ => ?_)
  refine hJ _ _ _ _ ?_
  conv => whnf
  have b := hw.1
  obtain ⟨q0, q1, q2, q3, q4, q5, q6, q7, q8, q9, qa, qt, qm, qe⟩ := id hr
  rw [q2]
  refine ⟨fun c => ?_, fun c => ?_⟩ <;> (try simp (disch := omega) only [oi_le, oi_lt, oi_eq, oi_lt0, oi_le0, oi_0lt, oi_0le, oi_eq0, oi_eq1, bI_eq0, bI_ne0, bI_eq1, decide_eq_true_eq, decide_eq_false_iff_not, lc_lt, lc_gt, lc_eq, lc_ge, lc_le, ol_lt, ol_eq, ne_eq, Int.not_lt, Int.not_le, Bool.not_eq_true, Bool.not_eq_false, Decidable.not_not, not_true_eq_false, not_false_eq_true, Bool.true_eq_false, Bool.false_eq_true] at c) <;> (first | (exfalso; omega) | ((with_reducible refine hJ _ _ _ _ ?_); conv => whnf) | (conv => whnf))
  rw [q2]
  refine ⟨(oi_in (by omega) (by omega)).mpr ⟨by omega, by omega⟩, ?_⟩
  conv => whnf
  rw [oi_nat (by omega) (by omega), wI1, if_neg (by omega), q2]
  refine ⟨(oi_in (by omega) (by omega)).mpr ⟨by omega, by omega⟩, ?_⟩
  conv => whnf
  rw [oi_nat (by omega) (by omega), wI1, if_neg (by omega), wI1, if_neg (by omega), q2, oi_add]
  exact h _ (entF_HRep hr hw) (((ChA.wI ⟨by omega, by omega, rfl⟩).tr (ChA.wI ⟨by omega, by omega, rfl⟩)).tr (ChA.wI ⟨by omega, by omega, rfl⟩))
theorem c_roster {CALL : CT} (hC : RuleAll CALL) {r : Nat} {σ : AM} {K : AV → AM → Prop} {B : Nat → Int} {L q : Nat} {S : PS} (hc : CR σ B L q S) (hp : PI L S) (h : ∀ (b : Bool) (σ' : AM), OC σ' B L q (rRoster B L S) b → ChA (hrS q) (hrL q) σ σ' → K (.inl (bI b)) σ') : CALL (r + 4) n_HouseReader_takesRoster [.inr (.inr (6, 0))] σ K := by
  refine r_HouseReader_takesRoster hC (fun J hJ => ?_)
  refine hJ _ _ _ _ ?_
  conv => whnf
  obtain ⟨h1, h2, h3, h4, h5, h6, h7, h8⟩ := id hc
  have b0 : 0 ≤ S.2.1 0 := hp.wf.1.1
  have b1 : S.2.1 0 ≤ 6 := hp.wf.1.2.1
  have b2 : 0 ≤ S.2.1 2 := hp.wf.1.2.2.2.2.1
  have b3 : S.2.1 2 ≤ 12 := hp.wf.1.2.2.2.2.2.1
  rw [h5]
  refine ⟨h6, ?_⟩
  conv => whnf
  rw [h2.2.2.1]
  refine ⟨fun c => ?_, fun c => ?_⟩ <;> (try simp (disch := omega) only [oi_le, oi_lt, oi_eq, oi_lt0, oi_le0, oi_0lt, oi_0le, oi_eq0, oi_eq1, bI_eq0, bI_ne0, bI_eq1, decide_eq_true_eq, decide_eq_false_iff_not, lc_lt, lc_gt, lc_eq, lc_ge, lc_le, ol_lt, ol_eq, ne_eq, Int.not_lt, Int.not_le, Bool.not_eq_true, Bool.not_eq_false, Decidable.not_not, not_true_eq_false, not_false_eq_true, Bool.true_eq_false, Bool.false_eq_true] at c) <;> (first | (exfalso; omega) | ((with_reducible refine hJ _ _ _ _ ?_); conv => whnf) | (conv => whnf))
  · have e : rRoster B L S = rOld B L S.2.2.2.1 (S.2.1 1).toNat (nxT B L S.1) (fun m f1 => rOld B L S.2.2.1 (S.2.1 0).toNat f1 (fun t f2 => rSemi B L (f2, entF S.2.1 (m : Int) (t : Int), S.2.2))) := if_neg (by omega)
    rw [e] at h
    refine s_adv hC h1 (fun σ1 a1 f1 => ?_)
    conv => whnf
    have hc1 := hc.tk f1 a1
    rw [hc1.2.2.2.2.1]
    refine ⟨h6, ?_⟩
    conv => whnf
    refine c_mf hC (S := S) hc1 hp (fun x x1 x2 x3 _ => ?_)
    conv => whnf
    refine c_old hC (q := q) (c := (S.2.1 1).toNat) (tn := S.2.2.2.1) (k := fun m f1 => rOld B L S.2.2.1 (S.2.1 0).toNat f1 (fun t f2 => rSemi B L (f2, entF S.2.1 (m : Int) (t : Int), S.2.2))) a1 x1 x2 x3 (fun t σ2 n2 t1 t2 a2 f2 e2 => ?_) (fun σ2 o2 f2 => ?_)
    · have tl := fnW_lt t1
      have hc2 := hc1.tk f2 a2
      rw [e2] at h
      conv => whnf
      refine ⟨fun c2 => ?_, fun c2 => ?_⟩ <;> (try simp (disch := omega) only [oi_le, oi_lt, oi_eq, oi_lt0, oi_le0, oi_0lt, oi_0le, oi_eq0, oi_eq1, bI_eq0, bI_ne0, bI_eq1, decide_eq_true_eq, decide_eq_false_iff_not, lc_lt, lc_gt, lc_eq, lc_ge, lc_le, ol_lt, ol_eq, ne_eq, Int.not_lt, Int.not_le, Bool.not_eq_true, Bool.not_eq_false, Decidable.not_not, not_true_eq_false, not_false_eq_true, Bool.true_eq_false, Bool.false_eq_true] at c2) <;> (first | (exfalso; omega) | ((with_reducible refine hJ _ _ _ _ ?_); conv => whnf) | (conv => whnf))
      rw [hc2.2.2.2.2.1]
      refine ⟨h6, ?_⟩
      conv => whnf
      refine c_tf hC (S := S) hc2 hp (fun y y1 y2 y3 _ => ?_)
      conv => whnf
      refine c_old hC (q := q) (c := (S.2.1 0).toNat) (tn := S.2.2.1) (k := fun u f2 => rSemi B L (f2, entF S.2.1 (t : Int) (u : Int), S.2.2)) a2 y1 y2 y3 (fun u σ3 n3 u1 u2 a3 f3 e3 => ?_) (fun σ3 o3 f3 => ?_)
      · have ul := fnW_lt u1
        have hc3 := hc2.tk f3 a3
        rw [e3] at h
        conv => whnf
        refine ⟨fun c3 => ?_, fun c3 => ?_⟩ <;> (try simp (disch := omega) only [oi_le, oi_lt, oi_eq, oi_lt0, oi_le0, oi_0lt, oi_0le, oi_eq0, oi_eq1, bI_eq0, bI_ne0, bI_eq1, decide_eq_true_eq, decide_eq_false_iff_not, lc_lt, lc_gt, lc_eq, lc_ge, lc_le, ol_lt, ol_eq, ne_eq, Int.not_lt, Int.not_le, Bool.not_eq_true, Bool.not_eq_false, Decidable.not_not, not_true_eq_false, not_false_eq_true, Bool.true_eq_false, Bool.false_eq_true] at c3) <;> (first | (exfalso; omega) | ((with_reducible refine hJ _ _ _ _ ?_); conv => whnf) | (conv => whnf))
        rw [hc3.2.2.2.2.1]
        refine ⟨h6, ?_⟩
        conv => whnf
        refine s_addEntry2 hC hc3.2.1 hp.wf c (fun σ4 r4 f4 => ?_)
        conv => whnf
        rw [t2, u2] at r4
        have hc4 := hc3.hs f4 r4 (entF_lo (by decide) (by decide)) (entF_lo (by decide) (by decide))
        refine c_semi hC hc4 (fun b σ5 o5 f5 => ?_)
        conv => whnf
        exact ⟨bI_01 b, h b _ o5 ((((((tk_hr f1).tr (tk_hr f2)).tr (tk_hr f3))).tr (hs_hr f4)).tr f5)⟩
      · conv => whnf
        refine ⟨fun c3 => ?_, fun c3 => ?_⟩ <;> (try simp (disch := omega) only [oi_le, oi_lt, oi_eq, oi_lt0, oi_le0, oi_0lt, oi_0le, oi_eq0, oi_eq1, bI_eq0, bI_ne0, bI_eq1, decide_eq_true_eq, decide_eq_false_iff_not, lc_lt, lc_gt, lc_eq, lc_ge, lc_le, ol_lt, ol_eq, ne_eq, Int.not_lt, Int.not_le, Bool.not_eq_true, Bool.not_eq_false, Decidable.not_not, not_true_eq_false, not_false_eq_true, Bool.true_eq_false, Bool.false_eq_true] at c3) <;> (first | (exfalso; omega) | ((with_reducible refine hJ _ _ _ _ ?_); conv => whnf) | (conv => whnf))
        exact ⟨Or.inl rfl, h false _ o3 (((tk_hr f1).tr (tk_hr f2)).tr f3)⟩
    · conv => whnf
      refine ⟨fun c2 => ?_, fun c2 => ?_⟩ <;> (try simp (disch := omega) only [oi_le, oi_lt, oi_eq, oi_lt0, oi_le0, oi_0lt, oi_0le, oi_eq0, oi_eq1, bI_eq0, bI_ne0, bI_eq1, decide_eq_true_eq, decide_eq_false_iff_not, lc_lt, lc_gt, lc_eq, lc_ge, lc_le, ol_lt, ol_eq, ne_eq, Int.not_lt, Int.not_le, Bool.not_eq_true, Bool.not_eq_false, Decidable.not_not, not_true_eq_false, not_false_eq_true, Bool.true_eq_false, Bool.false_eq_true] at c2) <;> (first | (exfalso; omega) | ((with_reducible refine hJ _ _ _ _ ?_); conv => whnf) | (conv => whnf))
      exact ⟨Or.inl rfl, h false _ o2 ((tk_hr f1).tr f2)⟩
  · have e : rRoster B L S = rFl B L S.1 6 := if_pos c
    refine s_fail hC h1.2.2.2 ?_
    conv => whnf
    exact ⟨Or.inl rfl, h false _ (e ▸ OC.fl) fC_hr⟩
theorem c_hear {CALL : CT} (hC : RuleAll CALL) {r : Nat} {σ : AM} {K : AV → AM → Prop} {B : Nat → Int} {L q : Nat} {S : PS} (hc : CR σ B L q S) (hp : PI L S) (h : ∀ (b : Bool) (σ' : AM), OC σ' B L q (rHear B L S) b → ChA (hrS q) (hrL q) σ σ' → K (.inl (bI b)) σ') : CALL (r + 4) n_HouseReader_takesHears [.inr (.inr (6, 0))] σ K := by
  refine r_HouseReader_takesHears hC (fun J hJ => ?_)
  refine hJ _ _ _ _ ?_
  conv => whnf
  obtain ⟨h1, h2, h3, h4, h5, h6, h7, h8⟩ := id hc
  have b0 : 0 ≤ S.2.1 1 := hp.wf.1.2.2.1
  have b1 : S.2.1 1 ≤ 7 := hp.wf.1.2.2.2.1
  obtain ⟨k2, hk2⟩ : ∃ k2 : Nat → Nat → Nat → Rz, k2 = fun m o f2 => rSemi B L (f2, orF (orF S.2.1 (30 + 7 * m) o) (30 + 7 * o) m, S.2.2) := ⟨_, rfl⟩
  have e : rHear B L S = rOld B L S.2.2.2.1 (S.2.1 1).toNat (nxT B L S.1) (fun m f1 => if isNm B L f1 = true ∧ fnW S.2.2.2.1 (S.2.1 1).toNat (wdH B L f1) = some m then rFl B L f1 5 else rOld B L S.2.2.2.1 (S.2.1 1).toNat f1 (k2 m)) := by rw [hk2]; rfl
  rw [e] at h
  refine s_adv hC h1 (fun σ1 a1 f1 => ?_)
  conv => whnf
  have hc1 := hc.tk f1 a1
  rw [hc1.2.2.2.2.1]
  refine ⟨h6, ?_⟩
  conv => whnf
  refine c_mf hC (S := S) hc1 hp (fun x x1 x2 x3 _ => ?_)
  conv => whnf
  refine c_old hC (q := q) (c := (S.2.1 1).toNat) (tn := S.2.2.2.1) (k := fun m f1 => if isNm B L f1 = true ∧ fnW S.2.2.2.1 (S.2.1 1).toNat (wdH B L f1) = some m then rFl B L f1 5 else rOld B L S.2.2.2.1 (S.2.1 1).toNat f1 (k2 m)) a1 x1 x2 x3 (fun t σ2 n2 t1 t2 a2 f2 e2 => ?_) (fun σ2 o2 f2 => ?_)
  · have tl := fnW_lt t1
    have hc2 := hc1.tk f2 a2
    rw [e2] at h
    conv => whnf
    refine ⟨fun c2 => ?_, fun c2 => ?_⟩ <;> (try simp (disch := omega) only [oi_le, oi_lt, oi_eq, oi_lt0, oi_le0, oi_0lt, oi_0le, oi_eq0, oi_eq1, bI_eq0, bI_ne0, bI_eq1, decide_eq_true_eq, decide_eq_false_iff_not, lc_lt, lc_gt, lc_eq, lc_ge, lc_le, ol_lt, ol_eq, ne_eq, Int.not_lt, Int.not_le, Bool.not_eq_true, Bool.not_eq_false, Decidable.not_not, not_true_eq_false, not_false_eq_true, Bool.true_eq_false, Bool.false_eq_true] at c2) <;> (first | (exfalso; omega) | ((with_reducible refine hJ _ _ _ _ ?_); conv => whnf) | (conv => whnf))
    rw [hc2.2.2.2.2.1]
    refine ⟨h6, ?_⟩
    conv => whnf
    refine c_mf hC (S := S) hc2 hp (fun y y1 y2 y3 y4 => ?_)
    conv => whnf
    have eqv : y = x ↔ (isNm B L (nxT B L (nxT B L S.1)) = true ∧ fnW S.2.2.2.1 (S.2.1 1).toNat (wdH B L (nxT B L (nxT B L S.1))) = some t) := by
      cases en : isNm B L (nxT B L (nxT B L S.1)) with
      | false =>
        have := y4 en
        exact ⟨fun z => by omega, fun z => by cases z.1⟩
      | true =>
        have y3 := y3 en
        cases ef : fnW S.2.2.2.1 (S.2.1 1).toNat (wdH B L (nxT B L (nxT B L S.1))) with
        | none =>
          rw [ef] at y3
          change y = -1 at y3
          exact ⟨fun z => by omega, fun z => by cases z.2⟩
        | some u =>
          rw [ef] at y3
          change y = (u : Int) at y3
          exact ⟨fun z => ⟨rfl, by rw [show u = t by omega]⟩, fun z => by have := Option.some.inj z.2; omega⟩
    refine ⟨fun c3 => ?_, fun c3 => ?_⟩ <;> (try simp (disch := omega) only [oi_le, oi_lt, oi_eq, oi_lt0, oi_le0, oi_0lt, oi_0le, oi_eq0, oi_eq1, bI_eq0, bI_ne0, bI_eq1, decide_eq_true_eq, decide_eq_false_iff_not, lc_lt, lc_gt, lc_eq, lc_ge, lc_le, ol_lt, ol_eq, ne_eq, Int.not_lt, Int.not_le, Bool.not_eq_true, Bool.not_eq_false, Decidable.not_not, not_true_eq_false, not_false_eq_true, Bool.true_eq_false, Bool.false_eq_true] at c3) <;> (first | (exfalso; omega) | ((with_reducible refine hJ _ _ _ _ ?_); conv => whnf) | (conv => whnf))
    · rw [if_neg (fun z => c3 (eqv.mpr z))] at h
      refine c_old hC (q := q) (c := (S.2.1 1).toNat) (tn := S.2.2.2.1) (k := k2 t) a2 y1 y2 y3 (fun u σ3 n3 u1 u2 a3 f3 e3 => ?_) (fun σ3 o3 f3 => ?_)
      · have ul := fnW_lt u1
        have hc3 := hc2.tk f3 a3
        rw [e3] at h
        have hq := hp.wf.2.2.1 t (by omega)
        have hq2 := hp.wf.2.2.1 u (by omega)
        conv => whnf
        refine ⟨fun c4 => ?_, fun c4 => ?_⟩ <;> (try simp (disch := omega) only [oi_le, oi_lt, oi_eq, oi_lt0, oi_le0, oi_0lt, oi_0le, oi_eq0, oi_eq1, bI_eq0, bI_ne0, bI_eq1, decide_eq_true_eq, decide_eq_false_iff_not, lc_lt, lc_gt, lc_eq, lc_ge, lc_le, ol_lt, ol_eq, ne_eq, Int.not_lt, Int.not_le, Bool.not_eq_true, Bool.not_eq_false, Decidable.not_not, not_true_eq_false, not_false_eq_true, Bool.true_eq_false, Bool.false_eq_true] at c4) <;> (first | (exfalso; omega) | ((with_reducible refine hJ _ _ _ _ ?_); conv => whnf) | (conv => whnf))
        rw [hc3.2.2.2.2.1]
        refine ⟨h6, ?_⟩
        conv => whnf
        obtain ⟨e1, he1⟩ : ∃ e : Nat, S.2.1 (30 + 7 * t) = (e : Int) := ⟨_, (Int.toNat_of_nonneg (by omega)).symm⟩
        obtain ⟨e2, he2⟩ : ∃ e : Nat, S.2.1 (30 + 7 * u) = (e : Int) := ⟨_, (Int.toNat_of_nonneg (by omega)).symm⟩
        have r1 : σ3.1 34 q t = Int32.ofInt (e1 : Int) := by
          rw [← he1]
          exact (hc3.2.1.2.2.2.2.2.2.2.2.2.2.2.2.1 t (by show (t : Int) < S.2.1 1; omega)).2.2.2.2.2
        have r2 : σ3.1 34 q u = Int32.ofInt (e2 : Int) := by
          rw [← he2]
          exact (hc3.2.1.2.2.2.2.2.2.2.2.2.2.2.2.1 u (by show (u : Int) < S.2.1 1; omega)).2.2.2.2.2
        rw [t2, u2]
        refine s_lend hC (is := true) (by omega) (by omega) (by omega) r1 r2 (by omega) (by omega) ?_
        conv => whnf
        have hc4 := hc3.upd (t := 34) (j := t) (z := ((setW e1 u true : Nat) : Int)) hp.wf (by show hin S.2.1 34 t; unfold hin; omega) (by rw [show hix 34 t = 30 + 7 * t from rfl]; omega) (by omega)
        have hwf : WF (up S.2.1 (30 + 7 * t) ((setW e1 u true : Nat) : Int)) := by
          have := setW_lt (a := e1) (k := u) (b := true) (by omega) (by omega)
          exact (WP.upd hp.2.1 (Or.inr (Or.inr (Or.inr (Or.inr (Or.inr (Or.inr (Or.inr ⟨t, by omega, rfl, by omega, by omega⟩)))))))).1
        have hc5 := hc4.upd (t := 34) (j := u) (z := ((setW e2 t true : Nat) : Int)) hwf (by show hin (up S.2.1 (30 + 7 * t) _) 34 u; unfold hin; rw [up_ne (by omega : 1 ≠ 30 + 7 * t)]; omega) (by rw [show hix 34 u = 30 + 7 * u from rfl]; omega) (by omega)
        refine c_semi hC hc5 (fun b σ5 o5 f5 => ?_)
        conv => whnf
        refine ⟨bI_01 b, h b _ ?_ ((((((tk_hr f1).tr (tk_hr f2)).tr (tk_hr f3))).tr ((ChA.wI (Or.inr (Or.inl ⟨by omega, by omega, rfl⟩))).tr (ChA.wI (Or.inr (Or.inl ⟨by omega, by omega, rfl⟩))))).tr f5)⟩
        rw [hk2]
        have : orF (orF S.2.1 (30 + 7 * t) u) (30 + 7 * u) t = up (up S.2.1 (30 + 7 * t) ((setW e1 u true : Nat) : Int)) (30 + 7 * u) ((setW e2 t true : Nat) : Int) := by
          unfold orF
          rw [he1, up_ne (by omega), he2]
          rfl
        show OC σ5 B L q (rSemi B L (_, orF (orF S.2.1 (30 + 7 * t) u) (30 + 7 * u) t, S.2.2)) b
        rw [this]
        exact o5
      · conv => whnf
        refine ⟨fun c4 => ?_, fun c4 => ?_⟩ <;> (try simp (disch := omega) only [oi_le, oi_lt, oi_eq, oi_lt0, oi_le0, oi_0lt, oi_0le, oi_eq0, oi_eq1, bI_eq0, bI_ne0, bI_eq1, decide_eq_true_eq, decide_eq_false_iff_not, lc_lt, lc_gt, lc_eq, lc_ge, lc_le, ol_lt, ol_eq, ne_eq, Int.not_lt, Int.not_le, Bool.not_eq_true, Bool.not_eq_false, Decidable.not_not, not_true_eq_false, not_false_eq_true, Bool.true_eq_false, Bool.false_eq_true] at c4) <;> (first | (exfalso; omega) | ((with_reducible refine hJ _ _ _ _ ?_); conv => whnf) | (conv => whnf))
        exact ⟨Or.inl rfl, h false _ o3 (((tk_hr f1).tr (tk_hr f2)).tr f3)⟩
    · rw [if_pos (eqv.mp c3)] at h
      refine s_fail hC a2.2.2.2 ?_
      conv => whnf
      exact ⟨Or.inl rfl, h false _ OC.fl (((tk_hr f1).tr (tk_hr f2)).tr fC_hr)⟩
  · conv => whnf
    refine ⟨fun c2 => ?_, fun c2 => ?_⟩ <;> (try simp (disch := omega) only [oi_le, oi_lt, oi_eq, oi_lt0, oi_le0, oi_0lt, oi_0le, oi_eq0, oi_eq1, bI_eq0, bI_ne0, bI_eq1, decide_eq_true_eq, decide_eq_false_iff_not, lc_lt, lc_gt, lc_eq, lc_ge, lc_le, ol_lt, ol_eq, ne_eq, Int.not_lt, Int.not_le, Bool.not_eq_true, Bool.not_eq_false, Decidable.not_not, not_true_eq_false, not_false_eq_true, Bool.true_eq_false, Bool.false_eq_true] at c2) <;> (first | (exfalso; omega) | ((with_reducible refine hJ _ _ _ _ ?_); conv => whnf) | (conv => whnf))
    exact ⟨Or.inl rfl, h false _ o2 ((tk_hr f1).tr f2)⟩
