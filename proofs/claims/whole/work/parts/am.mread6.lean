theorem wL22 (σ : AM) (t i j : Nat) (x : Int64) : (wL σ t i j x).2.2 = σ.2.2 := rfl
theorem MR.nam {σ : AM} {B : Nat → Int} {L k : Nat} {S : PS} {x : Int64} (hm : MR σ B L S) (h1 : ∀ t : Nat, (t : Int) < S.2.1 0 → 52 + t ≠ k) (h2 : ∀ m : Nat, (m : Int) < S.2.1 1 → 58 + m ≠ k) : MR (wL σ 48 0 k x) B L S := by
  obtain ⟨p1, p2, p3, p4, p5, p6, p7⟩ := hm
  refine ⟨p1, p2, fun t ht => ?_, fun t ht => ?_, p5, p6, p7⟩
  · rw [wL1, if_neg (fun z => h1 t ht z.2.2)]; exact p3 t ht
  · rw [wL1, if_neg (fun z => h2 t ht z.2.2)]; exact p4 t ht
theorem m_new {CALL : CT} (hC : RuleAll CALL) {r : Nat} {σ : AM} {K : AV → AM → Prop} {B : Nat → Int} {L w most base : Nat} {S : PS} {k : Nat → Rz} (hm : MR σ B L S) (hp : PI L S) (hw : (w = 0 ∧ most = 6 ∧ base = 0) ∨ (w = 1 ∧ most = 7 ∧ base = 6)) (h1 : ∀ σ' : AM, S.2.1 w < (most : Int) → isNm B L (nxT B L S.1) = true → MR σ' B L (nxT B L (nxT B L S.1), S.2) → σ'.2.1 48 0 (52 + base + (S.2.1 w).toNat) = Int64.ofInt ((enc8 (wdH B L (nxT B L S.1)) : Nat) : Int) → rNew B L S (nxT B L S.1) k = k (nxT B L (nxT B L S.1)) → ChA mnS mnL σ σ' → K (.inl (Int32.ofInt 1)) σ') (h2 : ∀ σ' : AM, OM σ' B L (if (most : Int) ≤ S.2.1 w then rFl B L S.1 6 else rNew B L S (nxT B L S.1) k) false → ChA mnS mnL σ σ' → K (.inl (Int32.ofInt 0)) σ') : CALL (r + 4) n_m_newOne [.inr (.inr (46, 0)), .inl (Int32.ofInt (w : Int)), .inl (Int32.ofInt (most : Int)), .inl (Int32.ofInt (base : Int))] σ K := by
  refine r_m_newOne hC (fun J hJ => ?_)
  refine hJ _ _ _ _ ?_
  conv => whnf
  have b := hp.wf.1
  have bw : 0 ≤ S.2.1 w ∧ S.2.1 w ≤ (most : Int) ∧ w ≤ 1 ∧ most ≤ 7 ∧ base ≤ 6 := by
    rcases hw with ⟨e1, e2, e3⟩ | ⟨e1, e2, e3⟩ <;> rw [e1, e2, e3] <;> omega
  rw [oi_add]
  refine ⟨(oi_in (by omega) (by omega)).mpr ⟨by omega, by omega⟩, ?_⟩
  conv => whnf
  rw [oi_nat (by omega) (by omega), show (1860 + (w : Int)).toNat = 1860 + w by omega, hm.2.1 w (by omega)]
  refine ⟨fun c => ?_, fun c => ?_⟩ <;> (try simp (disch := omega) only [oi_le, oi_lt, oi_eq, oi_lt0, oi_le0, oi_0lt, oi_0le, oi_eq0, oi_eq1, bI_eq0, bI_ne0, bI_eq1, decide_eq_true_eq, decide_eq_false_iff_not, lc_lt, lc_gt, lc_eq, lc_ge, lc_le, ol_lt, ol_eq, ne_eq, Int.not_lt, Int.not_le, Bool.not_eq_true, Bool.not_eq_false, Decidable.not_not, not_true_eq_false, not_false_eq_true, Bool.true_eq_false, Bool.false_eq_true] at c) <;> (first | (exfalso; omega) | ((with_reducible refine hJ _ _ _ _ ?_); conv => whnf) | (conv => whnf))
  · rw [if_neg (by omega)] at h2
    refine s_m_adv hC hm.1 (fun σ1 a1 f1 => ?_)
    conv => whnf
    have hm1 := hm.tk f1 a1
    have ft := fnW_bd S.2.2.1 (S.2.1 0).toNat (wdH B L (nxT B L S.1))
    have fm := fnW_bd S.2.2.2.1 (S.2.1 1).toNat (wdH B L (nxT B L S.1))
    refine s_m_isNm hC a1 ?_
    conv => whnf
    refine ⟨fun c2 => ?_, fun c2 => ?_⟩ <;> (try simp (disch := omega) only [oi_le, oi_lt, oi_eq, oi_lt0, oi_le0, oi_0lt, oi_0le, oi_eq0, oi_eq1, bI_eq0, bI_ne0, bI_eq1, decide_eq_true_eq, decide_eq_false_iff_not, lc_lt, lc_gt, lc_eq, lc_ge, lc_le, ol_lt, ol_eq, ne_eq, Int.not_lt, Int.not_le, Bool.not_eq_true, Bool.not_eq_false, Decidable.not_not, not_true_eq_false, not_false_eq_true, Bool.true_eq_false, Bool.false_eq_true] at c2) <;> (first | (exfalso; omega) | ((with_reducible refine hJ _ _ _ _ ?_); conv => whnf) | (conv => whnf))
    · have bad : (fnW S.2.2.1 (S.2.1 0).toNat (wdH B L (nxT B L S.1)) ≠ none ∨ fnW S.2.2.2.1 (S.2.1 1).toNat (wdH B L (nxT B L S.1)) ≠ none) → J 76 [.inr (.inr (46, 0)), .inl (Int32.ofInt (w : Int)), .inl (Int32.ofInt (most : Int)), .inl (Int32.ofInt (base : Int))] [] σ1 := by
        intro z
        refine hJ _ _ _ _ ?_
        conv => whnf
        refine s_m_fails hC a1.2.2.1 a1.2.2.2 ?_
        conv => whnf
        refine ⟨Or.inl rfl, h2 _ ?_ ((tm_mn f1).tr fM_mn)⟩
        unfold rNew
        rw [if_neg (by rw [c2]; decide), if_pos z]
        exact OM.fl (by omega) (by omega)
      refine ⟨(oi_in (by omega) (by omega)).mpr ⟨by omega, by omega⟩, ?_⟩
      conv => whnf
      rw [show (Int32.ofInt 1860).toNatClampNeg = 1860 + 0 from rfl, hm1.2.1 0 (by omega), show Int32.ofInt (S.2.1 0) = Int32.ofInt (((S.2.1 0).toNat : Nat) : Int) by rw [Int.toNat_of_nonneg (by omega)]]
      refine s_m_findHere hC (base := 52) (c := (S.2.1 0).toNat) (tn := S.2.2.1) a1 c2 (by omega) (fun t ht => ⟨(hp.tw t (by omega)).1, hm1.2.2.1 t (by show (t : Int) < S.2.1 0; omega)⟩) ?_
      conv => whnf
      refine ⟨fun c3 => ?_, fun c3 => ?_⟩ <;> (try simp (disch := omega) only [oi_le, oi_lt, oi_eq, oi_lt0, oi_le0, oi_0lt, oi_0le, oi_eq0, oi_eq1, bI_eq0, bI_ne0, bI_eq1, decide_eq_true_eq, decide_eq_false_iff_not, lc_lt, lc_gt, lc_eq, lc_ge, lc_le, ol_lt, ol_eq, ne_eq, Int.not_lt, Int.not_le, Bool.not_eq_true, Bool.not_eq_false, Decidable.not_not, not_true_eq_false, not_false_eq_true, Bool.true_eq_false, Bool.false_eq_true] at c3) <;> (first | (exfalso; omega) | ((fail_if_success with_reducible refine hJ _ _ _ _ ?_); conv => whnf) | skip)
      · exact bad (Or.inl (fun z => c3 (ft.2.2.1.mpr z)))
      · refine ⟨(oi_in (by omega) (by omega)).mpr ⟨by omega, by omega⟩, ?_⟩
        conv => whnf
        rw [show (Int32.ofInt 1861).toNatClampNeg = 1860 + 1 from rfl, hm1.2.1 1 (by omega), show Int32.ofInt (S.2.1 1) = Int32.ofInt (((S.2.1 1).toNat : Nat) : Int) by rw [Int.toNat_of_nonneg (by omega)]]
        refine s_m_findHere hC (base := 58) (c := (S.2.1 1).toNat) (tn := S.2.2.2.1) a1 c2 (by omega) (fun t ht => ⟨(hp.mw t (by omega)).1, hm1.2.2.2.1 t (by show (t : Int) < S.2.1 1; omega)⟩) ?_
        conv => whnf
        refine ⟨fun c4 => ?_, fun c4 => ?_⟩ <;> (try simp (disch := omega) only [oi_le, oi_lt, oi_eq, oi_lt0, oi_le0, oi_0lt, oi_0le, oi_eq0, oi_eq1, bI_eq0, bI_ne0, bI_eq1, decide_eq_true_eq, decide_eq_false_iff_not, lc_lt, lc_gt, lc_eq, lc_ge, lc_le, ol_lt, ol_eq, ne_eq, Int.not_lt, Int.not_le, Bool.not_eq_true, Bool.not_eq_false, Decidable.not_not, not_true_eq_false, not_false_eq_true, Bool.true_eq_false, Bool.false_eq_true] at c4) <;> (first | (exfalso; omega) | ((fail_if_success with_reducible refine hJ _ _ _ _ ?_); conv => whnf) | skip)
        · refine hJ _ _ _ _ ?_
          conv => whnf
          rw [oi_add, oi_add]
          refine ⟨(oi_in (by omega) (by omega)).mpr ⟨by omega, by omega⟩, ?_⟩
          conv => whnf
          rw [oi_nat (by omega) (by omega), show (1860 + (w : Int)).toNat = 1860 + w by omega, show σ1.1 47 0 (1860 + w) = Int32.ofInt (S.2.1 w) from hm1.2.1 w (by omega)]
          refine s_m_nameHere hC a1 c2 ?_
          conv => whnf
          rw [oi_add]
          refine ⟨(oi_in (by omega) (by omega)).mpr ⟨by omega, by omega⟩, ?_⟩
          conv => whnf
          rw [oi_nat (by omega) (by omega), show (52 + (base : Int) + S.2.1 w).toNat = 52 + base + (S.2.1 w).toNat by omega]
          have hm2 : MR (wL σ1 48 0 (52 + base + (S.2.1 w).toNat) (Int64.ofInt ((enc8 (wdH B L (nxT B L S.1)) : Nat) : Int))) B L (nxT B L S.1, S.2) := hm1.nam (fun t ht => by
            have ht : (t : Int) < S.2.1 0 := ht
            rcases hw with ⟨e1, e2, e3⟩ | ⟨e1, e2, e3⟩ <;> rw [e1, e3] <;> omega) (fun t ht => by
            have ht : (t : Int) < S.2.1 1 := ht
            rcases hw with ⟨e1, e2, e3⟩ | ⟨e1, e2, e3⟩ <;> rw [e1, e3] <;> rw [e1, e2] at c <;> omega)
          refine s_m_adv hC hm2.1 (fun σ2 a2 f2 => ?_)
          conv => whnf
          refine ⟨Or.inr rfl, h1 σ2 (by omega) c2 (hm2.tk f2 a2) ?_ ?_ ?_⟩
          · rw [f2.2, wL1, if_pos ⟨rfl, rfl, rfl⟩]
          · unfold rNew
            rw [if_neg (by rw [c2]; decide), if_neg (fun z => z.elim (fun z => z (ft.2.2.1.mp c3)) (fun z => z (fm.2.2.1.mp c4)))]
          · have fl : ChA mnS mnL σ1 (wL σ1 48 0 (52 + base + (S.2.1 w).toNat) (Int64.ofInt ((enc8 (wdH B L (nxT B L S.1)) : Nat) : Int))) := by
              refine ⟨fun t i j z => rfl, fun t i j z => ?_, rfl⟩
              rw [wL1, if_neg (fun y => z ⟨y.1, y.2.1, by omega⟩)]
            exact ((tm_mn f1).tr fl).tr (tm_mn f2)
        · exact bad (Or.inr (fun z => c4 (fm.2.2.1.mpr z)))
    · refine s_m_fails hC a1.2.2.1 a1.2.2.2 ?_
      conv => whnf
      refine ⟨Or.inl rfl, h2 _ ?_ ((tm_mn f1).tr fM_mn)⟩
      unfold rNew
      rw [if_pos c2]
      exact OM.fl (by omega) (by omega)
  · rw [if_pos (by omega)] at h2
    refine s_m_fails hC hm.1.2.2.1 hm.1.2.2.2 ?_
    conv => whnf
    exact ⟨Or.inl rfl, h2 _ (OM.fl (by omega) (by omega)) fM_mn⟩
theorem MR.topc {σ : AM} {B : Nat → Int} {L : Nat} {S : PS} {w : List Nat} (hm : MR σ B L S) (h0 : 0 ≤ S.2.1 0) (hn : σ.2.1 48 0 (52 + (S.2.1 0).toNat) = Int64.ofInt ((enc8 w : Nat) : Int)) : MR (wI σ 47 0 1860 (Int32.ofInt (S.2.1 0 + 1))) B L (S.1, up S.2.1 0 (S.2.1 0 + 1), upN S.2.2.1 (S.2.1 0).toNat w, S.2.2.2) := by
  obtain ⟨p1, p2, p3, p4, ⟨e, p5, p5b, p5c⟩, p6, p7⟩ := hm
  refine ⟨p1.ch (S := fun t _ _ => t = 47) (fun t q j z => by rw [wI1, if_neg (fun y => z y.1)]) (fun j _ _ z => by omega) (fun j z => by omega), p2.up (k := 0) (fun j _ c => by rw [wI1, if_neg (by omega)]) wI_16, fun t ht => ?_, fun t ht => p4 t ?_, ⟨e, p5, by rw [wI1, if_neg (by omega)]; exact p5b, p5c⟩, fun j j1 j2 => by rw [wI1, if_neg (by omega)]; exact p6 j j1 j2, by rw [wI1, if_neg (by omega)]; exact p7⟩
  · have ht : (t : Int) < up S.2.1 0 (S.2.1 0 + 1) 0 := ht
    rw [up_eq] at ht
    show σ.2.1 48 0 (52 + t) = Int64.ofInt ((enc8 (upN S.2.2.1 (S.2.1 0).toNat w t) : Nat) : Int)
    by_cases c : t = (S.2.1 0).toNat
    · rw [c, upN_eq]; exact hn
    · rw [upN_ne c]; exact p3 t (by omega)
  · have ht : (t : Int) < up S.2.1 0 (S.2.1 0 + 1) 1 := ht
    rw [up_ne (by omega)] at ht
    exact ht
theorem MR.monc {σ : AM} {B : Nat → Int} {L : Nat} {S : PS} {w : List Nat} (hm : MR σ B L S) (h0 : 0 ≤ S.2.1 1) (hn : σ.2.1 48 0 (58 + (S.2.1 1).toNat) = Int64.ofInt ((enc8 w : Nat) : Int)) : MR (wI σ 47 0 1861 (Int32.ofInt (S.2.1 1 + 1))) B L (S.1, up S.2.1 1 (S.2.1 1 + 1), S.2.2.1, upN S.2.2.2.1 (S.2.1 1).toNat w, S.2.2.2.2) := by
  obtain ⟨p1, p2, p3, p4, ⟨e, p5, p5b, p5c⟩, p6, p7⟩ := hm
  refine ⟨p1.ch (S := fun t _ _ => t = 47) (fun t q j z => by rw [wI1, if_neg (fun y => z y.1)]) (fun j _ _ z => by omega) (fun j z => by omega), p2.up (k := 1) (fun j _ c => by rw [wI1, if_neg (by omega)]) wI_16, fun t ht => p3 t ?_, fun t ht => ?_, ⟨e, p5, by rw [wI1, if_neg (by omega)]; exact p5b, p5c⟩, fun j j1 j2 => by rw [wI1, if_neg (by omega)]; exact p6 j j1 j2, by rw [wI1, if_neg (by omega)]; exact p7⟩
  · have ht : (t : Int) < up S.2.1 1 (S.2.1 1 + 1) 0 := ht
    rw [up_ne (by omega)] at ht
    exact ht
  · have ht : (t : Int) < up S.2.1 1 (S.2.1 1 + 1) 1 := ht
    rw [up_eq] at ht
    show σ.2.1 48 0 (58 + t) = Int64.ofInt ((enc8 (upN S.2.2.2.1 (S.2.1 1).toNat w t) : Nat) : Int)
    by_cases c : t = (S.2.1 1).toNat
    · rw [c, upN_eq]; exact hn
    · rw [upN_ne c]; exact p4 t (by omega)
theorem m_topic {CALL : CT} (hC : RuleAll CALL) {r : Nat} {σ : AM} {K : AV → AM → Prop} {B : Nat → Int} {L : Nat} {S : PS} (hm : MR σ B L S) (hp : PI L S) (h1 : ∀ (T : PS) (σ' : AM), MR σ' B L T → rTopic B L S = rSemi B L T → ChA mnS mnL σ σ' → K (.inl (Int32.ofInt 1)) σ') (h2 : ∀ σ' : AM, OM σ' B L (rTopic B L S) false → ChA mnS mnL σ σ' → K (.inl (Int32.ofInt 0)) σ') : CALL (r + 6) n_m_aTopic [.inr (.inr (46, 0))] σ K := by
  refine r_m_aTopic hC (fun J hJ => ?_)
  refine hJ _ _ _ _ ?_
  conv => whnf
  have b := hp.wf.1
  unfold rTopic at h1 h2
  have n49 : ∀ (lv : List AV) (σ' : AM), K (.inl (Int32.ofInt 0)) σ' → J 49 lv [] σ' := by
    intro lv σ' hk
    refine hJ _ _ _ _ ?_
    conv => whnf
    exact ⟨Or.inl rfl, hk⟩
  refine ⟨(oi_in (by omega) (by omega)).mpr ⟨by omega, by omega⟩, ?_⟩
  conv => whnf
  rw [show (Int32.ofInt 1860).toNatClampNeg = 1860 + 0 from rfl, hm.2.1 0 (by omega)]
  refine s_m_topicRow hC ?_
  conv => whnf
  rw [oi_add]
  refine m_new hC (w := 0) (most := 6) (base := 0) (k := fun f1 => rWord B L 7 f1 (fun f2 => rNum B L 0 20 f2 (fun v f3 => rSemi B L (f3, addT S.2.1 v, upN S.2.2.1 (S.2.1 0).toNat (wdH B L (nxT B L S.1)), S.2.2.2)))) hm hp (Or.inl ⟨rfl, rfl, rfl⟩) (fun σ1 l1 n1 hm1 e1 q1 f1 => ?_) (fun σ1 o1 f1 => ?_)
  · rw [if_neg (by omega), q1] at h1 h2
    conv => whnf
    refine ⟨fun c => ?_, fun c => ?_⟩ <;> (try simp (disch := omega) only [oi_le, oi_lt, oi_eq, oi_lt0, oi_le0, oi_0lt, oi_0le, oi_eq0, oi_eq1, bI_eq0, bI_ne0, bI_eq1, decide_eq_true_eq, decide_eq_false_iff_not, lc_lt, lc_gt, lc_eq, lc_ge, lc_le, ol_lt, ol_eq, ne_eq, Int.not_lt, Int.not_le, Bool.not_eq_true, Bool.not_eq_false, Decidable.not_not, not_true_eq_false, not_false_eq_true, Bool.true_eq_false, Bool.false_eq_true] at c) <;> (first | (exfalso; omega) | ((fail_if_success with_reducible refine hJ _ _ _ _ ?_); conv => whnf) | skip)
    refine m_word hC (n := 7) (k := fun f2 => rNum B L 0 20 f2 (fun v f3 => rSemi B L (f3, addT S.2.1 v, upN S.2.2.1 (S.2.1 0).toNat (wdH B L (nxT B L S.1)), S.2.2.2))) hm1 (by omega) rfl (fun σ2 hm2 f2 q2 => ?_) (fun σ2 o2 f2 => ?_)
    · rw [show rWord B L 7 (nxT B L (nxT B L S.1)) _ = _ from q2] at h1 h2
      conv => whnf
      refine ⟨fun c2 => ?_, fun c2 => ?_⟩ <;> (try simp (disch := omega) only [oi_le, oi_lt, oi_eq, oi_lt0, oi_le0, oi_0lt, oi_0le, oi_eq0, oi_eq1, bI_eq0, bI_ne0, bI_eq1, decide_eq_true_eq, decide_eq_false_iff_not, lc_lt, lc_gt, lc_eq, lc_ge, lc_le, ol_lt, ol_eq, ne_eq, Int.not_lt, Int.not_le, Bool.not_eq_true, Bool.not_eq_false, Decidable.not_not, not_true_eq_false, not_false_eq_true, Bool.true_eq_false, Bool.false_eq_true] at c2) <;> (first | (exfalso; omega) | ((fail_if_success with_reducible refine hJ _ _ _ _ ?_); conv => whnf) | skip)
      refine m_num hC (to := 12 + 2 * (S.2.1 0).toNat) (k := fun v f3 => rSemi B L (f3, addT S.2.1 v, upN S.2.2.1 (S.2.1 0).toNat (wdH B L (nxT B L S.1)), S.2.2.2)) hm2 (by omega) (by omega) (by omega) (by omega) (by omega) (by omega) (by omega) (fun v σ3 v0 v1 v2 hm3 f3 q3 => ?_) (fun σ3 o3 f3 => ?_)
      · rw [show rNum B L 0 20 (nxT B L (nxT B L (nxT B L S.1))) _ = _ from q3] at h1 h2
        conv => whnf
        refine ⟨fun c3 => ?_, fun c3 => ?_⟩ <;> (try simp (disch := omega) only [oi_le, oi_lt, oi_eq, oi_lt0, oi_le0, oi_0lt, oi_0le, oi_eq0, oi_eq1, bI_eq0, bI_ne0, bI_eq1, decide_eq_true_eq, decide_eq_false_iff_not, lc_lt, lc_gt, lc_eq, lc_ge, lc_le, ol_lt, ol_eq, ne_eq, Int.not_lt, Int.not_le, Bool.not_eq_true, Bool.not_eq_false, Decidable.not_not, not_true_eq_false, not_false_eq_true, Bool.true_eq_false, Bool.false_eq_true] at c3) <;> (first | (exfalso; omega) | ((with_reducible refine hJ _ _ _ _ ?_); conv => whnf) | (conv => whnf))
        have r0 : σ3.1 47 0 1860 = Int32.ofInt (S.2.1 0) := by
          have := hm3.2.1 0 (by omega)
          rw [this]
          show Int32.ofInt (up S.2.1 _ _ 0) = _
          rw [up_ne (by omega)]
        refine ⟨(oi_in (by omega) (by omega)).mpr ⟨by omega, by omega⟩, ?_⟩
        conv => whnf
        rw [show (Int32.ofInt 1860).toNatClampNeg = 1860 from rfl, r0]
        refine ⟨(oi_in (by omega) (by omega)).mpr ⟨by omega, by omega⟩, ?_⟩
        conv => whnf
        rw [oi_add]
        refine ⟨Or.inr rfl, h1 _ _ ?_ rfl ?_⟩
        · have u0 : (up S.2.1 (12 + 2 * (S.2.1 0).toNat) v) 0 = S.2.1 0 := up_ne (by omega)
          have := hm3.topc (w := wdH B L (nxT B L S.1)) (by show 0 ≤ up S.2.1 _ v 0; rw [u0]; omega) (by show σ3.2.1 48 0 (52 + (up S.2.1 _ v 0).toNat) = _; rw [u0, f3.2, f2.2]; exact e1)
          change MR (wI σ3 47 0 1860 (Int32.ofInt ((up S.2.1 (12 + 2 * (S.2.1 0).toNat) v) 0 + 1))) B L (nxT B L (nxT B L (nxT B L (nxT B L S.1))), up (up S.2.1 (12 + 2 * (S.2.1 0).toNat) v) 0 ((up S.2.1 (12 + 2 * (S.2.1 0).toNat) v) 0 + 1), upN S.2.2.1 ((up S.2.1 (12 + 2 * (S.2.1 0).toNat) v) 0).toNat (wdH B L (nxT B L S.1)), S.2.2.2) at this
          rw [u0] at this
          exact this
        · exact ((f1.tr (tm_mn f2)).tr (mh_mn f3)).tr (ChA.wI (Or.inr ⟨rfl, rfl, by omega, by omega⟩))
      · conv => whnf
        refine ⟨fun c3 => ?_, fun c3 => ?_⟩ <;> (try simp (disch := omega) only [oi_le, oi_lt, oi_eq, oi_lt0, oi_le0, oi_0lt, oi_0le, oi_eq0, oi_eq1, bI_eq0, bI_ne0, bI_eq1, decide_eq_true_eq, decide_eq_false_iff_not, lc_lt, lc_gt, lc_eq, lc_ge, lc_le, ol_lt, ol_eq, ne_eq, Int.not_lt, Int.not_le, Bool.not_eq_true, Bool.not_eq_false, Decidable.not_not, not_true_eq_false, not_false_eq_true, Bool.true_eq_false, Bool.false_eq_true] at c3) <;> (first | (exfalso; omega) | ((fail_if_success with_reducible refine hJ _ _ _ _ ?_); conv => whnf) | skip)
        exact n49 _ _ (h2 _ o3 ((f1.tr (tm_mn f2)).tr f3))
    · conv => whnf
      refine ⟨fun c2 => ?_, fun c2 => ?_⟩ <;> (try simp (disch := omega) only [oi_le, oi_lt, oi_eq, oi_lt0, oi_le0, oi_0lt, oi_0le, oi_eq0, oi_eq1, bI_eq0, bI_ne0, bI_eq1, decide_eq_true_eq, decide_eq_false_iff_not, lc_lt, lc_gt, lc_eq, lc_ge, lc_le, ol_lt, ol_eq, ne_eq, Int.not_lt, Int.not_le, Bool.not_eq_true, Bool.not_eq_false, Decidable.not_not, not_true_eq_false, not_false_eq_true, Bool.true_eq_false, Bool.false_eq_true] at c2) <;> (first | (exfalso; omega) | ((fail_if_success with_reducible refine hJ _ _ _ _ ?_); conv => whnf) | skip)
      exact n49 _ _ (h2 _ o2 (f1.tr f2))
  · conv => whnf
    refine ⟨fun c => ?_, fun c => ?_⟩ <;> (try simp (disch := omega) only [oi_le, oi_lt, oi_eq, oi_lt0, oi_le0, oi_0lt, oi_0le, oi_eq0, oi_eq1, bI_eq0, bI_ne0, bI_eq1, decide_eq_true_eq, decide_eq_false_iff_not, lc_lt, lc_gt, lc_eq, lc_ge, lc_le, ol_lt, ol_eq, ne_eq, Int.not_lt, Int.not_le, Bool.not_eq_true, Bool.not_eq_false, Decidable.not_not, not_true_eq_false, not_false_eq_true, Bool.true_eq_false, Bool.false_eq_true] at c) <;> (first | (exfalso; omega) | ((fail_if_success with_reducible refine hJ _ _ _ _ ?_); conv => whnf) | skip)
    exact n49 _ _ (h2 _ o1 f1)
