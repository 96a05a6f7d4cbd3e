theorem m_entry {CALL : CT} (hC : RuleAll CALL) {r : Nat} {σ : AM} {K : AV → AM → Prop} {B : Nat → Int} {L : Nat} {S : PS} (hm : MR σ B L S) (hp : PI L S) (h1 : ∀ (T : PS) (σ' : AM), MR σ' B L T → rRoster B L S = rSemi B L T → ChA mnS mnL σ σ' → K (.inl (Int32.ofInt 1)) σ') (h2 : ∀ σ' : AM, OM σ' B L (rRoster B L S) false → ChA mnS mnL σ σ' → K (.inl (Int32.ofInt 0)) σ') : CALL (r + 6) n_m_anEntry [.inr (.inr (46, 0))] σ K := by
  refine r_m_anEntry hC (fun J hJ => ?_)
  refine hJ _ _ _ _ ?_
  conv => whnf
  have b := hp.wf.1
  have n58 : ∀ (lv : List AV) (σ' : AM), K (.inl (Int32.ofInt 0)) σ' → J 58 lv [] σ' := by
    intro lv σ' hk
    refine hJ _ _ _ _ ?_
    conv => whnf
    exact ⟨Or.inl rfl, hk⟩
  refine ⟨(oi_in (by omega) (by omega)).mpr ⟨by omega, by omega⟩, ?_⟩
  conv => whnf
  rw [show (Int32.ofInt 1862).toNatClampNeg = 1862 from rfl, show σ.1 47 0 1862 = Int32.ofInt (S.2.1 2) from hm.2.1 2 (by omega)]
  refine ⟨fun c => ?_, fun c => ?_⟩ <;> (try simp (disch := omega) only [oi_le, oi_lt, oi_eq, oi_lt0, oi_le0, oi_0lt, oi_0le, oi_eq0, oi_eq1, bI_eq0, bI_ne0, bI_eq1, decide_eq_true_eq, decide_eq_false_iff_not, lc_lt, lc_gt, lc_eq, lc_ge, lc_le, ol_lt, ol_eq, ne_eq, Int.not_lt, Int.not_le, Bool.not_eq_true, Bool.not_eq_false, Decidable.not_not, not_true_eq_false, not_false_eq_true, Bool.true_eq_false, Bool.false_eq_true] at c) <;> (first | (exfalso; omega) | ((with_reducible refine hJ _ _ _ _ ?_); conv => whnf) | (conv => whnf))
  · have e : rRoster B L S = rOld B L S.2.2.2.1 (S.2.1 1).toNat (nxT B L S.1) (fun m f1 => rOld B L S.2.2.1 (S.2.1 0).toNat f1 (fun t f2 => rSemi B L (f2, entF S.2.1 (m : Int) (t : Int), S.2.2))) := if_neg (by omega)
    rw [e] at h1 h2
    refine ⟨(oi_in (by omega) (by omega)).mpr ⟨by omega, by omega⟩, ?_⟩
    conv => whnf
    rw [show (Int32.ofInt 1862).toNatClampNeg = 1862 from rfl, show σ.1 47 0 1862 = Int32.ofInt (S.2.1 2) from hm.2.1 2 (by omega)]
    refine s_m_entryRow hC ?_
    conv => whnf
    rw [oi_add]
    refine s_m_adv hC hm.1 (fun σ1 a1 f1 => ?_)
    conv => whnf
    have hm1 := hm.tk f1 a1
    obtain ⟨c2, hc2⟩ : ∃ n : Nat, S.2.1 2 = (n : Int) := ⟨(S.2.1 2).toNat, by omega⟩
    have hc3 : (S.2.1 2).toNat = c2 := by omega
    refine m_omt hC (S := S) (to := 1860 + (73 + 2 * c2)) (k := fun m f1 => rOld B L S.2.2.1 (S.2.1 0).toNat f1 (fun t f2 => rSemi B L (f2, entF S.2.1 (m : Int) (t : Int), S.2.2))) hm1 hp rfl rfl (by omega) (by omega) (by omega) (fun t σ2 t1 t2 t3 t4 f2 t6 e2 => ?_) (fun σ2 o2 f2 => ?_)
    · have hm2 := hm1.ce f2 (by omega) (by omega) t4 t6
      have e2 : rOld B L S.2.2.2.1 (S.2.1 1).toNat (nxT B L S.1) (fun m f1 => rOld B L S.2.2.1 (S.2.1 0).toNat f1 (fun t f2 => rSemi B L (f2, entF S.2.1 (m : Int) (t : Int), S.2.2))) = rOld B L S.2.2.1 (S.2.1 0).toNat (nxT B L (nxT B L S.1)) (fun u f2 => rSemi B L (f2, entF S.2.1 (t : Int) (u : Int), S.2.2)) := e2
      rw [e2] at h1 h2
      conv => whnf
      refine ⟨fun c4 => ?_, fun c4 => ?_⟩ <;> (try simp (disch := omega) only [oi_le, oi_lt, oi_eq, oi_lt0, oi_le0, oi_0lt, oi_0le, oi_eq0, oi_eq1, bI_eq0, bI_ne0, bI_eq1, decide_eq_true_eq, decide_eq_false_iff_not, lc_lt, lc_gt, lc_eq, lc_ge, lc_le, ol_lt, ol_eq, ne_eq, Int.not_lt, Int.not_le, Bool.not_eq_true, Bool.not_eq_false, Decidable.not_not, not_true_eq_false, not_false_eq_true, Bool.true_eq_false, Bool.false_eq_true] at c4) <;> (first | (exfalso; omega) | ((fail_if_success with_reducible refine hJ _ _ _ _ ?_); conv => whnf) | skip)
      rw [oi_add]
      refine m_ott hC (S := S) (to := 1860 + (74 + 2 * c2)) (k := fun u f2 => rSemi B L (f2, entF S.2.1 (t : Int) (u : Int), S.2.2)) hm2 hp (up_ne (by omega)) rfl (by omega) (by omega) (by omega) (fun u σ3 u1 u2 u3 u4 f3 u6 e3 => ?_) (fun σ3 o3 f3 => ?_)
      · have hm3 := hm2.ce f3 (by omega) (by omega) u4 u6
        have e3 : rOld B L S.2.2.1 (S.2.1 0).toNat (nxT B L (nxT B L S.1)) (fun u f2 => rSemi B L (f2, entF S.2.1 (t : Int) (u : Int), S.2.2)) = rSemi B L (nxT B L (nxT B L (nxT B L S.1)), entF S.2.1 (t : Int) (u : Int), S.2.2) := e3
        rw [e3] at h1 h2
        conv => whnf
        refine ⟨fun c5 => ?_, fun c5 => ?_⟩ <;> (try simp (disch := omega) only [oi_le, oi_lt, oi_eq, oi_lt0, oi_le0, oi_0lt, oi_0le, oi_eq0, oi_eq1, bI_eq0, bI_ne0, bI_eq1, decide_eq_true_eq, decide_eq_false_iff_not, lc_lt, lc_gt, lc_eq, lc_ge, lc_le, ol_lt, ol_eq, ne_eq, Int.not_lt, Int.not_le, Bool.not_eq_true, Bool.not_eq_false, Decidable.not_not, not_true_eq_false, not_false_eq_true, Bool.true_eq_false, Bool.false_eq_true] at c5) <;> (first | (exfalso; omega) | ((with_reducible refine hJ _ _ _ _ ?_); conv => whnf) | (conv => whnf))
        refine ⟨(oi_in (by omega) (by omega)).mpr ⟨by omega, by omega⟩, ?_⟩
        conv => whnf
        rw [show (Int32.ofInt 1862).toNatClampNeg = 1860 + 2 from rfl, show σ3.1 47 0 (1860 + 2) = Int32.ofInt (S.2.1 2) by
          rw [hm3.2.1 2 (by omega)]
          show Int32.ofInt (up (up S.2.1 _ _) _ _ 2) = _
          rw [up_ne (by omega), up_ne (by omega)]]
        refine ⟨(oi_in (by omega) (by omega)).mpr ⟨by omega, by omega⟩, ?_⟩
        conv => whnf
        rw [oi_add]
        refine ⟨Or.inr rfl, h1 _ _ ?_ rfl ?_⟩
        · have := hm3.cell (k := 2) (v := S.2.1 2 + 1) (by omega) (by omega)
          unfold entF
          rw [hc3]
          exact this
        · exact (((tm_mn f1).tr (mh_mn (ch_mh f2 (by omega)))).tr (mh_mn (ch_mh f3 (by omega)))).tr (ChA.wI (Or.inr ⟨rfl, rfl, by omega, by omega⟩))
      · conv => whnf
        refine ⟨fun c5 => ?_, fun c5 => ?_⟩ <;> (try simp (disch := omega) only [oi_le, oi_lt, oi_eq, oi_lt0, oi_le0, oi_0lt, oi_0le, oi_eq0, oi_eq1, bI_eq0, bI_ne0, bI_eq1, decide_eq_true_eq, decide_eq_false_iff_not, lc_lt, lc_gt, lc_eq, lc_ge, lc_le, ol_lt, ol_eq, ne_eq, Int.not_lt, Int.not_le, Bool.not_eq_true, Bool.not_eq_false, Decidable.not_not, not_true_eq_false, not_false_eq_true, Bool.true_eq_false, Bool.false_eq_true] at c5) <;> (first | (exfalso; omega) | ((fail_if_success with_reducible refine hJ _ _ _ _ ?_); conv => whnf) | skip)
        exact n58 _ _ (h2 _ o3 (((tm_mn f1).tr (mh_mn (ch_mh f2 (by omega)))).tr f3))
    · conv => whnf
      refine ⟨fun c4 => ?_, fun c4 => ?_⟩ <;> (try simp (disch := omega) only [oi_le, oi_lt, oi_eq, oi_lt0, oi_le0, oi_0lt, oi_0le, oi_eq0, oi_eq1, bI_eq0, bI_ne0, bI_eq1, decide_eq_true_eq, decide_eq_false_iff_not, lc_lt, lc_gt, lc_eq, lc_ge, lc_le, ol_lt, ol_eq, ne_eq, Int.not_lt, Int.not_le, Bool.not_eq_true, Bool.not_eq_false, Decidable.not_not, not_true_eq_false, not_false_eq_true, Bool.true_eq_false, Bool.false_eq_true] at c4) <;> (first | (exfalso; omega) | ((fail_if_success with_reducible refine hJ _ _ _ _ ?_); conv => whnf) | skip)
      exact n58 _ _ (h2 _ o2 ((tm_mn f1).tr f2))
  · have e : rRoster B L S = rFl B L S.1 6 := if_pos (by omega)
    refine s_m_fails hC hm.1.2.2.1 hm.1.2.2.2 ?_
    conv => whnf
    exact ⟨Or.inl rfl, h2 _ (e ▸ OM.fl (by omega) (by omega)) fM_mn⟩
