theorem ch_mh {σ σ' : AM} {to : Nat} (h : Ch (fun t q j => tmS t q j ∨ (t = 47 ∧ q = 0 ∧ j = to)) σ σ') (ht : (1860 ≤ to ∧ to < 1957) ∨ (2317 ≤ to ∧ to < 2325)) : Ch mhS σ σ' := h.mo (fun t i j z => by rcases z with z | z; exact Or.inl z; exact Or.inr ⟨z.1, z.2.1, by omega⟩)
theorem MR.sp {σ σ' : AM} {B : Nat → Int} {L f to : Nat} {S : PS} (hm : MR σ B L S) (h : Ch (fun t q j => tmS t q j ∨ (t = 47 ∧ q = 0 ∧ j = to)) σ σ') (ht : 2317 ≤ to ∧ to < 2325) (ha : AMo σ' B L f) : MR σ' B L (f, S.2) := hm.gen (ch_mh h (Or.inr ht)) ha (fun j hj => by rw [h.1 _ _ _ (by unfold tmS; omega)]; exact hm.2.1 j hj) rfl rfl
theorem MR.ce {σ σ' : AM} {B : Nat → Int} {L f k : Nat} {S : PS} {v : Int} (hm : MR σ B L S) (h : Ch (fun t q j => tmS t q j ∨ (t = 47 ∧ q = 0 ∧ j = 1860 + k)) σ σ') (hk : 2 ≤ k) (hk2 : k < 97) (ha : AMo σ' B L f) (hv : σ'.1 47 0 (1860 + k) = Int32.ofInt v) : MR σ' B L (f, up S.2.1 k v, S.2.2) := hm.gen (ch_mh h (Or.inl (by omega))) ha (hm.2.1.up (fun j _ c => h.1 _ _ _ (by unfold tmS; omega)) hv) (up_ne (by omega)) (up_ne (by omega))
theorem m_follow {CALL : CT} (hC : RuleAll CALL) {r : Nat} {σ : AM} {K : AV → AM → Prop} {B : Nat → Int} {L : Nat} {S : PS} (hm : MR σ B L S) (hp : PI L S) (h1 : ∀ (T : PS) (σ' : AM), MR σ' B L T → rFollow B L S = rSemi B L T → ChA mnS mnL σ σ' → K (.inl (Int32.ofInt 1)) σ') (h2 : ∀ σ' : AM, OM σ' B L (rFollow B L S) false → ChA mnS mnL σ σ' → K (.inl (Int32.ofInt 0)) σ') : CALL (r + 6) n_m_aFollowing [.inr (.inr (46, 0))] σ K := by
  refine r_m_aFollowing hC (fun J hJ => ?_)
  refine hJ _ _ _ _ ?_
  conv => whnf
  have b := hp.wf.1
  unfold rFollow at h1 h2
  have n26 : ∀ (lv : List AV) (σ' : AM), K (.inl (Int32.ofInt 0)) σ' → J 26 lv [] σ' := by
    intro lv σ' hk
    refine hJ _ _ _ _ ?_
    conv => whnf
    exact ⟨Or.inl rfl, hk⟩
  refine s_m_adv hC hm.1 (fun σ1 a1 f1 => ?_)
  conv => whnf
  have hm1 := hm.tk f1 a1
  refine m_ott hC (S := S) (to := 2317) (k := fun t f1 => rOld B L S.2.2.1 (S.2.1 0).toNat f1 (fun u f2 => rSemi B L (f2, orF S.2.1 (13 + 2 * t) u, S.2.2))) hm1 hp rfl rfl rfl (by omega) (by omega) (fun t σ2 t1 t2 t3 t4 f2 t6 e2 => ?_) (fun σ2 o2 f2 => ?_)
  · have hm2 := hm1.sp f2 (by omega) t4
    have e2 : rOld B L S.2.2.1 (S.2.1 0).toNat (nxT B L S.1) (fun t f1 => rOld B L S.2.2.1 (S.2.1 0).toNat f1 (fun u f2 => rSemi B L (f2, orF S.2.1 (13 + 2 * t) u, S.2.2))) = rOld B L S.2.2.1 (S.2.1 0).toNat (nxT B L (nxT B L S.1)) (fun u f2 => rSemi B L (f2, orF S.2.1 (13 + 2 * t) u, S.2.2)) := e2
    rw [e2] at h1 h2
    conv => whnf
    refine ⟨fun c => ?_, fun c => ?_⟩ <;> (try simp (disch := omega) only [oi_le, oi_lt, oi_eq, oi_lt0, oi_le0, oi_0lt, oi_0le, oi_eq0, oi_eq1, bI_eq0, bI_ne0, bI_eq1, decide_eq_true_eq, decide_eq_false_iff_not, lc_lt, lc_gt, lc_eq, lc_ge, lc_le, ol_lt, ol_eq, ne_eq, Int.not_lt, Int.not_le, Bool.not_eq_true, Bool.not_eq_false, Decidable.not_not, not_true_eq_false, not_false_eq_true, Bool.true_eq_false, Bool.false_eq_true] at c) <;> (first | (exfalso; omega) | ((fail_if_success with_reducible refine hJ _ _ _ _ ?_); conv => whnf) | skip)
    refine m_ott hC (S := S) (to := 2318) (k := fun u f2 => rSemi B L (f2, orF S.2.1 (13 + 2 * t) u, S.2.2)) hm2 hp rfl rfl rfl (by omega) (by omega) (fun u σ3 u1 u2 u3 u4 f3 u6 e3 => ?_) (fun σ3 o3 f3 => ?_)
    · have hm3 := hm2.sp f3 (by omega) u4
      have e3 : rOld B L S.2.2.1 (S.2.1 0).toNat (nxT B L (nxT B L S.1)) (fun u f2 => rSemi B L (f2, orF S.2.1 (13 + 2 * t) u, S.2.2)) = rSemi B L (nxT B L (nxT B L (nxT B L S.1)), orF S.2.1 (13 + 2 * t) u, S.2.2) := e3
      rw [e3] at h1 h2
      have r17 : σ3.1 47 0 2317 = Int32.ofInt (t : Int) := by rw [f3.1 _ _ _ (by unfold tmS; omega)]; exact t6
      have hq := hp.wf.2.1 t (by omega)
      conv => whnf
      refine ⟨fun c2 => ?_, fun c2 => ?_⟩ <;> (try simp (disch := omega) only [oi_le, oi_lt, oi_eq, oi_lt0, oi_le0, oi_0lt, oi_0le, oi_eq0, oi_eq1, bI_eq0, bI_ne0, bI_eq1, decide_eq_true_eq, decide_eq_false_iff_not, lc_lt, lc_gt, lc_eq, lc_ge, lc_le, ol_lt, ol_eq, ne_eq, Int.not_lt, Int.not_le, Bool.not_eq_true, Bool.not_eq_false, Decidable.not_not, not_true_eq_false, not_false_eq_true, Bool.true_eq_false, Bool.false_eq_true] at c2) <;> (first | (exfalso; omega) | ((with_reducible refine hJ _ _ _ _ ?_); conv => whnf) | (conv => whnf))
      refine ⟨(oi_in (by omega) (by omega)).mpr ⟨by omega, by omega⟩, ?_⟩
      conv => whnf
      rw [show (Int32.ofInt 2317).toNatClampNeg = 2317 from rfl, r17]
      refine s_m_topicRow hC ?_
      conv => whnf
      rw [oi_add, oi_add]
      refine ⟨(oi_in (by omega) (by omega)).mpr ⟨by omega, by omega⟩, ?_⟩
      conv => whnf
      rw [show Int32.ofInt 2317 + Int32.ofInt 1 = Int32.ofInt 2318 from rfl]
      refine ⟨(oi_in (by omega) (by omega)).mpr ⟨by omega, by omega⟩, ?_⟩
      conv => whnf
      rw [show (Int32.ofInt 2318).toNatClampNeg = 2318 from rfl, u6]
      refine ⟨(oi_in (by omega) (by omega)).mpr ⟨by omega, by omega⟩, ?_⟩
      conv => whnf
      rw [oi_nat (by omega) (by omega), show (1860 + (12 + 2 * (t : Int)) + 1).toNat = 1860 + (13 + 2 * t) by omega]
      obtain ⟨e, he⟩ : ∃ e : Nat, S.2.1 (13 + 2 * t) = (e : Int) := ⟨_, (Int.toNat_of_nonneg hq.2.2.1).symm⟩
      have rc : σ3.1 47 0 (1860 + (13 + 2 * t)) = Int32.ofInt (e : Int) := by
        rw [← he]
        exact hm3.2.1 (13 + 2 * t) (by omega)
      rw [rc, oi_shl (by omega), oi_or]
      refine ⟨Or.inr rfl, h1 _ _ ?_ rfl ?_⟩
      · have := hm3.cell (k := 13 + 2 * t) (v := ((e ||| 2 ^ u : Nat) : Int)) (by omega) (by omega)
        unfold orF
        rw [he]
        exact this
      · exact (((tm_mn f1).tr (mh_mn (ch_mh f2 (by omega)))).tr (mh_mn (ch_mh f3 (by omega)))).tr (ChA.wI (Or.inr ⟨rfl, rfl, by omega, by omega⟩))
    · conv => whnf
      refine ⟨fun c2 => ?_, fun c2 => ?_⟩ <;> (try simp (disch := omega) only [oi_le, oi_lt, oi_eq, oi_lt0, oi_le0, oi_0lt, oi_0le, oi_eq0, oi_eq1, bI_eq0, bI_ne0, bI_eq1, decide_eq_true_eq, decide_eq_false_iff_not, lc_lt, lc_gt, lc_eq, lc_ge, lc_le, ol_lt, ol_eq, ne_eq, Int.not_lt, Int.not_le, Bool.not_eq_true, Bool.not_eq_false, Decidable.not_not, not_true_eq_false, not_false_eq_true, Bool.true_eq_false, Bool.false_eq_true] at c2) <;> (first | (exfalso; omega) | ((fail_if_success with_reducible refine hJ _ _ _ _ ?_); conv => whnf) | skip)
      exact n26 _ _ (h2 _ o3 (((tm_mn f1).tr (mh_mn (ch_mh f2 (by omega)))).tr f3))
  · conv => whnf
    refine ⟨fun c => ?_, fun c => ?_⟩ <;> (try simp (disch := omega) only [oi_le, oi_lt, oi_eq, oi_lt0, oi_le0, oi_0lt, oi_0le, oi_eq0, oi_eq1, bI_eq0, bI_ne0, bI_eq1, decide_eq_true_eq, decide_eq_false_iff_not, lc_lt, lc_gt, lc_eq, lc_ge, lc_le, ol_lt, ol_eq, ne_eq, Int.not_lt, Int.not_le, Bool.not_eq_true, Bool.not_eq_false, Decidable.not_not, not_true_eq_false, not_false_eq_true, Bool.true_eq_false, Bool.false_eq_true] at c) <;> (first | (exfalso; omega) | ((fail_if_success with_reducible refine hJ _ _ _ _ ?_); conv => whnf) | skip)
    exact n26 _ _ (h2 _ o2 ((tm_mn f1).tr f2))
