theorem m_hear {CALL : CT} (hC : RuleAll CALL) {r : Nat} {σ : AM} {K : AV → AM → Prop} {B : Nat → Int} {L : Nat} {S : PS} (hm : MR σ B L S) (hp : PI L S) (h1 : ∀ (T : PS) (σ' : AM), MR σ' B L T → rHear B L S = rSemi B L T → ChA mnS mnL σ σ' → K (.inl (Int32.ofInt 1)) σ') (h2 : ∀ σ' : AM, OM σ' B L (rHear B L S) false → ChA mnS mnL σ σ' → K (.inl (Int32.ofInt 0)) σ') : CALL (r + 6) n_m_aHearing [.inr (.inr (46, 0))] σ K := by
  refine r_m_aHearing hC (fun J hJ => ?_)
  refine hJ _ _ _ _ ?_
  conv => whnf
  have b := hp.wf.1
  obtain ⟨k2, hk2⟩ : ∃ k2 : Nat → Nat → Nat → Rz, k2 = fun m o f2 => rSemi B L (f2, orF (orF S.2.1 (30 + 7 * m) o) (30 + 7 * o) m, S.2.2) := ⟨_, rfl⟩
  have e : rHear B L S = rOld B L S.2.2.2.1 (S.2.1 1).toNat (nxT B L S.1) (fun m f1 => if isNm B L f1 = true ∧ fnW S.2.2.2.1 (S.2.1 1).toNat (wdH B L f1) = some m then rFl B L f1 5 else rOld B L S.2.2.2.1 (S.2.1 1).toNat f1 (k2 m)) := by rw [hk2]; rfl
  rw [e] at h1 h2
  refine s_m_adv hC hm.1 (fun σ1 a1 f1 => ?_)
  conv => whnf
  have hm1 := hm.tk f1 a1
  refine m_omt hC (S := S) (to := 2317) (k := fun m f1 => if isNm B L f1 = true ∧ fnW S.2.2.2.1 (S.2.1 1).toNat (wdH B L f1) = some m then rFl B L f1 5 else rOld B L S.2.2.2.1 (S.2.1 1).toNat f1 (k2 m)) hm1 hp rfl rfl rfl (by omega) (by omega) (fun t σ2 t1 t2 t3 t4 f2 t6 e2 => ?_) (fun σ2 o2 f2 => ?_)
  · have hm2 := hm1.sp f2 (by omega) t4
    have e2 : rOld B L S.2.2.2.1 (S.2.1 1).toNat (nxT B L S.1) (fun m f1 => if isNm B L f1 = true ∧ fnW S.2.2.2.1 (S.2.1 1).toNat (wdH B L f1) = some m then rFl B L f1 5 else rOld B L S.2.2.2.1 (S.2.1 1).toNat f1 (k2 m)) = if isNm B L (nxT B L (nxT B L S.1)) = true ∧ fnW S.2.2.2.1 (S.2.1 1).toNat (wdH B L (nxT B L (nxT B L S.1))) = some t then rFl B L (nxT B L (nxT B L S.1)) 5 else rOld B L S.2.2.2.1 (S.2.1 1).toNat (nxT B L (nxT B L S.1)) (k2 t) := e2
    rw [e2] at h1 h2
    have ch2 := (tm_mn f1).tr (mh_mn (ch_mh f2 (by omega)))
    have hq := hp.wf.2.2.1 t (by omega)
    have b56 : ¬ (isNm B L (nxT B L (nxT B L S.1)) = true ∧ fnW S.2.2.2.1 (S.2.1 1).toNat (wdH B L (nxT B L (nxT B L S.1))) = some t) → J 56 [.inr (.inr (46, 0)), .inl (Int32.ofInt 2317)] [] σ2 := by
      intro z
      rw [if_neg z] at h1 h2
      refine hJ _ _ _ _ ?_
      conv => whnf
      rw [show Int32.ofInt 2317 + Int32.ofInt 1 = Int32.ofInt 2318 from rfl]
      refine m_omt hC (S := S) (to := 2318) (k := k2 t) hm2 hp rfl rfl rfl (by omega) (by omega) (fun u σ3 u1 u2 u3 u4 f3 u6 e3 => ?_) (fun σ3 o3 f3 => ?_)
      · have hm3 := hm2.sp f3 (by omega) u4
        have e3 : rOld B L S.2.2.2.1 (S.2.1 1).toNat (nxT B L (nxT B L S.1)) (k2 t) = k2 t u (nxT B L (nxT B L (nxT B L S.1))) := e3
        rw [e3, hk2] at h1 h2
        have r17 : σ3.1 47 0 2317 = Int32.ofInt (t : Int) := by rw [f3.1 _ _ _ (by unfold tmS; omega)]; exact t6
        have hq2 := hp.wf.2.2.1 u (by omega)
        have hne : t ≠ u := fun y => z ⟨u2, by rw [y]; exact u3⟩
        obtain ⟨x1, he1⟩ : ∃ e : Nat, S.2.1 (30 + 7 * t) = (e : Int) := ⟨_, (Int.toNat_of_nonneg (by omega)).symm⟩
        obtain ⟨x2, he2⟩ : ∃ e : Nat, S.2.1 (30 + 7 * u) = (e : Int) := ⟨_, (Int.toNat_of_nonneg (by omega)).symm⟩
        have rc : σ3.1 47 0 (1860 + (30 + 7 * t)) = Int32.ofInt (x1 : Int) := by
          rw [← he1]
          exact hm3.2.1 (30 + 7 * t) (by omega)
        have rc2 : σ3.1 47 0 (1860 + (30 + 7 * u)) = Int32.ofInt (x2 : Int) := by
          rw [← he2]
          exact hm3.2.1 (30 + 7 * u) (by omega)
        conv => whnf
        refine ⟨fun c2 => ?_, fun c2 => ?_⟩ <;> (try simp (disch := omega) only [oi_le, oi_lt, oi_eq, oi_lt0, oi_le0, oi_0lt, oi_0le, oi_eq0, oi_eq1, bI_eq0, bI_ne0, bI_eq1, decide_eq_true_eq, decide_eq_false_iff_not, lc_lt, lc_gt, lc_eq, lc_ge, lc_le, ol_lt, ol_eq, ne_eq, Int.not_lt, Int.not_le, Bool.not_eq_true, Bool.not_eq_false, Decidable.not_not, not_true_eq_false, not_false_eq_true, Bool.true_eq_false, Bool.false_eq_true] at c2) <;> (first | (exfalso; omega) | ((with_reducible refine hJ _ _ _ _ ?_); conv => whnf) | (conv => whnf))
        refine ⟨(oi_in (by omega) (by omega)).mpr ⟨by omega, by omega⟩, ?_⟩
        conv => whnf
        rw [show (Int32.ofInt 2317).toNatClampNeg = 2317 from rfl, r17]
        refine s_m_monkRow hC ?_
        conv => whnf
        rw [oi_add, oi_add]
        refine ⟨(oi_in (by omega) (by omega)).mpr ⟨by omega, by omega⟩, ?_⟩
        conv => whnf
        rw [show Int32.ofInt 2317 + Int32.ofInt 1 = Int32.ofInt 2318 from rfl]
        refine ⟨(oi_in (by omega) (by omega)).mpr ⟨by omega, by omega⟩, ?_⟩
        conv => whnf
        rw [show (Int32.ofInt 2318).toNatClampNeg = 2318 from rfl, u6]
        refine ⟨(oi_in (by omega) (by omega)).mpr ⟨by omega, by omega⟩, ?_⟩
        conv => whnf
        rw [oi_nat (by omega) (by omega), show (1860 + (24 + 7 * (t : Int)) + 6).toNat = 1860 + (30 + 7 * t) by omega, rc, oi_shl (by omega), oi_or, show Int32.ofInt 2317 + Int32.ofInt 1 = Int32.ofInt 2318 from rfl]
        refine ⟨(oi_in (by omega) (by omega)).mpr ⟨by omega, by omega⟩, ?_⟩
        conv => whnf
        rw [show (Int32.ofInt 2318).toNatClampNeg = 2318 from rfl, show (wI σ3 47 0 (1860 + (30 + 7 * t)) (Int32.ofInt ((x1 ||| 2 ^ u : Nat) : Int))).1 47 0 2318 = Int32.ofInt (u : Int) by rw [wI1, if_neg (by omega)]; exact u6]
        refine s_m_monkRow hC ?_
        conv => whnf
        rw [oi_add, oi_add]
        refine ⟨(oi_in (by omega) (by omega)).mpr ⟨by omega, by omega⟩, ?_⟩
        conv => whnf
        refine ⟨(oi_in (by omega) (by omega)).mpr ⟨by omega, by omega⟩, ?_⟩
        conv => whnf
        rw [show (Int32.ofInt 2317).toNatClampNeg = 2317 from rfl, show (wI σ3 47 0 (1860 + (30 + 7 * t)) (Int32.ofInt ((x1 ||| 2 ^ u : Nat) : Int))).1 47 0 2317 = Int32.ofInt (t : Int) by rw [wI1, if_neg (by omega)]; exact r17]
        refine ⟨(oi_in (by omega) (by omega)).mpr ⟨by omega, by omega⟩, ?_⟩
        conv => whnf
        rw [oi_nat (by omega) (by omega), show (1860 + (24 + 7 * (u : Int)) + 6).toNat = 1860 + (30 + 7 * u) by omega, wI1, if_neg (by omega), rc2, oi_shl (by omega), oi_or]
        refine ⟨Or.inr rfl, h1 _ _ ?_ rfl ?_⟩
        · have := (hm3.cell (k := 30 + 7 * t) (v := ((x1 ||| 2 ^ u : Nat) : Int)) (by omega) (by omega)).cell (k := 30 + 7 * u) (v := ((x2 ||| 2 ^ t : Nat) : Int)) (by omega) (by omega)
          have eq : orF (orF S.2.1 (30 + 7 * t) u) (30 + 7 * u) t = up (up S.2.1 (30 + 7 * t) ((x1 ||| 2 ^ u : Nat) : Int)) (30 + 7 * u) ((x2 ||| 2 ^ t : Nat) : Int) := by
            unfold orF
            rw [he1, up_ne (by omega), he2]
            rfl
          rw [eq]
          exact this
        · exact (ch2.tr (mh_mn (ch_mh f3 (by omega)))).tr ((ChA.wI (Or.inr ⟨rfl, rfl, by omega, by omega⟩)).tr (ChA.wI (Or.inr ⟨rfl, rfl, by omega, by omega⟩)))
      · conv => whnf
        refine ⟨fun c2 => ?_, fun c2 => ?_⟩ <;> (try simp (disch := omega) only [oi_le, oi_lt, oi_eq, oi_lt0, oi_le0, oi_0lt, oi_0le, oi_eq0, oi_eq1, bI_eq0, bI_ne0, bI_eq1, decide_eq_true_eq, decide_eq_false_iff_not, lc_lt, lc_gt, lc_eq, lc_ge, lc_le, ol_lt, ol_eq, ne_eq, Int.not_lt, Int.not_le, Bool.not_eq_true, Bool.not_eq_false, Decidable.not_not, not_true_eq_false, not_false_eq_true, Bool.true_eq_false, Bool.false_eq_true] at c2) <;> (first | (exfalso; omega) | ((with_reducible refine hJ _ _ _ _ ?_); conv => whnf) | (conv => whnf))
        exact ⟨Or.inl rfl, h2 _ o3 (ch2.tr f3)⟩
    conv => whnf
    refine ⟨fun c => ?_, fun c => ?_⟩ <;> (try simp (disch := omega) only [oi_le, oi_lt, oi_eq, oi_lt0, oi_le0, oi_0lt, oi_0le, oi_eq0, oi_eq1, bI_eq0, bI_ne0, bI_eq1, decide_eq_true_eq, decide_eq_false_iff_not, lc_lt, lc_gt, lc_eq, lc_ge, lc_le, ol_lt, ol_eq, ne_eq, Int.not_lt, Int.not_le, Bool.not_eq_true, Bool.not_eq_false, Decidable.not_not, not_true_eq_false, not_false_eq_true, Bool.true_eq_false, Bool.false_eq_true] at c) <;> (first | (exfalso; omega) | ((with_reducible refine hJ _ _ _ _ ?_); conv => whnf) | (conv => whnf))
    refine s_m_isNm hC t4 ?_
    conv => whnf
    refine ⟨fun c3 => ?_, fun c3 => ?_⟩ <;> (try simp (disch := omega) only [oi_le, oi_lt, oi_eq, oi_lt0, oi_le0, oi_0lt, oi_0le, oi_eq0, oi_eq1, bI_eq0, bI_ne0, bI_eq1, decide_eq_true_eq, decide_eq_false_iff_not, lc_lt, lc_gt, lc_eq, lc_ge, lc_le, ol_lt, ol_eq, ne_eq, Int.not_lt, Int.not_le, Bool.not_eq_true, Bool.not_eq_false, Decidable.not_not, not_true_eq_false, not_false_eq_true, Bool.true_eq_false, Bool.false_eq_true] at c3) <;> (first | (exfalso; omega) | ((fail_if_success with_reducible refine hJ _ _ _ _ ?_); conv => whnf) | skip)
    · exact b56 (fun z => by rw [z.1] at c3; cases c3)
    · refine ⟨(oi_in (by omega) (by omega)).mpr ⟨by omega, by omega⟩, ?_⟩
      conv => whnf
      rw [show (Int32.ofInt 1861).toNatClampNeg = 1860 + 1 from rfl, hm2.2.1 1 (by omega), show Int32.ofInt (S.2.1 1) = Int32.ofInt (((S.2.1 1).toNat : Nat) : Int) by rw [Int.toNat_of_nonneg (by omega)]]
      refine s_m_findHere hC (base := 58) (c := (S.2.1 1).toNat) (tn := S.2.2.2.1) t4 c3 (by omega) (fun t ht => ⟨(hp.mw t (by omega)).1, hm2.2.2.2.1 t (by show (t : Int) < S.2.1 1; omega)⟩) ?_
      conv => whnf
      have fb := fnW_bd S.2.2.2.1 (S.2.1 1).toNat (wdH B L (nxT B L (nxT B L S.1)))
      refine ⟨(oi_in (by omega) (by omega)).mpr ⟨by omega, by omega⟩, ?_⟩
      conv => whnf
      rw [show (Int32.ofInt 2317).toNatClampNeg = 2317 from rfl, t6]
      refine ⟨fun c4 => ?_, fun c4 => ?_⟩ <;> (try simp (disch := omega) only [oi_le, oi_lt, oi_eq, oi_lt0, oi_le0, oi_0lt, oi_0le, oi_eq0, oi_eq1, bI_eq0, bI_ne0, bI_eq1, decide_eq_true_eq, decide_eq_false_iff_not, lc_lt, lc_gt, lc_eq, lc_ge, lc_le, ol_lt, ol_eq, ne_eq, Int.not_lt, Int.not_le, Bool.not_eq_true, Bool.not_eq_false, Decidable.not_not, not_true_eq_false, not_false_eq_true, Bool.true_eq_false, Bool.false_eq_true] at c4) <;> (first | (exfalso; omega) | ((fail_if_success with_reducible refine hJ _ _ _ _ ?_); conv => whnf) | skip)
      · refine b56 (fun z => c4 ?_)
        rw [z.2]
        rfl
      · have z : isNm B L (nxT B L (nxT B L S.1)) = true ∧ fnW S.2.2.2.1 (S.2.1 1).toNat (wdH B L (nxT B L (nxT B L S.1))) = some t := by
          refine ⟨c3, ?_⟩
          cases ef : fnW S.2.2.2.1 (S.2.1 1).toNat (wdH B L (nxT B L (nxT B L S.1))) with
          | none =>
            rw [ef] at c4
            change (-1 : Int) = (t : Int) at c4
            omega
          | some u =>
            rw [ef] at c4
            change (u : Int) = (t : Int) at c4
            rw [show u = t by omega]
        rw [if_pos z] at h1 h2
        refine s_m_fails hC t4.2.2.1 t4.2.2.2 ?_
        conv => whnf
        exact ⟨Or.inl rfl, h2 _ (OM.fl (by omega) (by omega)) (ch2.tr fM_mn)⟩
  · conv => whnf
    refine ⟨fun c => ?_, fun c => ?_⟩ <;> (try simp (disch := omega) only [oi_le, oi_lt, oi_eq, oi_lt0, oi_le0, oi_0lt, oi_0le, oi_eq0, oi_eq1, bI_eq0, bI_ne0, bI_eq1, decide_eq_true_eq, decide_eq_false_iff_not, lc_lt, lc_gt, lc_eq, lc_ge, lc_le, ol_lt, ol_eq, ne_eq, Int.not_lt, Int.not_le, Bool.not_eq_true, Bool.not_eq_false, Decidable.not_not, not_true_eq_false, not_false_eq_true, Bool.true_eq_false, Bool.false_eq_true] at c) <;> (first | (exfalso; omega) | ((with_reducible refine hJ _ _ _ _ ?_); conv => whnf) | (conv => whnf))
    exact ⟨Or.inl rfl, h2 _ o2 ((tm_mn f1).tr f2)⟩
