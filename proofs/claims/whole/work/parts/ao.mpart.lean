theorem MR.bit {σ : AM} {B : Nat → Int} {L w : Nat} {S : PS} {e : Nat} (hm : MR σ B L S) (h1 : e < 128) (h0 : e.testBit 0 = S.2.2.2.2.1) (h2 : e.testBit 1 = S.2.2.2.2.2) (hw : w < 7) : MR (wI σ 46 0 20 (Int32.ofInt ((e ||| 2 ^ w : Nat) : Int))) B L (S.1, S.2.1, S.2.2.1, S.2.2.2.1, if w = 0 then true else S.2.2.2.2.1, if w = 1 then true else S.2.2.2.2.2) := by
  obtain ⟨p1, p2, p3, p4, -, p6, p7⟩ := hm
  refine ⟨p1.ch (S := fun t _ j => t = 46 ∧ j = 20) (fun t q j z => by rw [wI1, if_neg (fun y => z ⟨y.1, y.2.2⟩)]) (fun j _ _ z => by omega) (fun j z => by omega), fun j hj => by rw [wI1, if_neg (by omega)]; exact p2 j hj, p3, p4, ⟨_, Nat.or_lt_two_pow (n := 7) h1 (Nat.pow_lt_pow_right (by omega) hw), wI_16, ?_, ?_⟩, fun j j1 j2 => by rw [wI1, if_neg (by omega)]; exact p6 j j1 j2, by rw [wI1, if_neg (by omega)]; exact p7⟩
  · show _ = if w = 0 then true else S.2.2.2.2.1
    rw [Nat.testBit_or, Nat.testBit_two_pow, h0]
    by_cases c : w = 0
    · rw [if_pos c, decide_eq_true c, Bool.or_true]
    · rw [if_neg c, decide_eq_false c, Bool.or_false]
  · show _ = if w = 1 then true else S.2.2.2.2.2
    rw [Nat.testBit_or, Nat.testBit_two_pow, h2]
    by_cases c : w = 1
    · rw [if_pos c, decide_eq_true c, Bool.or_true]
    · rw [if_neg c, decide_eq_false c, Bool.or_false]
theorem bit_01 (e k : Nat) : ((e / 2 ^ k) &&& 1) = if e.testBit k then 1 else 0 := by
  rw [Nat.and_one_is_mod, Nat.testBit_eq_decide_div_mod_eq]
  by_cases c : e / 2 ^ k % 2 = 1
  · rw [decide_eq_true c, if_pos rfl, c]
  · rw [decide_eq_false c, if_neg (by decide)]; omega
theorem m_part {CALL : CT} (hC : RuleAll CALL) {r : Nat} {σ : AM} {K : AV → AM → Prop} {B : Nat → Int} {L : Nat} {S : PS} (hm : MR σ B L S) (hp : PI L S) (h : ∀ (b : Bool) (σ' : AM), OM σ' B L (rPart B L S) b → ChA mnS mnL σ σ' → K (.inl (bI b)) σ') : CALL (r + 7) n_m_housePart [.inr (.inr (46, 0))] σ K := by
  refine r_m_housePart hC (fun J hJ => ?_)
  refine hJ _ _ _ _ ?_
  conv => whnf
  have b := hp.wf.1
  have kwb := kwT_bd B L S.1
  obtain ⟨e, h5, h6, h7, h8⟩ := hm.2.2.2.2.1
  refine s_m_inW hC hm.1 ?_
  conv => whnf
  have bad : (kwT B L S.1 < 0 ∨ 6 < kwT B L S.1) → J 17 [.inr (.inr (46, 0)), .inl (Int32.ofInt (kwT B L S.1)), unset] [] σ := by
    intro z
    have er : rPart B L S = rFl B L S.1 2 := by
      unfold rPart
      rw [if_neg (by omega), if_neg (by omega), if_neg (by omega), if_neg (by omega), if_neg (by omega), if_neg (by omega), if_neg (by omega)]
    refine hJ _ _ _ _ ?_
    conv => whnf
    refine s_m_fails hC hm.1.2.2.1 hm.1.2.2.2 ?_
    conv => whnf
    exact ⟨Or.inl rfl, h false _ (er ▸ OM.fl (by omega) (by omega)) fM_mn⟩
  refine ⟨fun c => ?_, fun c => ?_⟩ <;> (try simp (disch := omega) only [oi_le, oi_lt, oi_eq, oi_lt0, oi_le0, oi_0lt, oi_0le, oi_eq0, oi_eq1, bI_eq0, bI_ne0, bI_eq1, decide_eq_true_eq, decide_eq_false_iff_not, lc_lt, lc_gt, lc_eq, lc_ge, lc_le, ol_lt, ol_eq, ne_eq, Int.not_lt, Int.not_le, Bool.not_eq_true, Bool.not_eq_false, Decidable.not_not, not_true_eq_false, not_false_eq_true, Bool.true_eq_false, Bool.false_eq_true] at c) <;> (first | (exfalso; omega) | ((fail_if_success with_reducible refine hJ _ _ _ _ ?_); conv => whnf) | skip)
  · exact bad (Or.inl c)
  refine ⟨fun c2 => ?_, fun c2 => ?_⟩ <;> (try simp (disch := omega) only [oi_le, oi_lt, oi_eq, oi_lt0, oi_le0, oi_0lt, oi_0le, oi_eq0, oi_eq1, bI_eq0, bI_ne0, bI_eq1, decide_eq_true_eq, decide_eq_false_iff_not, lc_lt, lc_gt, lc_eq, lc_ge, lc_le, ol_lt, ol_eq, ne_eq, Int.not_lt, Int.not_le, Bool.not_eq_true, Bool.not_eq_false, Decidable.not_not, not_true_eq_false, not_false_eq_true, Bool.true_eq_false, Bool.false_eq_true] at c2) <;> (first | (exfalso; omega) | ((fail_if_success with_reducible refine hJ _ _ _ _ ?_); conv => whnf) | skip)
  · obtain ⟨w, hw⟩ : ∃ w : Nat, kwT B L S.1 = (w : Int) := ⟨(kwT B L S.1).toNat, by omega⟩
    rw [hw]
    have w7 : w < 7 := by omega
    have good : ∀ (T : PS) (σ' : AM), MR σ' B L T → rPart B L S = rSemi B L T → ChA mnS mnL σ σ' → J 173 [.inr (.inr (46, 0)), .inl (Int32.ofInt (w : Int)), .inl (Int32.ofInt 1)] [] σ' := by
      intro T σ' hT eT fT
      refine hJ _ _ _ _ ?_
      conv => whnf
      refine ⟨fun c3 => ?_, fun c3 => ?_⟩ <;> (try simp (disch := omega) only [oi_le, oi_lt, oi_eq, oi_lt0, oi_le0, oi_0lt, oi_0le, oi_eq0, oi_eq1, bI_eq0, bI_ne0, bI_eq1, decide_eq_true_eq, decide_eq_false_iff_not, lc_lt, lc_gt, lc_eq, lc_ge, lc_le, ol_lt, ol_eq, ne_eq, Int.not_lt, Int.not_le, Bool.not_eq_true, Bool.not_eq_false, Decidable.not_not, not_true_eq_false, not_false_eq_true, Bool.true_eq_false, Bool.false_eq_true] at c3) <;> (first | (exfalso; omega) | ((fail_if_success with_reducible refine hJ _ _ _ _ ?_); conv => whnf) | skip)
      refine m_semi hC hT (fun bb σ2 o2 f2 => ?_)
      rw [← eT] at o2
      conv => whnf
      refine ⟨fun c4 => ?_, fun c4 => ?_⟩ <;> (try simp (disch := omega) only [oi_le, oi_lt, oi_eq, oi_lt0, oi_le0, oi_0lt, oi_0le, oi_eq0, oi_eq1, bI_eq0, bI_ne0, bI_eq1, decide_eq_true_eq, decide_eq_false_iff_not, lc_lt, lc_gt, lc_eq, lc_ge, lc_le, ol_lt, ol_eq, ne_eq, Int.not_lt, Int.not_le, Bool.not_eq_true, Bool.not_eq_false, Decidable.not_not, not_true_eq_false, not_false_eq_true, Bool.true_eq_false, Bool.false_eq_true] at c4) <;> (first | (exfalso; omega) | ((with_reducible refine hJ _ _ _ _ ?_); conv => whnf) | (conv => whnf))
      · subst c4
        refine hJ _ _ _ _ ?_
        conv => whnf
        exact ⟨Or.inl rfl, h false _ o2 (fT.tr f2)⟩
      · subst c4
        refine hJ _ _ _ _ ?_
        conv => whnf
        exact ⟨Or.inr rfl, h true _ o2 (fT.tr f2)⟩
    have flop : ∀ (σ' : AM), OM σ' B L (rPart B L S) false → ChA mnS mnL σ σ' → J 173 [.inr (.inr (46, 0)), .inl (Int32.ofInt (w : Int)), .inl (Int32.ofInt 0)] [] σ' := by
      intro σ' o f
      refine hJ _ _ _ _ ?_
      conv => whnf
      refine ⟨fun c3 => ?_, fun c3 => ?_⟩ <;> (try simp (disch := omega) only [oi_le, oi_lt, oi_eq, oi_lt0, oi_le0, oi_0lt, oi_0le, oi_eq0, oi_eq1, bI_eq0, bI_ne0, bI_eq1, decide_eq_true_eq, decide_eq_false_iff_not, lc_lt, lc_gt, lc_eq, lc_ge, lc_le, ol_lt, ol_eq, ne_eq, Int.not_lt, Int.not_le, Bool.not_eq_true, Bool.not_eq_false, Decidable.not_not, not_true_eq_false, not_false_eq_true, Bool.true_eq_false, Bool.false_eq_true] at c3) <;> (first | (exfalso; omega) | ((with_reducible refine hJ _ _ _ _ ?_); conv => whnf) | (conv => whnf))
      refine hJ _ _ _ _ ?_
      conv => whnf
      exact ⟨Or.inl rfl, h false _ o f⟩
    have b67 : ¬ (w = 0 ∧ S.2.2.2.2.1 = true) → ¬ (w = 1 ∧ S.2.2.2.2.2 = true) → ∀ σ' : AM, (w = 0 → MR σ' B L (nxT B L S.1, S.2.1, S.2.2.1, S.2.2.2.1, true, S.2.2.2.2.2)) → (w = 1 → MR σ' B L (nxT B L S.1, S.2.1, S.2.2.1, S.2.2.2.1, S.2.2.2.2.1, true)) → (2 ≤ w → MR σ' B L S) → ChA mnS mnL σ σ' → J 67 [.inr (.inr (46, 0)), .inl (Int32.ofInt (w : Int)), unset] [] σ' := by
      intro d0 d1 σ' m0 m1 m2 f
      unfold rPart at good flop
      rw [hw] at good flop
      refine hJ _ _ _ _ ?_
      conv => whnf
      refine ⟨⟨fun c => ?_, fun c => ?_, fun c => ?_, fun c => ?_, fun c => ?_, fun c => ?_, True.intro⟩, fun c => ?_⟩
      all_goals (rw [ti_oi (by omega) (by omega)] at c)
      · rw [if_pos (by omega)] at good flop
        have m0 := m0 (by omega)
        unfold rTurn at good flop
        rw [if_neg (fun z => d0 ⟨by omega, z⟩)] at good flop
        refine hJ _ _ _ _ ?_
        conv => whnf
        refine m_num hC (to := 3) (k := fun v f => rSemi B L (f, up S.2.1 3 v, S.2.2.1, S.2.2.2.1, true, S.2.2.2.2.2)) m0 (by omega) (by omega) (by omega) (by omega) (by omega) (by omega) (by omega) (fun v σ3 v0 v1 v2 hm3 f3 q3 => ?_) (fun σ3 o3 f3 => ?_)
        · conv => whnf
          exact good _ _ hm3 q3 (f.tr (mh_mn f3))
        · conv => whnf
          exact flop _ o3 (f.tr f3)
      · rw [if_neg (by omega), if_pos (by omega)] at good flop
        have m1 := m1 (by omega)
        unfold rOdds at good flop
        rw [if_neg (fun z => d1 ⟨by omega, z⟩)] at good flop
        refine hJ _ _ _ _ ?_
        conv => whnf
        refine m_num hC (to := 4) (k := fun v f => rSemi B L (f, up S.2.1 4 v, S.2.2.1, S.2.2.2.1, S.2.2.2.2.1, true)) m1 (by omega) (by omega) (by omega) (by omega) (by omega) (by omega) (by omega) (fun v σ3 v0 v1 v2 hm3 f3 q3 => ?_) (fun σ3 o3 f3 => ?_)
        · conv => whnf
          exact good _ _ hm3 q3 (f.tr (mh_mn f3))
        · conv => whnf
          exact flop _ o3 (f.tr f3)
      · rw [if_neg (by omega), if_neg (by omega), if_pos (by omega)] at good flop
        refine hJ _ _ _ _ ?_
        conv => whnf
        refine m_topic hC (m2 (by omega)) hp (fun T σ3 hT q3 f3 => ?_) (fun σ3 o3 f3 => ?_)
        · conv => whnf
          exact good _ _ hT q3 (f.tr f3)
        · conv => whnf
          exact flop _ o3 (f.tr f3)
      · rw [if_neg (by omega), if_neg (by omega), if_neg (by omega), if_pos (by omega)] at good flop
        refine hJ _ _ _ _ ?_
        conv => whnf
        refine m_monk hC (m2 (by omega)) hp (fun T σ3 hT q3 f3 => ?_) (fun σ3 o3 f3 => ?_)
        · conv => whnf
          exact good _ _ hT q3 (f.tr f3)
        · conv => whnf
          exact flop _ o3 (f.tr f3)
      · rw [if_neg (by omega), if_neg (by omega), if_neg (by omega), if_neg (by omega), if_pos (by omega)] at good flop
        refine hJ _ _ _ _ ?_
        conv => whnf
        refine m_follow hC (m2 (by omega)) hp (fun T σ3 hT q3 f3 => ?_) (fun σ3 o3 f3 => ?_)
        · conv => whnf
          exact good _ _ hT q3 (f.tr f3)
        · conv => whnf
          exact flop _ o3 (f.tr f3)
      · rw [if_neg (by omega), if_neg (by omega), if_neg (by omega), if_neg (by omega), if_neg (by omega), if_pos (by omega)] at good flop
        refine hJ _ _ _ _ ?_
        conv => whnf
        refine m_entry hC (m2 (by omega)) hp (fun T σ3 hT q3 f3 => ?_) (fun σ3 o3 f3 => ?_)
        · conv => whnf
          exact good _ _ hT q3 (f.tr f3)
        · conv => whnf
          exact flop _ o3 (f.tr f3)
      · rw [if_neg (by omega), if_neg (by omega), if_neg (by omega), if_neg (by omega), if_neg (by omega), if_neg (by omega), if_pos (by omega)] at good flop
        refine hJ _ _ _ _ ?_
        conv => whnf
        refine m_hear hC (m2 (by omega)) hp (fun T σ3 hT q3 f3 => ?_) (fun σ3 o3 f3 => ?_)
        · conv => whnf
          exact good _ _ hT q3 (f.tr f3)
        · conv => whnf
          exact flop _ o3 (f.tr f3)
    have b46 : ¬ (w = 0 ∧ S.2.2.2.2.1 = true) → ¬ (w = 1 ∧ S.2.2.2.2.2 = true) → J 46 [.inr (.inr (46, 0)), .inl (Int32.ofInt (w : Int)), unset] [] σ := by
      intro d0 d1
      refine hJ _ _ _ _ ?_
      conv => whnf
      rw [h6, oi_shl (by omega), oi_or]
      have hm1 := hm.bit (w := w) h5 h7 h8 w7
      have f1 : ChA mnS mnL σ (wI σ 46 0 20 (Int32.ofInt ((e ||| 2 ^ w : Nat) : Int))) := ChA.wI (Or.inl ⟨rfl, rfl, by omega⟩)
      refine ⟨fun c4 => ?_, fun c4 => ?_⟩ <;> (try simp (disch := omega) only [oi_le, oi_lt, oi_eq, oi_lt0, oi_le0, oi_0lt, oi_0le, oi_eq0, oi_eq1, bI_eq0, bI_ne0, bI_eq1, decide_eq_true_eq, decide_eq_false_iff_not, lc_lt, lc_gt, lc_eq, lc_ge, lc_le, ol_lt, ol_eq, ne_eq, Int.not_lt, Int.not_le, Bool.not_eq_true, Bool.not_eq_false, Decidable.not_not, not_true_eq_false, not_false_eq_true, Bool.true_eq_false, Bool.false_eq_true] at c4) <;> (first | (exfalso; omega) | ((fail_if_success with_reducible refine hJ _ _ _ _ ?_); conv => whnf) | skip)
      · refine b67 d0 d1 _ (fun z => by omega) (fun z => by omega) (fun z => ?_) f1
        rw [if_neg (by omega), if_neg (by omega)] at hm1
        exact hm1
      · refine s_m_adv hC hm1.1 (fun σ2 a2 f2 => ?_)
        conv => whnf
        have hm2 := hm1.tk f2 a2
        refine b67 d0 d1 σ2 (fun z => ?_) (fun z => ?_) (fun z => by omega) (f1.tr (tm_mn f2))
        · rw [if_pos z, if_neg (by omega)] at hm2
          exact hm2
        · rw [if_neg (by omega), if_pos z] at hm2
          exact hm2
    refine hJ _ _ _ _ ?_
    conv => whnf
    refine ⟨fun c3 => ?_, fun c3 => ?_⟩ <;> (try simp (disch := omega) only [oi_le, oi_lt, oi_eq, oi_lt0, oi_le0, oi_0lt, oi_0le, oi_eq0, oi_eq1, bI_eq0, bI_ne0, bI_eq1, decide_eq_true_eq, decide_eq_false_iff_not, lc_lt, lc_gt, lc_eq, lc_ge, lc_le, ol_lt, ol_eq, ne_eq, Int.not_lt, Int.not_le, Bool.not_eq_true, Bool.not_eq_false, Decidable.not_not, not_true_eq_false, not_false_eq_true, Bool.true_eq_false, Bool.false_eq_true] at c3) <;> (first | (exfalso; omega) | ((fail_if_success with_reducible refine hJ _ _ _ _ ?_); conv => whnf) | skip)
    · exact b46 (fun z => by omega) (fun z => by omega)
    · rw [h6, oi_shr (by omega) (by omega), show Int32.ofInt 1 = Int32.ofInt ((1 : Nat) : Int) from rfl, oi_and, bit_01]
      have hw2 : w = 0 ∨ w = 1 := by omega
      refine ⟨fun z => ?_, fun z => ?_⟩
      · have ef : e.testBit w = false := by
          cases q : e.testBit w with
          | false => rfl
          | true => rw [q] at z; exact absurd rfl z
        refine b46 (fun y => ?_) (fun y => ?_)
        · rw [y.1, h7, y.2] at ef; cases ef
        · rw [y.1, h8, y.2] at ef; cases ef
      · have et : e.testBit w = true := by
          cases q : e.testBit w with
          | true => rfl
          | false =>
            rw [q] at z
            exact absurd z (by decide)
        have er : rPart B L S = rFl B L S.1 5 := by
          unfold rPart
          rw [hw]
          rcases hw2 with y | y
          · rw [if_pos (by omega)]
            rw [y, h7] at et
            exact if_pos et
          · rw [if_neg (by omega), if_pos (by omega)]
            rw [y, h8] at et
            exact if_pos et
        conv => whnf
        refine s_m_fails hC hm.1.2.2.1 hm.1.2.2.2 ?_
        conv => whnf
        exact ⟨Or.inl rfl, h false _ (er ▸ OM.fl (by omega) (by omega)) fM_mn⟩
  · exact bad (Or.inr c2)
