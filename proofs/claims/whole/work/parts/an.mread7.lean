theorem up_up (h : Nat → Int) (i : Nat) (a c : Int) : up (up h i a) i c = up h i c := by
  funext k
  by_cases e : k = i
  · rw [e, up_eq, up_eq]
  · rw [up_ne e, up_ne e, up_ne e]
theorem m_monk {CALL : CT} (hC : RuleAll CALL) {r : Nat} {σ : AM} {K : AV → AM → Prop} {B : Nat → Int} {L : Nat} {S : PS} (hm : MR σ B L S) (hp : PI L S) (h1 : ∀ (T : PS) (σ' : AM), MR σ' B L T → rMonk B L S = rSemi B L T → ChA mnS mnL σ σ' → K (.inl (Int32.ofInt 1)) σ') (h2 : ∀ σ' : AM, OM σ' B L (rMonk B L S) false → ChA mnS mnL σ σ' → K (.inl (Int32.ofInt 0)) σ') : CALL (r + 6) n_m_aMonk [.inr (.inr (46, 0))] σ K := by
  refine r_m_aMonk hC (fun J hJ => ?_)
  refine hJ _ _ _ _ ?_
  conv => whnf
  have b := hp.wf.1
  obtain ⟨fin, hfin⟩ : ∃ fin : Int → Int → Nat → Rz, fin = fun v rs f4 => rSemi B L (if kwT B L f4 = 10 then nxT B L f4 else f4, addM S.2.1 v rs (if kwT B L f4 = 10 then 0 else 1), S.2.2.1, upN S.2.2.2.1 (S.2.1 1).toNat (wdH B L (nxT B L S.1)), S.2.2.2.2) := ⟨_, rfl⟩
  have e : rMonk B L S = if 7 ≤ S.2.1 1 then rFl B L S.1 6 else rNew B L S (nxT B L S.1) (fun f1 => rWord B L 8 f1 (fun f2 => rNum B L 0 99 f2 (fun v f3 => if kwT B L f3 = 9 then rNum B L 0 9 (nxT B L f3) (fin v) else fin v 1 f3))) := by
    rw [hfin]
    rfl
  rw [e] at h1 h2
  have n50 : ∀ (lv : List AV) (σ' : AM), K (.inl (Int32.ofInt 0)) σ' → J 50 lv [] σ' := by
    intro lv σ' hk
    refine hJ _ _ _ _ ?_
    conv => whnf
    exact ⟨Or.inl rfl, hk⟩
  obtain ⟨c, hc⟩ : ∃ n : Nat, S.2.1 1 = (n : Int) := ⟨(S.2.1 1).toNat, by omega⟩
  have hc2 : (S.2.1 1).toNat = c := by omega
  refine ⟨(oi_in (by omega) (by omega)).mpr ⟨by omega, by omega⟩, ?_⟩
  conv => whnf
  rw [show (Int32.ofInt 1861).toNatClampNeg = 1860 + 1 from rfl, hm.2.1 1 (by omega), hc]
  refine s_m_monkRow hC ?_
  conv => whnf
  rw [oi_add]
  refine m_new hC (w := 1) (most := 7) (base := 6) (k := fun f1 => rWord B L 8 f1 (fun f2 => rNum B L 0 99 f2 (fun v f3 => if kwT B L f3 = 9 then rNum B L 0 9 (nxT B L f3) (fin v) else fin v 1 f3))) hm hp (Or.inr ⟨rfl, rfl, rfl⟩) (fun σ1 l1 n1 hm1 e1 q1 f1 => ?_) (fun σ1 o1 f1 => ?_)
  · rw [if_neg (by omega), q1] at h1 h2
    conv => whnf
    refine ⟨fun c1 => ?_, fun c1 => ?_⟩ <;> (try simp (disch := omega) only [oi_le, oi_lt, oi_eq, oi_lt0, oi_le0, oi_0lt, oi_0le, oi_eq0, oi_eq1, bI_eq0, bI_ne0, bI_eq1, decide_eq_true_eq, decide_eq_false_iff_not, lc_lt, lc_gt, lc_eq, lc_ge, lc_le, ol_lt, ol_eq, ne_eq, Int.not_lt, Int.not_le, Bool.not_eq_true, Bool.not_eq_false, Decidable.not_not, not_true_eq_false, not_false_eq_true, Bool.true_eq_false, Bool.false_eq_true] at c1) <;> (first | (exfalso; omega) | ((fail_if_success with_reducible refine hJ _ _ _ _ ?_); conv => whnf) | skip)
    refine m_word hC (n := 8) (k := fun f2 => rNum B L 0 99 f2 (fun v f3 => if kwT B L f3 = 9 then rNum B L 0 9 (nxT B L f3) (fin v) else fin v 1 f3)) hm1 (by omega) rfl (fun σ2 hm2 f2 q2 => ?_) (fun σ2 o2 f2 => ?_)
    · rw [show rWord B L 8 (nxT B L (nxT B L S.1)) _ = _ from q2] at h1 h2
      conv => whnf
      refine ⟨fun c2 => ?_, fun c2 => ?_⟩ <;> (try simp (disch := omega) only [oi_le, oi_lt, oi_eq, oi_lt0, oi_le0, oi_0lt, oi_0le, oi_eq0, oi_eq1, bI_eq0, bI_ne0, bI_eq1, decide_eq_true_eq, decide_eq_false_iff_not, lc_lt, lc_gt, lc_eq, lc_ge, lc_le, ol_lt, ol_eq, ne_eq, Int.not_lt, Int.not_le, Bool.not_eq_true, Bool.not_eq_false, Decidable.not_not, not_true_eq_false, not_false_eq_true, Bool.true_eq_false, Bool.false_eq_true] at c2) <;> (first | (exfalso; omega) | ((fail_if_success with_reducible refine hJ _ _ _ _ ?_); conv => whnf) | skip)
      refine m_num hC (to := 24 + 7 * c) (k := fun v f3 => if kwT B L f3 = 9 then rNum B L 0 9 (nxT B L f3) (fin v) else fin v 1 f3) hm2 (by omega) (by omega) (by omega) (by omega) (by omega) (by omega) (by omega) (fun v σ3 v0 v1 v2 hm3 f3 q3 => ?_) (fun σ3 o3 f3 => ?_)
      · rw [show rNum B L 0 99 (nxT B L (nxT B L (nxT B L S.1))) _ = _ from q3] at h1 h2
        have ch3 := (f1.tr (tm_mn f2)).tr (mh_mn f3)
        have n3 : σ3.2.1 48 0 (58 + c) = Int64.ofInt ((enc8 (wdH B L (nxT B L S.1)) : Nat) : Int) := by
          rw [f3.2, f2.2, ← hc2]; exact e1
        change MR σ3 B L (nxT B L (nxT B L (nxT B L (nxT B L S.1))), up S.2.1 (24 + 7 * c) v, S.2.2) at hm3
        revert h1 h2 hm3
        generalize nxT B L (nxT B L (nxT B L (nxT B L S.1))) = g3
        intro h2 h1 hm3
        have hm4 := (hm3.cell (k := 25 + 7 * c) (v := v) (by omega) (by omega)).cell (k := 26 + 7 * c) (v := 1) (by omega) (by omega)
        conv => whnf
        refine ⟨fun c3 => ?_, fun c3 => ?_⟩ <;> (try simp (disch := omega) only [oi_le, oi_lt, oi_eq, oi_lt0, oi_le0, oi_0lt, oi_0le, oi_eq0, oi_eq1, bI_eq0, bI_ne0, bI_eq1, decide_eq_true_eq, decide_eq_false_iff_not, lc_lt, lc_gt, lc_eq, lc_ge, lc_le, ol_lt, ol_eq, ne_eq, Int.not_lt, Int.not_le, Bool.not_eq_true, Bool.not_eq_false, Decidable.not_not, not_true_eq_false, not_false_eq_true, Bool.true_eq_false, Bool.false_eq_true] at c3) <;> (first | (exfalso; omega) | ((with_reducible refine hJ _ _ _ _ ?_); conv => whnf) | (conv => whnf))
        rw [oi_add]
        refine ⟨(oi_in (by omega) (by omega)).mpr ⟨by omega, by omega⟩, ?_⟩
        conv => whnf
        rw [show (Int32.ofInt (1860 + (24 + 7 * (c : Int)))).toNatClampNeg = 1860 + (24 + 7 * c) by rw [oi_nat (by omega) (by omega)]; omega, show σ3.1 47 0 (1860 + (24 + 7 * c)) = Int32.ofInt v by rw [hm3.2.1 _ (by omega)]; show Int32.ofInt (up S.2.1 _ v _) = _; rw [up_eq]]
        refine ⟨(oi_in (by omega) (by omega)).mpr ⟨by omega, by omega⟩, ?_⟩
        conv => whnf
        rw [oi_nat (by omega) (by omega), show (1860 + (24 + 7 * (c : Int)) + 1).toNat = 1860 + (25 + 7 * c) by omega, oi_add]
        refine ⟨(oi_in (by omega) (by omega)).mpr ⟨by omega, by omega⟩, ?_⟩
        conv => whnf
        rw [oi_nat (by omega) (by omega), show (1860 + (24 + 7 * (c : Int)) + 2).toNat = 1860 + (26 + 7 * c) by omega]
        have ch4 : ChA mnS mnL σ (wI (wI σ3 47 0 (1860 + (25 + 7 * c)) (Int32.ofInt v)) 47 0 (1860 + (26 + 7 * c)) (Int32.ofInt 1)) := (ch3.tr (ChA.wI (Or.inr ⟨rfl, rfl, by omega, by omega⟩))).tr (ChA.wI (Or.inr ⟨rfl, rfl, by omega, by omega⟩))
        have n4 : (wI (wI σ3 47 0 (1860 + (25 + 7 * c)) (Int32.ofInt v)) 47 0 (1860 + (26 + 7 * c)) (Int32.ofInt 1)).2.1 48 0 (58 + c) = Int64.ofInt ((enc8 (wdH B L (nxT B L S.1)) : Nat) : Int) := n3
        have b99 : ∀ (rs : Int) (g4 : Nat) (σ5 : AM), 0 ≤ rs → rs ≤ 9 → MR σ5 B L (g4, up (up (up S.2.1 (24 + 7 * c) v) (25 + 7 * c) v) (26 + 7 * c) rs, S.2.2) → ChA mnS mnL σ σ5 → σ5.2.1 48 0 (58 + c) = Int64.ofInt ((enc8 (wdH B L (nxT B L S.1)) : Nat) : Int) → (∀ (T : PS) (σ' : AM), MR σ' B L T → fin v rs g4 = rSemi B L T → ChA mnS mnL σ σ' → K (.inl (Int32.ofInt 1)) σ') → J 99 [.inr (.inr (46, 0)), .inl (Int32.ofInt (1860 + (24 + 7 * (c : Int))))] [] σ5 := by
          intro rs g4 σ5 r1 r2 hm5 ch5 n5 h1
          have b120 : ∀ (aw : Int) (g5 : Nat) (σ6 : AM), MR σ6 B L (g5, up (up (up S.2.1 (24 + 7 * c) v) (25 + 7 * c) v) (26 + 7 * c) rs, S.2.2) → ChA mnS mnL σ σ6 → σ6.2.1 48 0 (58 + c) = Int64.ofInt ((enc8 (wdH B L (nxT B L S.1)) : Nat) : Int) → fin v rs g4 = rSemi B L (g5, addM S.2.1 v rs aw, S.2.2.1, upN S.2.2.2.1 (S.2.1 1).toNat (wdH B L (nxT B L S.1)), S.2.2.2.2) → J 120 [.inr (.inr (46, 0)), .inl (Int32.ofInt (1860 + (24 + 7 * (c : Int))))] [.inl (Int32.ofInt aw), .inl (Int32.ofInt (1860 + (24 + 7 * (c : Int)) + 3)), .inr (.inr (47, 0))] σ6 := by
            intro aw g5 σ6 hm6 ch6 n6 q6
            refine hJ _ _ _ _ ?_
            conv => whnf
            refine ⟨(oi_in (by omega) (by omega)).mpr ⟨by omega, by omega⟩, ?_⟩
            conv => whnf
            rw [oi_nat (by omega) (by omega), show (1860 + (24 + 7 * (c : Int)) + 3).toNat = 1860 + (27 + 7 * c) by omega]
            have hm7 := hm6.cell (k := 27 + 7 * c) (v := aw) (by omega) (by omega)
            have u1 : (up (up (up (up S.2.1 (24 + 7 * c) v) (25 + 7 * c) v) (26 + 7 * c) rs) (27 + 7 * c) aw) 1 = S.2.1 1 := by rw [up_ne (by omega), up_ne (by omega), up_ne (by omega), up_ne (by omega)]
            refine ⟨(oi_in (by omega) (by omega)).mpr ⟨by omega, by omega⟩, ?_⟩
            conv => whnf
            rw [show (Int32.ofInt 1861).toNatClampNeg = 1860 + 1 from rfl, show (wI σ6 47 0 (1860 + (27 + 7 * c)) (Int32.ofInt aw)).1 47 0 (1860 + 1) = Int32.ofInt (S.2.1 1) by rw [← u1]; exact hm7.2.1 1 (by omega)]
            refine ⟨(oi_in (by omega) (by omega)).mpr ⟨by omega, by omega⟩, ?_⟩
            conv => whnf
            rw [oi_add]
            refine ⟨Or.inr rfl, h1 _ _ ?_ q6 ?_⟩
            · have := hm7.monc (w := wdH B L (nxT B L S.1)) (by show 0 ≤ (up (up (up (up S.2.1 (24 + 7 * c) v) (25 + 7 * c) v) (26 + 7 * c) rs) (27 + 7 * c) aw) 1; rw [u1]; omega) (by show σ6.2.1 48 0 (58 + ((up (up (up (up S.2.1 (24 + 7 * c) v) (25 + 7 * c) v) (26 + 7 * c) rs) (27 + 7 * c) aw) 1).toNat) = _; rw [u1, hc2]; exact n6)
              change MR (wI (wI σ6 47 0 (1860 + (27 + 7 * c)) (Int32.ofInt aw)) 47 0 1861 (Int32.ofInt ((up (up (up (up S.2.1 (24 + 7 * c) v) (25 + 7 * c) v) (26 + 7 * c) rs) (27 + 7 * c) aw) 1 + 1))) B L (g5, up (up (up (up (up S.2.1 (24 + 7 * c) v) (25 + 7 * c) v) (26 + 7 * c) rs) (27 + 7 * c) aw) 1 ((up (up (up (up S.2.1 (24 + 7 * c) v) (25 + 7 * c) v) (26 + 7 * c) rs) (27 + 7 * c) aw) 1 + 1), S.2.2.1, upN S.2.2.2.1 ((up (up (up (up S.2.1 (24 + 7 * c) v) (25 + 7 * c) v) (26 + 7 * c) rs) (27 + 7 * c) aw) 1).toNat (wdH B L (nxT B L S.1)), S.2.2.2.2) at this
              rw [u1] at this
              unfold addM
              rw [hc2] at this ⊢
              exact this
            · exact (ch6.tr (ChA.wI (Or.inr ⟨rfl, rfl, by omega, by omega⟩))).tr (ChA.wI (Or.inr ⟨rfl, rfl, by omega, by omega⟩))
          refine hJ _ _ _ _ ?_
          conv => whnf
          rw [oi_add]
          refine s_m_isThere hC (n := 10) hm5.1 (by omega) rfl (fun z σ6 k1 k2 => ?_) (fun z => ?_)
          · have z : kwT B L g4 = 10 := z
            conv => whnf
            refine ⟨fun c6 => ?_, fun c6 => ?_⟩ <;> (try simp (disch := omega) only [oi_le, oi_lt, oi_eq, oi_lt0, oi_le0, oi_0lt, oi_0le, oi_eq0, oi_eq1, bI_eq0, bI_ne0, bI_eq1, decide_eq_true_eq, decide_eq_false_iff_not, lc_lt, lc_gt, lc_eq, lc_ge, lc_le, ol_lt, ol_eq, ne_eq, Int.not_lt, Int.not_le, Bool.not_eq_true, Bool.not_eq_false, Decidable.not_not, not_true_eq_false, not_false_eq_true, Bool.true_eq_false, Bool.false_eq_true] at c6) <;> (first | (exfalso; omega) | ((fail_if_success with_reducible refine hJ _ _ _ _ ?_); conv => whnf) | skip)
            refine b120 0 (nxT B L g4) σ6 (hm5.tk k2 k1) (ch5.tr (tm_mn k2)) (by rw [k2.2]; exact n5) ?_
            rw [hfin]
            show rSemi B L (if kwT B L g4 = 10 then _ else _, addM S.2.1 v rs (if kwT B L g4 = 10 then 0 else 1), _) = _
            rw [if_pos z, if_pos z]
          · have z : ¬ kwT B L g4 = 10 := z
            conv => whnf
            refine ⟨fun c6 => ?_, fun c6 => ?_⟩ <;> (try simp (disch := omega) only [oi_le, oi_lt, oi_eq, oi_lt0, oi_le0, oi_0lt, oi_0le, oi_eq0, oi_eq1, bI_eq0, bI_ne0, bI_eq1, decide_eq_true_eq, decide_eq_false_iff_not, lc_lt, lc_gt, lc_eq, lc_ge, lc_le, ol_lt, ol_eq, ne_eq, Int.not_lt, Int.not_le, Bool.not_eq_true, Bool.not_eq_false, Decidable.not_not, not_true_eq_false, not_false_eq_true, Bool.true_eq_false, Bool.false_eq_true] at c6) <;> (first | (exfalso; omega) | ((with_reducible refine hJ _ _ _ _ ?_); conv => whnf) | (conv => whnf))
            refine b120 1 g4 σ5 hm5 ch5 n5 ?_
            rw [hfin]
            show rSemi B L (if kwT B L g4 = 10 then _ else _, addM S.2.1 v rs (if kwT B L g4 = 10 then 0 else 1), _) = _
            rw [if_neg z, if_neg z]
        refine s_m_isThere hC (n := 9) hm4.1 (by omega) rfl (fun z σ5 k1 k2 => ?_) (fun z => ?_)
        · have z : kwT B L g3 = 9 := z
          have hm5 := hm4.tk k2 k1
          change MR σ5 B L (nxT B L g3, up (up (up S.2.1 (24 + 7 * c) v) (25 + 7 * c) v) (26 + 7 * c) 1, S.2.2) at hm5
          rw [if_pos z] at h1 h2
          conv => whnf
          refine ⟨fun c5 => ?_, fun c5 => ?_⟩ <;> (try simp (disch := omega) only [oi_le, oi_lt, oi_eq, oi_lt0, oi_le0, oi_0lt, oi_0le, oi_eq0, oi_eq1, bI_eq0, bI_ne0, bI_eq1, decide_eq_true_eq, decide_eq_false_iff_not, lc_lt, lc_gt, lc_eq, lc_ge, lc_le, ol_lt, ol_eq, ne_eq, Int.not_lt, Int.not_le, Bool.not_eq_true, Bool.not_eq_false, Decidable.not_not, not_true_eq_false, not_false_eq_true, Bool.true_eq_false, Bool.false_eq_true] at c5) <;> (first | (exfalso; omega) | ((fail_if_success with_reducible refine hJ _ _ _ _ ?_); conv => whnf) | skip)
          rw [oi_add]
          refine m_num hC (to := 26 + 7 * c) (k := fin v) hm5 (by omega) (by omega) (by omega) (by omega) (by omega) (by omega) (by omega) (fun rs σ6 v0 v3 v4 hm6 f6 q6 => ?_) (fun σ6 o6 f6 => ?_)
          · rw [show rNum B L 0 9 (nxT B L g3) _ = _ from q6] at h1 h2
            conv => whnf
            refine ⟨fun c6 => ?_, fun c6 => ?_⟩ <;> (try simp (disch := omega) only [oi_le, oi_lt, oi_eq, oi_lt0, oi_le0, oi_0lt, oi_0le, oi_eq0, oi_eq1, bI_eq0, bI_ne0, bI_eq1, decide_eq_true_eq, decide_eq_false_iff_not, lc_lt, lc_gt, lc_eq, lc_ge, lc_le, ol_lt, ol_eq, ne_eq, Int.not_lt, Int.not_le, Bool.not_eq_true, Bool.not_eq_false, Decidable.not_not, not_true_eq_false, not_false_eq_true, Bool.true_eq_false, Bool.false_eq_true] at c6) <;> (first | (exfalso; omega) | ((fail_if_success with_reducible refine hJ _ _ _ _ ?_); conv => whnf) | skip)
            refine b99 rs (nxT B L (nxT B L g3)) σ6 v3 v4 ?_ ((ch4.tr (tm_mn k2)).tr (mh_mn f6)) (by rw [f6.2, k2.2]; exact n4) h1
            have hm6 : MR σ6 B L (nxT B L (nxT B L g3), up (up (up (up S.2.1 (24 + 7 * c) v) (25 + 7 * c) v) (26 + 7 * c) 1) (26 + 7 * c) rs, S.2.2) := hm6
            rw [up_up] at hm6
            exact hm6
          · conv => whnf
            refine ⟨fun c6 => ?_, fun c6 => ?_⟩ <;> (try simp (disch := omega) only [oi_le, oi_lt, oi_eq, oi_lt0, oi_le0, oi_0lt, oi_0le, oi_eq0, oi_eq1, bI_eq0, bI_ne0, bI_eq1, decide_eq_true_eq, decide_eq_false_iff_not, lc_lt, lc_gt, lc_eq, lc_ge, lc_le, ol_lt, ol_eq, ne_eq, Int.not_lt, Int.not_le, Bool.not_eq_true, Bool.not_eq_false, Decidable.not_not, not_true_eq_false, not_false_eq_true, Bool.true_eq_false, Bool.false_eq_true] at c6) <;> (first | (exfalso; omega) | ((fail_if_success with_reducible refine hJ _ _ _ _ ?_); conv => whnf) | skip)
            exact ⟨Or.inl rfl, h2 _ o6 ((ch4.tr (tm_mn k2)).tr f6)⟩
        · have z : ¬ kwT B L g3 = 9 := z
          rw [if_neg z] at h1 h2
          conv => whnf
          refine ⟨fun c5 => ?_, fun c5 => ?_⟩ <;> (try simp (disch := omega) only [oi_le, oi_lt, oi_eq, oi_lt0, oi_le0, oi_0lt, oi_0le, oi_eq0, oi_eq1, bI_eq0, bI_ne0, bI_eq1, decide_eq_true_eq, decide_eq_false_iff_not, lc_lt, lc_gt, lc_eq, lc_ge, lc_le, ol_lt, ol_eq, ne_eq, Int.not_lt, Int.not_le, Bool.not_eq_true, Bool.not_eq_false, Decidable.not_not, not_true_eq_false, not_false_eq_true, Bool.true_eq_false, Bool.false_eq_true] at c5) <;> (first | (exfalso; omega) | ((fail_if_success with_reducible refine hJ _ _ _ _ ?_); conv => whnf) | skip)
          exact b99 1 g3 _ (by omega) (by omega) hm4 ch4 n4 h1
      · conv => whnf
        refine ⟨fun c3 => ?_, fun c3 => ?_⟩ <;> (try simp (disch := omega) only [oi_le, oi_lt, oi_eq, oi_lt0, oi_le0, oi_0lt, oi_0le, oi_eq0, oi_eq1, bI_eq0, bI_ne0, bI_eq1, decide_eq_true_eq, decide_eq_false_iff_not, lc_lt, lc_gt, lc_eq, lc_ge, lc_le, ol_lt, ol_eq, ne_eq, Int.not_lt, Int.not_le, Bool.not_eq_true, Bool.not_eq_false, Decidable.not_not, not_true_eq_false, not_false_eq_true, Bool.true_eq_false, Bool.false_eq_true] at c3) <;> (first | (exfalso; omega) | ((fail_if_success with_reducible refine hJ _ _ _ _ ?_); conv => whnf) | skip)
        exact n50 _ _ (h2 _ o3 ((f1.tr (tm_mn f2)).tr f3))
    · conv => whnf
      refine ⟨fun c2 => ?_, fun c2 => ?_⟩ <;> (try simp (disch := omega) only [oi_le, oi_lt, oi_eq, oi_lt0, oi_le0, oi_0lt, oi_0le, oi_eq0, oi_eq1, bI_eq0, bI_ne0, bI_eq1, decide_eq_true_eq, decide_eq_false_iff_not, lc_lt, lc_gt, lc_eq, lc_ge, lc_le, ol_lt, ol_eq, ne_eq, Int.not_lt, Int.not_le, Bool.not_eq_true, Bool.not_eq_false, Decidable.not_not, not_true_eq_false, not_false_eq_true, Bool.true_eq_false, Bool.false_eq_true] at c2) <;> (first | (exfalso; omega) | ((fail_if_success with_reducible refine hJ _ _ _ _ ?_); conv => whnf) | skip)
      exact n50 _ _ (h2 _ o2 (f1.tr f2))
  · conv => whnf
    refine ⟨fun c1 => ?_, fun c1 => ?_⟩ <;> (try simp (disch := omega) only [oi_le, oi_lt, oi_eq, oi_lt0, oi_le0, oi_0lt, oi_0le, oi_eq0, oi_eq1, bI_eq0, bI_ne0, bI_eq1, decide_eq_true_eq, decide_eq_false_iff_not, lc_lt, lc_gt, lc_eq, lc_ge, lc_le, ol_lt, ol_eq, ne_eq, Int.not_lt, Int.not_le, Bool.not_eq_true, Bool.not_eq_false, Decidable.not_not, not_true_eq_false, not_false_eq_true, Bool.true_eq_false, Bool.false_eq_true] at c1) <;> (first | (exfalso; omega) | ((fail_if_success with_reducible refine hJ _ _ _ _ ?_); conv => whnf) | skip)
    exact n50 _ _ (h2 _ o1 f1)
