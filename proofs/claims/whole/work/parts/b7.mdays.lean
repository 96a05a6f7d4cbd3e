def dsS (t i j : Nat) : Prop := bmS t i j ∨ dmT t i j ∨ (t = 46 ∧ i = 0 ∧ (j = 2 ∨ j = 16))
def dsT (t i j : Nat) : Prop := dsS t i j ∨ (t = 47 ∧ i = 0 ∧ (j = 10 ∨ (97 ≤ j ∧ j < 457)))
/-- what the reference holds once the days are read -/
def MDf (σ : AM) (S : DZ) : Prop := σ.1 47 0 10 = Int32.ofInt (S.2.1 : Int) ∧ ∀ k, k < S.2.1 → ∀ j, j < 6 → σ.1 47 0 (97 + 6 * k + j) = Int32.ofInt (S.2.2.1 k j)
theorem m_days0 {CALL : CT} (hC : RuleAll CALL) {r : Nat} {σ : AM} {K : AV → AM → Prop} {k : Nat} {z : Int} (z1 : -2147483648 ≤ z) (z2 : z < 2147483648) (h10 : σ.1 46 0 10 = Int32.ofInt (k : Int)) (hk : k ≤ 900) (hz : ¬ (0 ≤ z ∧ z ≤ (k : Int) ∧ z ≤ 300)) (h : K (.inl (Int32.ofInt (-1))) (wI σ 46 0 2 (Int32.ofInt 1))) : CALL (r + 8) n_m_days [.inr (.inr (46, 0)), .inl (Int32.ofInt z)] σ K := by
  refine r_m_days hC (fun J hJ => ?_)
  refine hJ _ _ _ _ ?_
  conv => whnf
  refine m_begin0 hC (most := 300) (by omega) z1 z2 h10 hk (by omega) ?_
  conv => whnf
  refine ⟨fun c => ?_, fun c => ?_⟩ <;> (try simp (disch := omega) only [oi_le, oi_lt, oi_eq, oi_lt0, oi_le0, oi_0lt, oi_0le, oi_eq0, oi_eq1, bI_eq0, bI_ne0, bI_eq1, decide_eq_true_eq, decide_eq_false_iff_not, lc_lt, lc_gt, lc_eq, lc_ge, lc_le, ol_lt, ol_eq, ne_eq, Int.not_lt, Int.not_le, Bool.not_eq_true, Bool.not_eq_false, Decidable.not_not, not_true_eq_false, not_false_eq_true, Bool.true_eq_false, Bool.false_eq_true] at c) <;> (first | (exfalso; omega) | ((with_reducible refine hJ _ _ _ _ ?_); conv => whnf) | (conv => whnf))
  refine s_m_refuse hC ?_
  conv => whnf
  exact h
theorem m_daysS {CALL : CT} (hC : RuleAll CALL) {r : Nat} {σ : AM} {K : AV → AM → Prop} {B : Nat → Int} {k n a b : Nat} {tn mn : Nat → List Nat} (h10 : σ.1 46 0 10 = Int32.ofInt (k : Int)) (hk : k ≤ 900) (hB : BOk B n) (hnk : n ≤ k) (hn3 : n ≤ 300) (hb : ∀ j, j < n → σ.1 52 0 j = Int32.ofInt (sg8 (B j).toNat)) (hN : HM σ tn mn a b) (h2 : ∀ (S : DZ) (σ' : AM), dFin B n (dAll B n tn mn a b 301 (D0 (tokF B n 0))) = .inl S → MDf σ' S → σ'.1 46 0 10 = Int32.ofInt 0 → σ'.1 46 0 16 = Int32.ofInt 0 → σ'.1 46 0 17 = Int32.ofInt (-1) → σ'.1 46 0 2 = Int32.ofInt 0 → Ch dsT σ σ' → K (.inl (Int32.ofInt (S.2.2.2.2.2 : Int))) σ') (h3 : ∀ (c : Int) (p : Nat) (σ' : AM), dFin B n (dAll B n tn mn a b 301 (D0 (tokF B n 0))) = .inr (c, p) → σ'.1 46 0 10 = Int32.ofInt 0 → σ'.1 46 0 16 = Int32.ofInt c → σ'.1 46 0 17 = Int32.ofInt (p : Int) → σ'.1 46 0 2 = Int32.ofInt 9 → Ch dsS σ σ' → K (.inl (Int32.ofInt (-1))) σ') : CALL (r + 9) n_m_days [.inr (.inr (46, 0)), .inl (Int32.ofInt (n : Int))] σ K := by
  refine r_m_days hC (fun J hJ => ?_)
  refine hJ _ _ _ _ ?_
  conv => whnf
  refine m_begin hC (most := 300) (B := B) (n := n) (by omega) (by omega) (by omega) h10 hk hB (fun _ => rfl) hb (fun y => absurd ⟨by omega, by omega, by omega⟩ y) (fun y1 y2 y3 σ1 a1 a10 a17 a19 f1 => ?_)
  conv => whnf
  refine ⟨fun c => ?_, fun c => ?_⟩ <;> (try simp (disch := omega) only [oi_le, oi_lt, oi_eq, oi_lt0, oi_le0, oi_0lt, oi_0le, oi_eq0, oi_eq1, bI_eq0, bI_ne0, bI_eq1, decide_eq_true_eq, decide_eq_false_iff_not, lc_lt, lc_gt, lc_eq, lc_ge, lc_le, ol_lt, ol_eq, ne_eq, Int.not_lt, Int.not_le, Bool.not_eq_true, Bool.not_eq_false, Decidable.not_not, not_true_eq_false, not_false_eq_true, Bool.true_eq_false, Bool.false_eq_true] at c) <;> (first | (exfalso; omega) | ((with_reducible refine hJ _ _ _ _ ?_); conv => whnf) | (conv => whnf))
  have tf := tokF_ok (B := B) (L := n) (e0 := 0) (by omega)
  refine ⟨(oi_in (by omega) (by omega)).mpr ⟨by omega, by omega⟩, ?_⟩
  conv => whnf
  rw [show (Int32.ofInt 1870).toNatClampNeg = 1870 from rfl]
  have b131e : ∀ (c : Int) (p : Nat) (σ5 : AM) (v2 v3 : AV), dFin B n (dAll B n tn mn a b 301 (D0 (tokF B n 0))) = .inr (c, p) → 1 ≤ c → c ≤ 9 → σ5.1 46 0 10 = Int32.ofInt 0 → σ5.1 46 0 18 = Int32.ofInt c → σ5.1 46 0 17 = Int32.ofInt (p : Int) → Ch dsS σ σ5 → J 77 [.inr (.inr (46, 0)), .inl (Int32.ofInt (n : Int)), v2, v3] [] σ5 := by
    intro c p σ5 v2 v3 hr c1 c9 b10 b18 b17 ch
    refine hJ _ _ _ _ ?_
    conv => whnf
    rw [b18]
    refine ⟨fun c5 => ?_, fun c5 => ?_⟩ <;> (try simp (disch := omega) only [oi_le, oi_lt, oi_eq, oi_lt0, oi_le0, oi_0lt, oi_0le, oi_eq0, oi_eq1, bI_eq0, bI_ne0, bI_eq1, decide_eq_true_eq, decide_eq_false_iff_not, lc_lt, lc_gt, lc_eq, lc_ge, lc_le, ol_lt, ol_eq, ne_eq, Int.not_lt, Int.not_le, Bool.not_eq_true, Bool.not_eq_false, Decidable.not_not, not_true_eq_false, not_false_eq_true, Bool.true_eq_false, Bool.false_eq_true] at c5) <;> (first | (exfalso; omega) | ((fail_if_success with_reducible refine hJ _ _ _ _ ?_); conv => whnf) | skip)
    refine hJ _ _ _ _ ?_
    conv => whnf
    rw [show σ5.1 46 0 23 = Int32.ofInt (σ5.1 46 0 23).toInt from (oi_ti _).symm]
    refine m_takenS hC (c := c) b18 (by omega) (by omega) (fun y => by omega) (fun _ => ?_)
    conv => whnf
    refine h3 c p _ hr ?_ ?_ ?_ wI_16 ((ch.tr (Ch.wI (Or.inr (Or.inr ⟨rfl, rfl, by omega⟩)))).tr (Ch.wI (Or.inr (Or.inr ⟨rfl, rfl, by omega⟩))))
    · rw [wI1, if_neg (by omega), wI1, if_neg (by omega)]; exact b10
    · rw [wI1, if_neg (by omega), wI_16]
    · rw [wI1, if_neg (by omega), wI1, if_neg (by omega)]; exact b17
  have b57 : ∀ (S : DZ) (dep : Nat → Nat) (σ4 : AM), DM σ4 B n S → DI (a : Int) (b : Int) n S dep → dAll B n tn mn a b 301 (D0 (tokF B n 0)) = .inl S → σ4.1 46 0 10 = Int32.ofInt 0 → Ch dsS σ σ4 → J 57 [.inr (.inr (46, 0)), .inl (Int32.ofInt (n : Int)), .inl (Int32.ofInt 1), unset] [] σ4 := by
    intro S dep σ4 hm hp hr b10 ch
    obtain ⟨q1, q2, q3, q4, q5, q6, q7⟩ := id hm
    have o3 := hp.2.2.2.1
    have s60 : S.2.1 ≤ 60 := by have := hp.2.2.1; have := hp.2.1; omega
    refine hJ _ _ _ _ ?_
    conv => whnf
    rw [q1.2.2.2]
    refine ⟨fun c4 => ?_, fun c4 => ?_⟩ <;> (try simp (disch := omega) only [oi_le, oi_lt, oi_eq, oi_lt0, oi_le0, oi_0lt, oi_0le, oi_eq0, oi_eq1, bI_eq0, bI_ne0, bI_eq1, decide_eq_true_eq, decide_eq_false_iff_not, lc_lt, lc_gt, lc_eq, lc_ge, lc_le, ol_lt, ol_eq, ne_eq, Int.not_lt, Int.not_le, Bool.not_eq_true, Bool.not_eq_false, Decidable.not_not, not_true_eq_false, not_false_eq_true, Bool.true_eq_false, Bool.false_eq_true] at c4) <;> (first | (exfalso; omega) | ((fail_if_success with_reducible refine hJ _ _ _ _ ?_); conv => whnf) | skip)
    rw [q3]
    refine ⟨fun c5 => ?_, fun c5 => ?_⟩ <;> (try simp (disch := omega) only [oi_le, oi_lt, oi_eq, oi_lt0, oi_le0, oi_0lt, oi_0le, oi_eq0, oi_eq1, bI_eq0, bI_ne0, bI_eq1, decide_eq_true_eq, decide_eq_false_iff_not, lc_lt, lc_gt, lc_eq, lc_ge, lc_le, ol_lt, ol_eq, ne_eq, Int.not_lt, Int.not_le, Bool.not_eq_true, Bool.not_eq_false, Decidable.not_not, not_true_eq_false, not_false_eq_true, Bool.true_eq_false, Bool.false_eq_true] at c5) <;> (first | (exfalso; omega) | ((fail_if_success with_reducible refine hJ _ _ _ _ ?_); conv => whnf) | skip)
    · have hr : dFin B n (dAll B n tn mn a b 301 (D0 (tokF B n 0))) = .inl S := by rw [hr]; exact if_pos (by omega)
      have l102 : ∀ (m i : Nat) (σ5 : AM), i + m = 457 → 97 ≤ i → (∀ j, 97 ≤ j → j < i → σ5.1 47 0 j = σ4.1 47 0 (1860 + j)) → σ5.1 47 0 10 = Int32.ofInt (S.2.1 : Int) → Ch (fun t i j => t = 47 ∧ i = 0 ∧ (j = 10 ∨ (97 ≤ j ∧ j < 457))) σ4 σ5 → J 102 [.inr (.inr (46, 0)), .inl (Int32.ofInt (n : Int)), .inl (Int32.ofInt 1), .inl (Int32.ofInt (i : Int))] [] σ5 := by
        intro m
        induction m with
        | zero =>
          intro i σ5 hi hi1 e1 e10 ch5
          refine hJ _ _ _ _ ?_
          conv => whnf
          refine ⟨fun c6 => ?_, fun c6 => ?_⟩ <;> (try simp (disch := omega) only [oi_le, oi_lt, oi_eq, oi_lt0, oi_le0, oi_0lt, oi_0le, oi_eq0, oi_eq1, bI_eq0, bI_ne0, bI_eq1, decide_eq_true_eq, decide_eq_false_iff_not, lc_lt, lc_gt, lc_eq, lc_ge, lc_le, ol_lt, ol_eq, ne_eq, Int.not_lt, Int.not_le, Bool.not_eq_true, Bool.not_eq_false, Decidable.not_not, not_true_eq_false, not_false_eq_true, Bool.true_eq_false, Bool.false_eq_true] at c6) <;> (first | (exfalso; omega) | ((fail_if_success with_reducible refine hJ _ _ _ _ ?_); conv => whnf) | skip)
          refine hJ _ _ _ _ ?_
          conv => whnf
          rw [ch5.1 46 0 23 (by omega), q4]
          refine m_takenS hC (c := 0) (by rw [ch5.1 46 0 18 (by omega)]; exact q1.2.2.2) (by omega) (by omega) (fun _ => ?_) (fun y => by omega)
          conv => whnf
          refine h2 S _ hr ⟨?_, fun k hk j hj => ?_⟩ ?_ ?_ ?_ wI_16 ((((ch.mo (fun _ _ _ z => Or.inl z)).tr (ch5.mo (fun _ _ _ z => Or.inr z))).tr (Ch.wI (Or.inl (Or.inr (Or.inr ⟨rfl, rfl, by omega⟩))))).tr (Ch.wI (Or.inl (Or.inr (Or.inr ⟨rfl, rfl, by omega⟩)))))
          · rw [wI1, if_neg (by omega), wI1, if_neg (by omega)]; exact e10
          · rw [wI1, if_neg (by omega), wI1, if_neg (by omega), e1 _ (by omega) (by omega), show 1860 + (97 + 6 * k + j) = 1957 + 6 * k + j by omega]
            exact q6 k hk j hj
          · rw [wI1, if_neg (by omega), wI1, if_neg (by omega), ch5.1 _ _ _ (by omega)]; exact b10
          · rw [wI1, if_neg (by omega), wI_16]
          · rw [wI1, if_neg (by omega), wI1, if_neg (by omega), ch5.1 _ _ _ (by omega)]; exact q7
        | succ m ih =>
          intro i σ5 hi hi1 e1 e10 ch5
          refine hJ _ _ _ _ ?_
          conv => whnf
          refine ⟨fun c6 => ?_, fun c6 => ?_⟩ <;> (try simp (disch := omega) only [oi_le, oi_lt, oi_eq, oi_lt0, oi_le0, oi_0lt, oi_0le, oi_eq0, oi_eq1, bI_eq0, bI_ne0, bI_eq1, decide_eq_true_eq, decide_eq_false_iff_not, lc_lt, lc_gt, lc_eq, lc_ge, lc_le, ol_lt, ol_eq, ne_eq, Int.not_lt, Int.not_le, Bool.not_eq_true, Bool.not_eq_false, Decidable.not_not, not_true_eq_false, not_false_eq_true, Bool.true_eq_false, Bool.false_eq_true] at c6) <;> (first | (exfalso; omega) | ((fail_if_success with_reducible refine hJ _ _ _ _ ?_); conv => whnf) | skip)
          rw [oi_add]
          refine ⟨(oi_in (by omega) (by omega)).mpr ⟨by omega, by omega⟩, ?_⟩
          conv => whnf
          rw [show (Int32.ofInt (1860 + (i : Int))).toNatClampNeg = 1860 + i by rw [oi_nat (by omega) (by omega)]; omega, ch5.1 _ _ _ (by omega)]
          refine ⟨(oi_in (by omega) (by omega)).mpr ⟨by omega, by omega⟩, ?_⟩
          conv => whnf
          rw [oi_nat (by omega) (by omega), Int.toNat_natCast, oi_add]
          refine ih (i + 1) _ (by omega) (by omega) (fun j j1 j2 => ?_) (by rw [wI1, if_neg (by omega)]; exact e10) (ch5.tr (Ch.wI ⟨rfl, rfl, by omega⟩))
          by_cases ei : j = i
          · rw [ei, wI_16]
          · rw [wI1, if_neg (by omega)]; exact e1 j j1 (by omega)
      refine hJ _ _ _ _ ?_
      conv => whnf
      rw [q1.2.2.2]
      refine ⟨fun c6 => ?_, fun c6 => ?_⟩ <;> (try simp (disch := omega) only [oi_le, oi_lt, oi_eq, oi_lt0, oi_le0, oi_0lt, oi_0le, oi_eq0, oi_eq1, bI_eq0, bI_ne0, bI_eq1, decide_eq_true_eq, decide_eq_false_iff_not, lc_lt, lc_gt, lc_eq, lc_ge, lc_le, ol_lt, ol_eq, ne_eq, Int.not_lt, Int.not_le, Bool.not_eq_true, Bool.not_eq_false, Decidable.not_not, not_true_eq_false, not_false_eq_true, Bool.true_eq_false, Bool.false_eq_true] at c6) <;> (first | (exfalso; omega) | ((fail_if_success with_reducible refine hJ _ _ _ _ ?_); conv => whnf) | skip)
      refine ⟨(oi_in (by omega) (by omega)).mpr ⟨by omega, by omega⟩, ?_⟩
      conv => whnf
      rw [show (Int32.ofInt 1870).toNatClampNeg = 1870 from rfl, q2]
      refine ⟨(oi_in (by omega) (by omega)).mpr ⟨by omega, by omega⟩, ?_⟩
      conv => whnf
      rw [show (Int32.ofInt 10).toNatClampNeg = 10 from rfl]
      exact l102 360 97 _ (by omega) (by omega) (fun j j1 j2 => by omega) wI_16 (Ch.wI ⟨rfl, rfl, Or.inl rfl⟩)
    · have hr : dFin B n (dAll B n tn mn a b 301 (D0 (tokF B n 0))) = .inr (flK B n S.1 2, S.1) := by rw [hr]; exact if_neg (by omega)
      refine s_m_fails hC q1.2.2.1 q1.2.2.2 ?_
      conv => whnf
      have fl := Om.fl (σ := σ4) (B := B) (L := n) (f := S.1) (c := 2) (by omega) (by omega)
      obtain ⟨-, fl1, fl2, fl3, fl4⟩ := fl
      exact b131e _ S.1 _ _ _ hr fl3 fl4 (by rw [fM_dm.1 _ _ _ (by unfold dmT; omega)]; exact b10) fl1 fl2 (ch.tr (fM_dm.mo (fun _ _ _ z => Or.inr (Or.inl z))))
  have b38 : ∀ (m : Nat) (S : DZ) (dep : Nat → Nat) (σ4 : AM), DM σ4 B n S → DI (a : Int) (b : Int) n S dep → HM σ4 tn mn a b → n ≤ S.1 + m → dAll B n tn mn a b 301 (D0 (tokF B n 0)) = dAll B n tn mn a b m S → σ4.1 46 0 10 = Int32.ofInt 0 → Ch dsS σ σ4 → J 38 [.inr (.inr (46, 0)), .inl (Int32.ofInt (n : Int)), .inl (Int32.ofInt 1), unset] [] σ4 := by
    intro m
    induction m with
    | zero =>
      intro S dep σ4 hm hp hN4 hs hr b10 ch
      have e0 := (kdT_bd B n S.1).2.2.mpr (by omega)
      refine hJ _ _ _ _ ?_
      conv => whnf
      refine ⟨fun c2 => ?_, fun c2 => ?_⟩ <;> (try simp (disch := omega) only [oi_le, oi_lt, oi_eq, oi_lt0, oi_le0, oi_0lt, oi_0le, oi_eq0, oi_eq1, bI_eq0, bI_ne0, bI_eq1, decide_eq_true_eq, decide_eq_false_iff_not, lc_lt, lc_gt, lc_eq, lc_ge, lc_le, ol_lt, ol_eq, ne_eq, Int.not_lt, Int.not_le, Bool.not_eq_true, Bool.not_eq_false, Decidable.not_not, not_true_eq_false, not_false_eq_true, Bool.true_eq_false, Bool.false_eq_true] at c2) <;> (first | (exfalso; omega) | ((fail_if_success with_reducible refine hJ _ _ _ _ ?_); conv => whnf) | skip)
      rw [show σ4.1 46 0 12 = Int32.ofInt (kdT B n S.1) from hm.1.2.2.1.2.1, e0]
      refine ⟨fun c3 => ?_, fun c3 => ?_⟩ <;> (try simp (disch := omega) only [oi_le, oi_lt, oi_eq, oi_lt0, oi_le0, oi_0lt, oi_0le, oi_eq0, oi_eq1, bI_eq0, bI_ne0, bI_eq1, decide_eq_true_eq, decide_eq_false_iff_not, lc_lt, lc_gt, lc_eq, lc_ge, lc_le, ol_lt, ol_eq, ne_eq, Int.not_lt, Int.not_le, Bool.not_eq_true, Bool.not_eq_false, Decidable.not_not, not_true_eq_false, not_false_eq_true, Bool.true_eq_false, Bool.false_eq_true] at c3) <;> (first | (exfalso; omega) | ((fail_if_success with_reducible refine hJ _ _ _ _ ?_); conv => whnf) | skip)
      exact b57 S dep σ4 hm hp hr b10 ch
    | succ m ih =>
      intro S dep σ4 hm hp hN4 hs hr b10 ch
      have kb := kdT_bd B n S.1
      refine hJ _ _ _ _ ?_
      conv => whnf
      refine ⟨fun c2 => ?_, fun c2 => ?_⟩ <;> (try simp (disch := omega) only [oi_le, oi_lt, oi_eq, oi_lt0, oi_le0, oi_0lt, oi_0le, oi_eq0, oi_eq1, bI_eq0, bI_ne0, bI_eq1, decide_eq_true_eq, decide_eq_false_iff_not, lc_lt, lc_gt, lc_eq, lc_ge, lc_le, ol_lt, ol_eq, ne_eq, Int.not_lt, Int.not_le, Bool.not_eq_true, Bool.not_eq_false, Decidable.not_not, not_true_eq_false, not_false_eq_true, Bool.true_eq_false, Bool.false_eq_true] at c2) <;> (first | (exfalso; omega) | ((fail_if_success with_reducible refine hJ _ _ _ _ ?_); conv => whnf) | skip)
      rw [show σ4.1 46 0 12 = Int32.ofInt (kdT B n S.1) from hm.1.2.2.1.2.1]
      refine ⟨fun c3 => ?_, fun c3 => ?_⟩ <;> (try simp (disch := omega) only [oi_le, oi_lt, oi_eq, oi_lt0, oi_le0, oi_0lt, oi_0le, oi_eq0, oi_eq1, bI_eq0, bI_ne0, bI_eq1, decide_eq_true_eq, decide_eq_false_iff_not, lc_lt, lc_gt, lc_eq, lc_ge, lc_le, ol_lt, ol_eq, ne_eq, Int.not_lt, Int.not_le, Bool.not_eq_true, Bool.not_eq_false, Decidable.not_not, not_true_eq_false, not_false_eq_true, Bool.true_eq_false, Bool.false_eq_true] at c3) <;> (first | (exfalso; omega) | ((fail_if_success with_reducible refine hJ _ _ _ _ ?_); conv => whnf) | skip)
      · rw [dAll_end c3] at hr
        exact b57 S dep σ4 hm hp hr b10 ch
      · refine m_dstep hC hm hN4 hp (fun bb σ5 o5 f5 => ?_)
        have ch5 := ch.tr (f5.mo (fun t i j z => Or.inr (Or.inl z)))
        have b10' : σ5.1 46 0 10 = Int32.ofInt 0 := by rw [f5.1 _ _ _ (by unfold dmT; omega)]; exact b10
        cases er : dStep B n tn mn a b S with
        | inl T =>
          rw [er] at o5
          have ob := o5.1
          subst ob
          obtain ⟨⟨dep', pk⟩, lt⟩ := dStep_ok hB hp er
          rw [dAll_go c3 er] at hr
          conv => whnf
          exact ih T dep' σ5 o5.2 pk (hN4.ch f5) (by omega) hr b10' ch5
        | inr d =>
          obtain ⟨d1, d2⟩ := d
          rw [er] at o5
          obtain ⟨ob, o18, o17, o1, o9⟩ := o5
          subst ob
          rw [dAll_no c3 er] at hr
          conv => whnf
          refine hJ _ _ _ _ ?_
          conv => whnf
          refine ⟨fun c4 => ?_, fun c4 => ?_⟩ <;> (try simp (disch := omega) only [oi_le, oi_lt, oi_eq, oi_lt0, oi_le0, oi_0lt, oi_0le, oi_eq0, oi_eq1, bI_eq0, bI_ne0, bI_eq1, decide_eq_true_eq, decide_eq_false_iff_not, lc_lt, lc_gt, lc_eq, lc_ge, lc_le, ol_lt, ol_eq, ne_eq, Int.not_lt, Int.not_le, Bool.not_eq_true, Bool.not_eq_false, Decidable.not_not, not_true_eq_false, not_false_eq_true, Bool.true_eq_false, Bool.false_eq_true] at c4) <;> (first | (exfalso; omega) | ((fail_if_success with_reducible refine hJ _ _ _ _ ?_); conv => whnf) | skip)
          refine hJ _ _ _ _ ?_
          conv => whnf
          rw [o18]
          refine ⟨fun c5 => ?_, fun c5 => ?_⟩ <;> (try simp (disch := omega) only [oi_le, oi_lt, oi_eq, oi_lt0, oi_le0, oi_0lt, oi_0le, oi_eq0, oi_eq1, bI_eq0, bI_ne0, bI_eq1, decide_eq_true_eq, decide_eq_false_iff_not, lc_lt, lc_gt, lc_eq, lc_ge, lc_le, ol_lt, ol_eq, ne_eq, Int.not_lt, Int.not_le, Bool.not_eq_true, Bool.not_eq_false, Decidable.not_not, not_true_eq_false, not_false_eq_true, Bool.true_eq_false, Bool.false_eq_true] at c5) <;> (first | (exfalso; omega) | ((fail_if_success with_reducible refine hJ _ _ _ _ ?_); conv => whnf) | skip)
          exact b131e d1 d2 σ5 _ _ (by rw [hr]; rfl) o1 o9 b10' o18 o17 ch5
  have f2 : Ch (fun t i j => (t = 47 ∧ i = 0 ∧ j = 1870) ∨ (t = 46 ∧ i = 0 ∧ (j = 22 ∨ j = 23))) σ1 (wI (wI (wI σ1 47 0 1870 (Int32.ofInt 0)) 46 0 22 (Int32.ofInt 0)) 46 0 23 (Int32.ofInt 0)) := ((Ch.wI (Or.inl ⟨rfl, rfl, rfl⟩)).tr (Ch.wI (Or.inr ⟨rfl, rfl, Or.inl rfl⟩))).tr (Ch.wI (Or.inr ⟨rfl, rfl, Or.inr rfl⟩))
  have f12 : Ch dsS σ (wI (wI (wI σ1 47 0 1870 (Int32.ofInt 0)) 46 0 22 (Int32.ofInt 0)) 46 0 23 (Int32.ofInt 0)) := (f1.mo (fun _ _ _ z => Or.inl z)).tr (f2.mo (fun t i j z => Or.inr (Or.inl (by unfold dmT; omega))))
  refine b38 301 (D0 (tokF B n 0)) (fun _ => 0) _ ⟨a1.ch f2.1 (fun j _ _ z => by omega) (fun j z => by omega), ?_, ?_, ?_, fun i hi => absurd hi (Nat.not_lt_zero i), fun k hk => absurd hk (Nat.not_lt_zero k), ?_⟩ (D0_DI tf.2.1) ?_ (by show n ≤ tokF B n 0 + 301; omega) rfl ?_ f12
  · rw [wI1, if_neg (by omega), wI1, if_neg (by omega), wI_16]; rfl
  · rw [wI1, if_neg (by omega), wI_16]; rfl
  · rw [wI_16]; rfl
  · rw [f2.1 _ _ _ (by omega)]; exact a17
  · obtain ⟨n1, n2, n3, n4, n5, n6⟩ := id hN
    exact ⟨n1, n2, by rw [f12.1 _ _ _ (by unfold dsS bmS dmT; omega)]; exact n3, by rw [f12.1 _ _ _ (by unfold dsS bmS dmT; omega)]; exact n4, fun t ht => by rw [f12.2]; exact n5 t ht, fun t ht => by rw [f12.2]; exact n6 t ht⟩
  · rw [f2.1 _ _ _ (by omega)]; exact a10
