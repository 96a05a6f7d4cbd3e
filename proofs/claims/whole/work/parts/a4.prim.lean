/-! what both readers ask of a token -/
def nxT (B : Nat → Int) (L f : Nat) : Nat := tokF B L (tokE B L f)
def flK (B : Nat → Int) (L f : Nat) (c : Int) : Int := if kdT B L f = 1 then 1 else c
theorem nxT_ok {B : Nat → Int} {L f : Nat} (h : f ≤ L) : nxT B L f ≤ L ∧ f ≤ nxT B L f ∧ (f < L → f < nxT B L f) := by
  have e := tokE_ok (B := B) h
  have g := tokF_ok (B := B) (L := L) (e0 := tokE B L f) e.2.1
  unfold nxT
  omega
theorem vlT_bd {B : Nat → Int} {L f : Nat} (hB : BOk B L) (hf : f ≤ L) : (kdT B L f = 3 → 0 ≤ vlT B L f ∧ vlT B L f ≤ 9999) ∧ (kdT B L f = 4 → 59 ≤ vlT B L f ∧ vlT B L f ≤ 62) := by
  have kb := kdT_bd B L f
  refine ⟨fun k => ?_, fun k => ?_⟩
  · have hl : ¬ L ≤ f := fun z => by have := kb.2.2.mpr z; omega
    have k2 := k
    unfold kdT at k2
    rw [if_neg hl] at k2
    by_cases c2 : sml (B f) = true
    · rw [if_pos c2] at k2; omega
    rw [if_neg c2] at k2
    by_cases c3 : dig (B f) = true
    · rw [if_pos c3] at k2
      by_cases c4 : 4 < tokE B L f - f
      · rw [if_pos c4] at k2; omega
      have te : tokE B L f = rn' dig B L L f := by unfold tokE; rw [if_neg hl, if_neg c2, if_pos c3]
      have ro := rn_ok (p := dig) (B := B) (L := L) (k := L) (e := f) (by omega)
      rw [← te] at ro
      have dg : ∀ j, j < tokE B L f - f → 48 ≤ B (f + j) ∧ B (f + j) ≤ 57 := fun j hj => by
        have := ro.2.2.1 (f + j) (by omega) (by omega)
        unfold dig at this
        rw [decide_eq_true_eq] at this
        exact this
      have vn := vmF_nu (tokE B L f - f) (by omega) dg
      have p4 : (10 : Int) ^ (tokE B L f - f) ≤ 10000 := by
        have : tokE B L f - f = 0 ∨ tokE B L f - f = 1 ∨ tokE B L f - f = 2 ∨ tokE B L f - f = 3 ∨ tokE B L f - f = 4 := by omega
        rcases this with e | e | e | e | e <;> rw [e] <;> decide
      rw [show vlT B L f = nuF B f (tokE B L f - f) from if_pos k]
      omega
    · rw [if_neg c3] at k2
      split at k2 <;> omega
  · have hl : ¬ L ≤ f := fun z => by have := kb.2.2.mpr z; omega
    have k2 := k
    unfold kdT at k2
    rw [if_neg hl] at k2
    by_cases c2 : sml (B f) = true
    · rw [if_pos c2] at k2; omega
    rw [if_neg c2] at k2
    by_cases c3 : dig (B f) = true
    · rw [if_pos c3] at k2
      split at k2 <;> omega
    rw [if_neg c3] at k2
    rw [show vlT B L f = B f from if_neg (by omega)]
    split at k2 <;> omega
theorem kC_eq {B : Nat → Int} {L f : Nat} : (kC (kdT B L f) = 4 ↔ kdT B L f = 1) ∧ (kC (kdT B L f) = 3 ↔ kdT B L f = 4) ∧ (kC (kdT B L f) = 2 ↔ kdT B L f = 3) ∧ (kC (kdT B L f) = 1 ↔ kdT B L f = 2) ∧ (kC (kdT B L f) = 0 ↔ kdT B L f = 0) ∧ 0 ≤ kC (kdT B L f) ∧ kC (kdT B L f) ≤ 4 := by
  have kb := kdT_bd B L f
  have : kdT B L f = 0 ∨ kdT B L f = 1 ∨ kdT B L f = 2 ∨ kdT B L f = 3 ∨ kdT B L f = 4 := by omega
  rcases this with e | e | e | e | e <;> rw [e] <;> decide
/-- the class at a token -/
def AC (σ : AM) (B : Nat → Int) (L f : Nat) : Prop := TxC σ B L ∧ BOk B L ∧ KeyR σ ∧ TC σ B L f
def AMo (σ : AM) (B : Nat → Int) (L f : Nat) : Prop := TxM σ B L ∧ BOk B L ∧ TM σ B L f ∧ σ.1 46 0 18 = Int32.ofInt 0
theorem AC.cha {σ σ' : AM} {B : Nat → Int} {L f : Nat} {S SL : Nat → Nat → Nat → Prop} (h : AC σ B L f) (hc : ChA S SL σ σ') (h1 : ∀ j, 5 ≤ j → ¬ S 3 0 j) (h2 : ∀ j, ¬ S 4 0 j) (h3 : ∀ j, ¬ SL 5 0 j) (h4 : ¬ SL 3 0 9) : AC σ' B L f := by
  obtain ⟨⟨x1, x2⟩, hB, hk, t1, t2, t3, t4, t5, t6, t7⟩ := h
  refine ⟨⟨by rw [hc.1 _ _ _ (h1 10 (by omega))]; exact x1, fun j hj => by rw [hc.1 _ _ _ (h2 j)]; exact x2 j hj⟩, hB, hk.c2 (fun j => hc.2.1 _ _ _ (h3 j)), t1, ?_, ?_, ?_, fun z => ?_, ?_, ?_⟩
  · rw [hc.1 _ _ _ (h1 5 (by omega))]; exact t2
  · rw [hc.1 _ _ _ (h1 6 (by omega))]; exact t3
  · rw [hc.1 _ _ _ (h1 7 (by omega))]; exact t4
  · rw [hc.1 _ _ _ (h1 8 (by omega))]; exact t5 z
  · rw [hc.2.1 _ _ _ h4]; exact t6
  · rw [hc.1 _ _ _ (h1 11 (by omega))]; exact t7
theorem AMo.ch {σ σ' : AM} {B : Nat → Int} {L f : Nat} {S : Nat → Nat → Nat → Prop} (h : AMo σ B L f) (hc : ∀ t q j, ¬ S t q j → σ'.1 t q j = σ.1 t q j) (h1 : ∀ j, 11 ≤ j → j ≤ 18 → ¬ S 46 0 j) (h2 : ∀ j, ¬ S 53 0 j) : AMo σ' B L f := by
  obtain ⟨⟨x1, x2⟩, hB, ⟨t1, t2, t3, t4, t5⟩, h18⟩ := h
  refine ⟨⟨by rw [hc _ _ _ (h1 11 (by omega) (by omega))]; exact x1, fun j hj => by rw [hc _ _ _ (h2 j)]; exact x2 j hj⟩, hB, ⟨t1, ?_, ?_, fun z => ?_, ?_⟩, ?_⟩
  · rw [hc _ _ _ (h1 12 (by omega) (by omega))]; exact t2
  · rw [hc _ _ _ (h1 13 (by omega) (by omega))]; exact t3
  · rw [hc _ _ _ (h1 15 (by omega) (by omega))]; exact t4 z
  · rw [hc _ _ _ (h1 14 (by omega) (by omega))]; exact t5
  · rw [hc _ _ _ (h1 18 (by omega) (by omega))]; exact h18
theorem s_adv {CALL : CT} (hC : RuleAll CALL) {r : Nat} {σ : AM} {K : AV → AM → Prop} {B : Nat → Int} {L f : Nat} (ha : AC σ B L f) (h : ∀ σ' : AM, AC σ' B L (nxT B L f) → ChA tkS tkL σ σ' → K unset σ') : CALL (r + 2) n_Tape_advance [.inr (.inr (3, 0))] σ K := by
  obtain ⟨hx, hB, hk, t1, t2, t3, t4, t5, t6, t7⟩ := ha
  have eo := tokE_ok (B := B) t1
  exact s_advance hC hx hB hk eo.2.1 t7 (fun σ' k1 k2 => h σ' ⟨hx.cha k2, hB, hk.cha k2, k1⟩ k2)
theorem s_m_adv {CALL : CT} (hC : RuleAll CALL) {r : Nat} {σ : AM} {K : AV → AM → Prop} {B : Nat → Int} {L f : Nat} (ha : AMo σ B L f) (h : ∀ σ' : AM, AMo σ' B L (nxT B L f) → Ch tmS σ σ' → K unset σ') : CALL (r + 2) n_m_ahead [.inr (.inr (46, 0))] σ K := by
  obtain ⟨hx, hB, ⟨t1, t2, t3, t4, t5⟩, h18⟩ := ha
  have eo := tokE_ok (B := B) t1
  exact s_m_ahead hC hx hB eo.2.1 t5 (fun σ' k1 k2 => h σ' ⟨hx.t k2, hB, k1, by rw [k2.1 _ _ _ (by unfold tmS; omega)]; exact h18⟩ k2)
/-- what a failure leaves -/
def fC (σ : AM) (B : Nat → Int) (L f : Nat) (c : Int) : AM := wI (wI σ 3 0 3 (Int32.ofInt (flK B L f c))) 3 0 4 (Int32.ofInt (f : Int))
def fM (σ : AM) (B : Nat → Int) (L f : Nat) (c : Int) : AM := wI (wI σ 46 0 18 (Int32.ofInt (flK B L f c))) 46 0 17 (Int32.ofInt (f : Int))
theorem s_fail {CALL : CT} (hC : RuleAll CALL) {r : Nat} {σ : AM} {K : AV → AM → Prop} {B : Nat → Int} {L f : Nat} {c : Int} (ht : TC σ B L f) (h : K (.inl (Int32.ofInt 0)) (fC σ B L f c)) : CALL (r + 1) n_Tape_fail [.inr (.inr (3, 0)), .inl (Int32.ofInt c)] σ K := by
  refine r_Tape_fail hC (fun J hJ => ?_)
  refine hJ _ _ _ _ ?_
  conv => whnf
  have ke := kC_eq (B := B) (L := L) (f := f)
  have at14 : ∀ x : Int, x = flK B L f c → J 14 [.inr (.inr (3, 0)), .inl (Int32.ofInt c)] [.inl (Int32.ofInt x), .inr (.inr (3, 0))] σ := by
    intro x hx
    refine hJ _ _ _ _ ?_
    conv => whnf
    rw [wI1, if_neg (by omega), ht.2.2.1, hx]
    exact ⟨Or.inl rfl, h⟩
  rw [ht.2.1]
  refine ⟨fun z => ?_, fun z => ?_⟩ <;> (try simp (disch := omega) only [oi_le, oi_lt, oi_eq, oi_lt0, oi_le0, oi_0lt, oi_0le, oi_eq0, oi_eq1, bI_eq0, bI_ne0, bI_eq1, decide_eq_true_eq, decide_eq_false_iff_not, lc_lt, lc_gt, lc_eq, lc_ge, lc_le, ol_lt, ol_eq, ne_eq, Int.not_lt, Int.not_le, Bool.not_eq_true, Bool.not_eq_false, Decidable.not_not, not_true_eq_false, not_false_eq_true, Bool.true_eq_false, Bool.false_eq_true] at z) <;> (first | (exfalso; omega) | ((with_reducible refine hJ _ _ _ _ ?_); conv => whnf) | (conv => whnf))
  · exact at14 c (by unfold flK; rw [if_neg (by omega)])
  · exact at14 1 (by unfold flK; rw [if_pos (by omega)])
theorem s_m_fails {CALL : CT} (hC : RuleAll CALL) {r : Nat} {σ : AM} {K : AV → AM → Prop} {B : Nat → Int} {L f : Nat} {c : Int} (ht : TM σ B L f) (h18 : σ.1 46 0 18 = Int32.ofInt 0) (h : K (.inl (Int32.ofInt 0)) (fM σ B L f c)) : CALL (r + 1) n_m_fails [.inr (.inr (46, 0)), .inl (Int32.ofInt c)] σ K := by
  refine r_m_fails hC (fun J hJ => ?_)
  refine hJ _ _ _ _ ?_
  conv => whnf
  have kb := kdT_bd B L f
  have at21 : ∀ x : Int, x = flK B L f c → J 21 [.inr (.inr (46, 0)), .inl (Int32.ofInt c)] [.inl (Int32.ofInt x), .inr (.inr (46, 0))] σ := by
    intro x hx
    refine hJ _ _ _ _ ?_
    conv => whnf
    rw [wI1, if_neg (by omega), ht.2.2.1, hx]
    refine hJ _ _ _ _ ?_
    conv => whnf
    exact ⟨Or.inl rfl, h⟩
  rw [h18]
  refine ⟨fun z => absurd rfl z, fun _ => ?_⟩
  conv => whnf
  rw [ht.2.1]
  refine ⟨fun z => ?_, fun z => ?_⟩ <;> (try simp (disch := omega) only [oi_le, oi_lt, oi_eq, oi_lt0, oi_le0, oi_0lt, oi_0le, oi_eq0, oi_eq1, bI_eq0, bI_ne0, bI_eq1, decide_eq_true_eq, decide_eq_false_iff_not, lc_lt, lc_gt, lc_eq, lc_ge, lc_le, ol_lt, ol_eq, ne_eq, Int.not_lt, Int.not_le, Bool.not_eq_true, Bool.not_eq_false, Decidable.not_not, not_true_eq_false, not_false_eq_true, Bool.true_eq_false, Bool.false_eq_true] at z) <;> (first | (exfalso; omega) | ((with_reducible refine hJ _ _ _ _ ?_); conv => whnf) | (conv => whnf))
  · exact at21 c (by unfold flK; rw [if_neg (by omega)])
  · exact at21 1 (by unfold flK; rw [if_pos (by omega)])
theorem s_skipSemi {CALL : CT} (hC : RuleAll CALL) {r : Nat} {σ : AM} {K : AV → AM → Prop} {B : Nat → Int} {L f : Nat} (ha : AC σ B L f) (h1 : (kdT B L f = 4 ∧ vlT B L f = 59) → ∀ σ' : AM, AC σ' B L (nxT B L f) → ChA tkS tkL σ σ' → K (.inl (Int32.ofInt 1)) σ') (h2 : ¬ (kdT B L f = 4 ∧ vlT B L f = 59) → K (.inl (Int32.ofInt 0)) (fC σ B L f 2)) : CALL (r + 3) n_Tape_skipSemicolon [.inr (.inr (3, 0))] σ K := by
  refine r_Tape_skipSemicolon hC (fun J hJ => ?_)
  refine hJ _ _ _ _ ?_
  conv => whnf
  obtain ⟨hx, hB, hk, t1, t2, t3, t4, t5, t6, t7⟩ := id ha
  have ke := kC_eq (B := B) (L := L) (f := f)
  have vb := vlT_bd hB t1
  have no : ¬ (kdT B L f = 4 ∧ vlT B L f = 59) → J 17 [.inr (.inr (3, 0))] [] σ := by
    intro z
    refine hJ _ _ _ _ ?_
    conv => whnf
    refine s_fail hC ha.2.2.2 ?_
    conv => whnf
    exact ⟨Or.inl rfl, h2 z⟩
  rw [t2]
  refine ⟨fun c => ?_, fun c => ?_⟩ <;> (try simp (disch := omega) only [oi_le, oi_lt, oi_eq, oi_lt0, oi_le0, oi_0lt, oi_0le, oi_eq0, oi_eq1, bI_eq0, bI_ne0, bI_eq1, decide_eq_true_eq, decide_eq_false_iff_not, lc_lt, lc_gt, lc_eq, lc_ge, lc_le, ol_lt, ol_eq, ne_eq, Int.not_lt, Int.not_le, Bool.not_eq_true, Bool.not_eq_false, Decidable.not_not, not_true_eq_false, not_false_eq_true, Bool.true_eq_false, Bool.false_eq_true] at c) <;> (first | (exfalso; omega) | ((fail_if_success with_reducible refine hJ _ _ _ _ ?_); conv => whnf) | skip)
  · exact no (by omega)
  · have k4 : kdT B L f = 4 := by omega
    have vb := vb.2 k4
    rw [t5 (Or.inr k4)]
    refine ⟨fun c2 => ?_, fun c2 => ?_⟩ <;> (try simp (disch := omega) only [oi_le, oi_lt, oi_eq, oi_lt0, oi_le0, oi_0lt, oi_0le, oi_eq0, oi_eq1, bI_eq0, bI_ne0, bI_eq1, decide_eq_true_eq, decide_eq_false_iff_not, lc_lt, lc_gt, lc_eq, lc_ge, lc_le, ol_lt, ol_eq, ne_eq, Int.not_lt, Int.not_le, Bool.not_eq_true, Bool.not_eq_false, Decidable.not_not, not_true_eq_false, not_false_eq_true, Bool.true_eq_false, Bool.false_eq_true] at c2) <;> (first | (exfalso; omega) | ((fail_if_success with_reducible refine hJ _ _ _ _ ?_); conv => whnf) | skip)
    · refine hJ _ _ _ _ ?_
      conv => whnf
      refine s_adv hC ha (fun σ' k1 k2 => ?_)
      conv => whnf
      exact ⟨Or.inr rfl, h1 ⟨k4, c2⟩ σ' k1 k2⟩
    · exact no (fun z => c2 z.2)
theorem s_skipWord {CALL : CT} (hC : RuleAll CALL) {r : Nat} {σ : AM} {K : AV → AM → Prop} {B : Nat → Int} {L f n : Nat} {x : Int} (ha : AC σ B L f) (hn : n < 23) (hx' : x = kmC (n : Int)) (h1 : kwT B L f = (n : Int) → ∀ σ' : AM, AC σ' B L (nxT B L f) → ChA tkS tkL σ σ' → K (.inl (Int32.ofInt 1)) σ') (h2 : kwT B L f ≠ (n : Int) → K (.inl (Int32.ofInt 0)) (fC σ B L f 2)) : CALL (r + 3) n_Tape_skipWord [.inr (.inr (3, 0)), .inl (Int32.ofInt x)] σ K := by
  refine r_Tape_skipWord hC (fun J hJ => ?_)
  refine hJ _ _ _ _ ?_
  conv => whnf
  subst hx'
  obtain ⟨hx, hB, hk, t1, t2, t3, t4, t5, t6, t7⟩ := id ha
  have kwb := kwT_bd B L f
  have ke := kmC_eq (k := kwT B L f) kwb.1 kwb.2 hn
  have bn : 0 ≤ kmC (n : Int) ∧ kmC (n : Int) ≤ 22 := kmC_bd ⟨n, hn⟩
  have bk : -1 ≤ kmC (kwT B L f) ∧ kmC (kwT B L f) ≤ 22 := by
    by_cases z : kwT B L f < 0
    · rw [show kmC (kwT B L f) = -1 from if_pos z]; omega
    · obtain ⟨m, em⟩ : ∃ m : Nat, kwT B L f = (m : Int) := ⟨(kwT B L f).toNat, by omega⟩
      have : 0 ≤ kmC (m : Int) ∧ kmC (m : Int) ≤ 22 := kmC_bd ⟨m, by omega⟩
      rw [em]; omega
  rw [t4]
  refine ⟨fun c => ?_, fun c => ?_⟩ <;> (try simp (disch := omega) only [oi_le, oi_lt, oi_eq, oi_lt0, oi_le0, oi_0lt, oi_0le, oi_eq0, oi_eq1, bI_eq0, bI_ne0, bI_eq1, decide_eq_true_eq, decide_eq_false_iff_not, lc_lt, lc_gt, lc_eq, lc_ge, lc_le, ol_lt, ol_eq, ne_eq, Int.not_lt, Int.not_le, Bool.not_eq_true, Bool.not_eq_false, Decidable.not_not, not_true_eq_false, not_false_eq_true, Bool.true_eq_false, Bool.false_eq_true] at c) <;> (first | (exfalso; omega) | ((with_reducible refine hJ _ _ _ _ ?_); conv => whnf) | (conv => whnf))
  · refine s_adv hC ha (fun σ' k1 k2 => ?_)
    conv => whnf
    exact ⟨Or.inr rfl, h1 (ke.mp c) σ' k1 k2⟩
  · refine s_fail hC ha.2.2.2 ?_
    conv => whnf
    exact ⟨Or.inl rfl, h2 (fun z => c (ke.mpr z))⟩
theorem s_takeNumber {CALL : CT} (hC : RuleAll CALL) {r : Nat} {σ : AM} {K : AV → AM → Prop} {B : Nat → Int} {L f : Nat} {lo hi : Int} (ha : AC σ B L f) (l1 : 0 ≤ lo) (l2 : lo ≤ 10000) (u1 : 0 ≤ hi) (u2 : hi ≤ 10000) (h1 : (kdT B L f = 3 ∧ lo ≤ vlT B L f ∧ vlT B L f ≤ hi) → ∀ σ' : AM, AC σ' B L (nxT B L f) → ChA tkS tkL σ σ' → K (.inl (Int32.ofInt (vlT B L f))) σ') (h2 : kdT B L f ≠ 3 → K (.inl (Int32.ofInt (-1))) (fC σ B L f 2)) (h3 : kdT B L f = 3 → ¬ (lo ≤ vlT B L f ∧ vlT B L f ≤ hi) → K (.inl (Int32.ofInt (-1))) (fC σ B L f 4)) : CALL (r + 3) n_Tape_takeNumber [.inr (.inr (3, 0)), .inl (Int32.ofInt lo), .inl (Int32.ofInt hi)] σ K := by
  refine r_Tape_takeNumber hC (fun J hJ => ?_)
  refine hJ _ _ _ _ ?_
  conv => whnf
  obtain ⟨hx, hB, hk, t1, t2, t3, t4, t5, t6, t7⟩ := id ha
  have ke := kC_eq (B := B) (L := L) (f := f)
  have vb := (vlT_bd hB t1).1
  have at20 : ¬ (kdT B L f = 3 ∧ lo ≤ vlT B L f ∧ vlT B L f ≤ hi) → J 20 [.inr (.inr (3, 0)), .inl (Int32.ofInt lo), .inl (Int32.ofInt hi), unset] [] σ := by
    intro z
    refine hJ _ _ _ _ ?_
    conv => whnf
    rw [t2]
    refine ⟨fun c => ?_, fun c => ?_⟩ <;> (try simp (disch := omega) only [oi_le, oi_lt, oi_eq, oi_lt0, oi_le0, oi_0lt, oi_0le, oi_eq0, oi_eq1, bI_eq0, bI_ne0, bI_eq1, decide_eq_true_eq, decide_eq_false_iff_not, lc_lt, lc_gt, lc_eq, lc_ge, lc_le, ol_lt, ol_eq, ne_eq, Int.not_lt, Int.not_le, Bool.not_eq_true, Bool.not_eq_false, Decidable.not_not, not_true_eq_false, not_false_eq_true, Bool.true_eq_false, Bool.false_eq_true] at c) <;> (first | (exfalso; omega) | ((with_reducible refine hJ _ _ _ _ ?_); conv => whnf) | (conv => whnf))
    · refine hJ _ _ _ _ ?_
      conv => whnf
      refine s_fail hC ha.2.2.2 ?_
      conv => whnf
      exact h2 (by omega)
    · refine hJ _ _ _ _ ?_
      conv => whnf
      refine s_fail hC ha.2.2.2 ?_
      conv => whnf
      exact h3 (by omega) (by omega)
  rw [t2]
  refine ⟨fun c => ?_, fun c => ?_⟩ <;> (try simp (disch := omega) only [oi_le, oi_lt, oi_eq, oi_lt0, oi_le0, oi_0lt, oi_0le, oi_eq0, oi_eq1, bI_eq0, bI_ne0, bI_eq1, decide_eq_true_eq, decide_eq_false_iff_not, lc_lt, lc_gt, lc_eq, lc_ge, lc_le, ol_lt, ol_eq, ne_eq, Int.not_lt, Int.not_le, Bool.not_eq_true, Bool.not_eq_false, Decidable.not_not, not_true_eq_false, not_false_eq_true, Bool.true_eq_false, Bool.false_eq_true] at c) <;> (first | (exfalso; omega) | ((fail_if_success with_reducible refine hJ _ _ _ _ ?_); conv => whnf) | skip)
  · exact at20 (by omega)
  · have k3 : kdT B L f = 3 := by omega
    have vb := vb k3
    rw [t5 (Or.inl k3)]
    refine s_withinI hC (by omega) (by omega) (by omega) (by omega) (by omega) (by omega) ?_
    conv => whnf
    refine ⟨fun c2 => ?_, fun c2 => ?_⟩ <;> (try simp (disch := omega) only [oi_le, oi_lt, oi_eq, oi_lt0, oi_le0, oi_0lt, oi_0le, oi_eq0, oi_eq1, bI_eq0, bI_ne0, bI_eq1, decide_eq_true_eq, decide_eq_false_iff_not, lc_lt, lc_gt, lc_eq, lc_ge, lc_le, ol_lt, ol_eq, ne_eq, Int.not_lt, Int.not_le, Bool.not_eq_true, Bool.not_eq_false, Decidable.not_not, not_true_eq_false, not_false_eq_true, Bool.true_eq_false, Bool.false_eq_true] at c2) <;> (first | (exfalso; omega) | ((fail_if_success with_reducible refine hJ _ _ _ _ ?_); conv => whnf) | skip)
    · refine hJ _ _ _ _ ?_
      conv => whnf
      rw [t5 (Or.inl k3)]
      refine s_adv hC ha (fun σ' k1 k2 => ?_)
      conv => whnf
      exact h1 ⟨k3, c2⟩ σ' k1 k2
    · exact at20 (by omega)
theorem s_isNm {CALL : CT} (hC : RuleAll CALL) {r : Nat} {σ : AM} {K : AV → AM → Prop} {B : Nat → Int} {L f : Nat} (ha : AC σ B L f) (h : K (.inl (bI (isNm B L f))) σ) : CALL (r + 1) n_Tape_isName [.inr (.inr (3, 0))] σ K := by
  refine r_Tape_isName hC (fun J hJ => ?_)
  refine hJ _ _ _ _ ?_
  conv => whnf
  obtain ⟨hx, hB, hk, t1, t2, t3, t4, t5, t6, t7⟩ := id ha
  have ke := kC_eq (B := B) (L := L) (f := f)
  have kwb := kwT_bd B L f
  have kn := kmC_neg (k := kwT B L f) kwb.1 kwb.2
  have no : isNm B L f = false → J 29 [.inr (.inr (3, 0))] [] σ := by
    intro z
    rw [z] at h
    refine hJ _ _ _ _ ?_
    conv => whnf
    refine hJ _ _ _ _ ?_
    conv => whnf
    exact ⟨Or.inl rfl, h⟩
  rw [t2]
  refine ⟨fun c => ?_, fun c => ?_⟩ <;> (try simp (disch := omega) only [oi_le, oi_lt, oi_eq, oi_lt0, oi_le0, oi_0lt, oi_0le, oi_eq0, oi_eq1, bI_eq0, bI_ne0, bI_eq1, decide_eq_true_eq, decide_eq_false_iff_not, lc_lt, lc_gt, lc_eq, lc_ge, lc_le, ol_lt, ol_eq, ne_eq, Int.not_lt, Int.not_le, Bool.not_eq_true, Bool.not_eq_false, Decidable.not_not, not_true_eq_false, not_false_eq_true, Bool.true_eq_false, Bool.false_eq_true] at c) <;> (first | (exfalso; omega) | ((fail_if_success with_reducible refine hJ _ _ _ _ ?_); conv => whnf) | skip)
  · exact no (decide_eq_false (fun z => by omega))
  · have k2 : kdT B L f = 2 := by omega
    rw [t6]
    by_cases h8 : tokE B L f - f ≤ 8
    · have wok := wdT_ok k2 h8 t1
      have l1 := enc5_lt wok
      have l2 := enc5_pos wok
      rw [show nmT B L f = ((enc5 (wdT B f (tokE B L f)) : Nat) : Int) from if_pos ⟨k2, h8⟩]
      refine ⟨fun z => ?_, fun _ => ?_⟩
      · rw [lc_eq] at z
        have z : Int64.ofInt ((enc5 (wdT B f (tokE B L f)) : Nat) : Int) = Int64.ofInt 0 := z
        rw [ol_eq (by omega) (by omega) (by omega) (by omega)] at z
        omega
      · conv => whnf
        rw [t4]
        have bk : -1 ≤ kmC (kwT B L f) ∧ kmC (kwT B L f) ≤ 22 := by
          by_cases z : kwT B L f < 0
          · rw [show kmC (kwT B L f) = -1 from if_pos z]; omega
          · obtain ⟨m, em⟩ : ∃ m : Nat, kwT B L f = (m : Int) := ⟨(kwT B L f).toNat, by omega⟩
            have : 0 ≤ kmC (m : Int) ∧ kmC (m : Int) ≤ 22 := kmC_bd ⟨m, by omega⟩
            rw [em]; omega
        refine ⟨fun c3 => ?_, fun c3 => ?_⟩ <;> (try simp (disch := omega) only [oi_le, oi_lt, oi_eq, oi_lt0, oi_le0, oi_0lt, oi_0le, oi_eq0, oi_eq1, bI_eq0, bI_ne0, bI_eq1, decide_eq_true_eq, decide_eq_false_iff_not, lc_lt, lc_gt, lc_eq, lc_ge, lc_le, ol_lt, ol_eq, ne_eq, Int.not_lt, Int.not_le, Bool.not_eq_true, Bool.not_eq_false, Decidable.not_not, not_true_eq_false, not_false_eq_true, Bool.true_eq_false, Bool.false_eq_true] at c3) <;> (first | (exfalso; omega) | ((fail_if_success with_reducible refine hJ _ _ _ _ ?_); conv => whnf) | skip)
        · exact no (decide_eq_false (fun z => c3 (kn.mpr z.2.2)))
        · refine hJ _ _ _ _ ?_
          conv => whnf
          rw [show isNm B L f = true from decide_eq_true ⟨k2, h8, kn.mp c3⟩] at h
          exact ⟨Or.inr rfl, h⟩
    · rw [show nmT B L f = 0 from if_neg (fun z => h8 z.2)]
      refine ⟨fun _ => ?_, fun z => absurd (by decide) z⟩
      exact no (decide_eq_false (fun z => h8 z.2.1))
theorem s_skipNm {CALL : CT} (hC : RuleAll CALL) {r : Nat} {σ : AM} {K : AV → AM → Prop} {B : Nat → Int} {L f : Nat} {x : Int} (ha : AC σ B L f) (x1 : -1 ≤ x) (x2 : x ≤ 100) (h1 : isNm B L f = true → x ≠ -1 → ∀ σ' : AM, AC σ' B L (nxT B L f) → ChA tkS tkL σ σ' → K (.inl (Int32.ofInt 1)) σ') (h2 : isNm B L f = false → K (.inl (Int32.ofInt 0)) (fC σ B L f 2)) (h3 : isNm B L f = true → x = -1 → K (.inl (Int32.ofInt 0)) (fC σ B L f 3)) : CALL (r + 3) n_Tape_skipName [.inr (.inr (3, 0)), .inl (Int32.ofInt x)] σ K := by
  refine r_Tape_skipName hC (fun J hJ => ?_)
  refine hJ _ _ _ _ ?_
  conv => whnf
  refine s_isNm hC ha ?_
  conv => whnf
  refine ⟨fun c => ?_, fun c => ?_⟩ <;> (try simp (disch := omega) only [oi_le, oi_lt, oi_eq, oi_lt0, oi_le0, oi_0lt, oi_0le, oi_eq0, oi_eq1, bI_eq0, bI_ne0, bI_eq1, decide_eq_true_eq, decide_eq_false_iff_not, lc_lt, lc_gt, lc_eq, lc_ge, lc_le, ol_lt, ol_eq, ne_eq, Int.not_lt, Int.not_le, Bool.not_eq_true, Bool.not_eq_false, Decidable.not_not, not_true_eq_false, not_false_eq_true, Bool.true_eq_false, Bool.false_eq_true] at c) <;> (first | (exfalso; omega) | ((with_reducible refine hJ _ _ _ _ ?_); conv => whnf) | (conv => whnf))
  · refine ⟨fun c2 => ?_, fun c2 => ?_⟩ <;> (try simp (disch := omega) only [oi_le, oi_lt, oi_eq, oi_lt0, oi_le0, oi_0lt, oi_0le, oi_eq0, oi_eq1, bI_eq0, bI_ne0, bI_eq1, decide_eq_true_eq, decide_eq_false_iff_not, lc_lt, lc_gt, lc_eq, lc_ge, lc_le, ol_lt, ol_eq, ne_eq, Int.not_lt, Int.not_le, Bool.not_eq_true, Bool.not_eq_false, Decidable.not_not, not_true_eq_false, not_false_eq_true, Bool.true_eq_false, Bool.false_eq_true] at c2) <;> (first | (exfalso; omega) | ((with_reducible refine hJ _ _ _ _ ?_); conv => whnf) | (conv => whnf))
    · refine s_adv hC ha (fun σ' k1 k2 => ?_)
      conv => whnf
      exact ⟨Or.inr rfl, h1 c c2 σ' k1 k2⟩
    · refine s_fail hC ha.2.2.2 ?_
      conv => whnf
      exact ⟨Or.inl rfl, h3 c c2⟩
  · refine s_fail hC ha.2.2.2 ?_
    conv => whnf
    exact ⟨Or.inl rfl, h2 c⟩
theorem s_takeCmp {CALL : CT} (hC : RuleAll CALL) {r : Nat} {σ : AM} {K : AV → AM → Prop} {B : Nat → Int} {L f : Nat} (ha : AC σ B L f) (h1 : (kdT B L f = 4 ∧ vlT B L f ≠ 59) → ∀ σ' : AM, AC σ' B L (nxT B L f) → ChA tkS tkL σ σ' → K (.inl (Int32.ofInt (vlT B L f))) σ') (h2 : ¬ (kdT B L f = 4 ∧ vlT B L f ≠ 59) → K (.inl (Int32.ofInt (-1))) (fC σ B L f 2)) : CALL (r + 3) n_Tape_takeCompare [.inr (.inr (3, 0))] σ K := by
  refine r_Tape_takeCompare hC (fun J hJ => ?_)
  refine hJ _ _ _ _ ?_
  conv => whnf
  obtain ⟨hx, hB, hk, t1, t2, t3, t4, t5, t6, t7⟩ := id ha
  have ke := kC_eq (B := B) (L := L) (f := f)
  have vb := (vlT_bd hB t1).2
  have no : ¬ (kdT B L f = 4 ∧ vlT B L f ≠ 59) → J 17 [.inr (.inr (3, 0)), unset] [] σ := by
    intro z
    refine hJ _ _ _ _ ?_
    conv => whnf
    refine s_fail hC ha.2.2.2 ?_
    conv => whnf
    exact h2 z
  rw [t2]
  refine ⟨fun c => ?_, fun c => ?_⟩ <;> (try simp (disch := omega) only [oi_le, oi_lt, oi_eq, oi_lt0, oi_le0, oi_0lt, oi_0le, oi_eq0, oi_eq1, bI_eq0, bI_ne0, bI_eq1, decide_eq_true_eq, decide_eq_false_iff_not, lc_lt, lc_gt, lc_eq, lc_ge, lc_le, ol_lt, ol_eq, ne_eq, Int.not_lt, Int.not_le, Bool.not_eq_true, Bool.not_eq_false, Decidable.not_not, not_true_eq_false, not_false_eq_true, Bool.true_eq_false, Bool.false_eq_true] at c) <;> (first | (exfalso; omega) | ((fail_if_success with_reducible refine hJ _ _ _ _ ?_); conv => whnf) | skip)
  · exact no (by omega)
  · have k4 : kdT B L f = 4 := by omega
    have vb := vb k4
    rw [t5 (Or.inr k4)]
    refine ⟨fun c2 => ?_, fun c2 => ?_⟩ <;> (try simp (disch := omega) only [oi_le, oi_lt, oi_eq, oi_lt0, oi_le0, oi_0lt, oi_0le, oi_eq0, oi_eq1, bI_eq0, bI_ne0, bI_eq1, decide_eq_true_eq, decide_eq_false_iff_not, lc_lt, lc_gt, lc_eq, lc_ge, lc_le, ol_lt, ol_eq, ne_eq, Int.not_lt, Int.not_le, Bool.not_eq_true, Bool.not_eq_false, Decidable.not_not, not_true_eq_false, not_false_eq_true, Bool.true_eq_false, Bool.false_eq_true] at c2) <;> (first | (exfalso; omega) | ((fail_if_success with_reducible refine hJ _ _ _ _ ?_); conv => whnf) | skip)
    · refine hJ _ _ _ _ ?_
      conv => whnf
      rw [t5 (Or.inr k4)]
      refine s_adv hC ha (fun σ' k1 k2 => ?_)
      conv => whnf
      exact h1 ⟨k4, c2⟩ σ' k1 k2
    · exact no (fun z => z.2 c2)
