theorem s_m_isSign {CALL : CT} (hC : RuleAll CALL) {r : Nat} {σ : AM} {K : AV → AM → Prop} {B : Nat → Int} {L f : Nat} {c : Int} (ha : AMo σ B L f) (c1 : 59 ≤ c) (c2 : c ≤ 62) (h : K (.inl (bI (decide (kdT B L f = 4 ∧ vlT B L f = c)))) σ) : CALL (r + 1) n_m_isSign [.inr (.inr (46, 0)), .inl (Int32.ofInt c)] σ K := by
  refine r_m_isSign hC (fun J hJ => ?_)
  refine hJ _ _ _ _ ?_
  conv => whnf
  obtain ⟨hx, hB, ⟨t1, t2, t3, t4, t5⟩, h18⟩ := id ha
  have kb := kdT_bd B L f
  have vb := (vlT_bd hB t1).2
  rw [t2]
  refine ⟨fun z => ?_, fun z => ?_⟩ <;> (try simp (disch := omega) only [oi_le, oi_lt, oi_eq, oi_lt0, oi_le0, oi_0lt, oi_0le, oi_eq0, oi_eq1, bI_eq0, bI_ne0, bI_eq1, decide_eq_true_eq, decide_eq_false_iff_not, lc_lt, lc_gt, lc_eq, lc_ge, lc_le, ol_lt, ol_eq, ne_eq, Int.not_lt, Int.not_le, Bool.not_eq_true, Bool.not_eq_false, Decidable.not_not, not_true_eq_false, not_false_eq_true, Bool.true_eq_false, Bool.false_eq_true] at z) <;> (first | (exfalso; omega) | ((with_reducible refine hJ _ _ _ _ ?_); conv => whnf) | (conv => whnf))
  · refine hJ _ _ _ _ ?_
    conv => whnf
    rw [decide_eq_false (by omega)] at h
    exact ⟨Or.inl rfl, h⟩
  · have vb := vb z
    rw [t4 (Or.inr z)]
    refine ⟨fun z2 => ?_, fun z2 => ?_⟩ <;> (try simp (disch := omega) only [oi_le, oi_lt, oi_eq, oi_lt0, oi_le0, oi_0lt, oi_0le, oi_eq0, oi_eq1, bI_eq0, bI_ne0, bI_eq1, decide_eq_true_eq, decide_eq_false_iff_not, lc_lt, lc_gt, lc_eq, lc_ge, lc_le, ol_lt, ol_eq, ne_eq, Int.not_lt, Int.not_le, Bool.not_eq_true, Bool.not_eq_false, Decidable.not_not, not_true_eq_false, not_false_eq_true, Bool.true_eq_false, Bool.false_eq_true] at z2) <;> (first | (exfalso; omega) | ((with_reducible refine hJ _ _ _ _ ?_); conv => whnf) | (conv => whnf))
    · refine hJ _ _ _ _ ?_
      conv => whnf
      rw [decide_eq_false (by omega)] at h
      exact ⟨Or.inl rfl, h⟩
    · refine hJ _ _ _ _ ?_
      conv => whnf
      rw [decide_eq_true (by omega)] at h
      exact ⟨Or.inr rfl, h⟩
theorem s_m_wantSign {CALL : CT} (hC : RuleAll CALL) {r : Nat} {σ : AM} {K : AV → AM → Prop} {B : Nat → Int} {L f : Nat} (ha : AMo σ B L f) (h1 : (kdT B L f = 4 ∧ vlT B L f = 59) → ∀ σ' : AM, AMo σ' B L (nxT B L f) → Ch tmS σ σ' → K (.inl (Int32.ofInt 1)) σ') (h2 : ¬ (kdT B L f = 4 ∧ vlT B L f = 59) → K (.inl (Int32.ofInt 0)) (fM σ B L f 2)) : CALL (r + 3) n_m_wantSign [.inr (.inr (46, 0)), .inl (Int32.ofInt 59)] σ K := by
  refine r_m_wantSign hC (fun J hJ => ?_)
  refine hJ _ _ _ _ ?_
  conv => whnf
  refine s_m_isSign hC ha (by omega) (by omega) ?_
  conv => whnf
  refine ⟨fun z => ?_, fun z => ?_⟩ <;> (try simp (disch := omega) only [oi_le, oi_lt, oi_eq, oi_lt0, oi_le0, oi_0lt, oi_0le, oi_eq0, oi_eq1, bI_eq0, bI_ne0, bI_eq1, decide_eq_true_eq, decide_eq_false_iff_not, lc_lt, lc_gt, lc_eq, lc_ge, lc_le, ol_lt, ol_eq, ne_eq, Int.not_lt, Int.not_le, Bool.not_eq_true, Bool.not_eq_false, Decidable.not_not, not_true_eq_false, not_false_eq_true, Bool.true_eq_false, Bool.false_eq_true] at z) <;> (first | (exfalso; omega) | ((with_reducible refine hJ _ _ _ _ ?_); conv => whnf) | (conv => whnf))
  · refine s_m_adv hC ha (fun σ' k1 k2 => ?_)
    conv => whnf
    exact ⟨Or.inr rfl, h1 z σ' k1 k2⟩
  · refine s_m_fails hC ha.2.2.1 ha.2.2.2 ?_
    conv => whnf
    exact ⟨Or.inl rfl, h2 z⟩
theorem s_m_inW {CALL : CT} (hC : RuleAll CALL) {r : Nat} {σ : AM} {K : AV → AM → Prop} {B : Nat → Int} {L f : Nat} (ha : AMo σ B L f) (h : K (.inl (Int32.ofInt (kwT B L f))) σ) : CALL (r + 2) n_m_inWords [.inr (.inr (46, 0)), .inr (.inr (67, 1))] σ K := s_m_inWords hC ha.1 ha.2.1 ha.2.2.1 h
theorem s_m_wantWord {CALL : CT} (hC : RuleAll CALL) {r : Nat} {σ : AM} {K : AV → AM → Prop} {B : Nat → Int} {L f n : Nat} {x : Int} (ha : AMo σ B L f) (hn : n < 23) (hx' : x = (n : Int)) (h1 : kwT B L f = (n : Int) → ∀ σ' : AM, AMo σ' B L (nxT B L f) → Ch tmS σ σ' → K (.inl (Int32.ofInt 1)) σ') (h2 : kwT B L f ≠ (n : Int) → K (.inl (Int32.ofInt 0)) (fM σ B L f 2)) : CALL (r + 3) n_m_wantWord [.inr (.inr (46, 0)), .inr (.inr (67, 1)), .inl (Int32.ofInt x)] σ K := by
  refine r_m_wantWord hC (fun J hJ => ?_)
  refine hJ _ _ _ _ ?_
  conv => whnf
  subst hx'
  have kwb := kwT_bd B L f
  refine s_m_inW hC ha ?_
  conv => whnf
  refine ⟨fun z => ?_, fun z => ?_⟩ <;> (try simp (disch := omega) only [oi_le, oi_lt, oi_eq, oi_lt0, oi_le0, oi_0lt, oi_0le, oi_eq0, oi_eq1, bI_eq0, bI_ne0, bI_eq1, decide_eq_true_eq, decide_eq_false_iff_not, lc_lt, lc_gt, lc_eq, lc_ge, lc_le, ol_lt, ol_eq, ne_eq, Int.not_lt, Int.not_le, Bool.not_eq_true, Bool.not_eq_false, Decidable.not_not, not_true_eq_false, not_false_eq_true, Bool.true_eq_false, Bool.false_eq_true] at z) <;> (first | (exfalso; omega) | ((with_reducible refine hJ _ _ _ _ ?_); conv => whnf) | (conv => whnf))
  · refine s_m_adv hC ha (fun σ' k1 k2 => ?_)
    conv => whnf
    exact ⟨Or.inr rfl, h1 z σ' k1 k2⟩
  · refine s_m_fails hC ha.2.2.1 ha.2.2.2 ?_
    conv => whnf
    exact ⟨Or.inl rfl, h2 z⟩
theorem s_m_isThere {CALL : CT} (hC : RuleAll CALL) {r : Nat} {σ : AM} {K : AV → AM → Prop} {B : Nat → Int} {L f n : Nat} {x : Int} (ha : AMo σ B L f) (hn : n < 23) (hx' : x = (n : Int)) (h1 : kwT B L f = (n : Int) → ∀ σ' : AM, AMo σ' B L (nxT B L f) → Ch tmS σ σ' → K (.inl (Int32.ofInt 1)) σ') (h2 : kwT B L f ≠ (n : Int) → K (.inl (Int32.ofInt 0)) σ) : CALL (r + 3) n_m_isThere [.inr (.inr (46, 0)), .inl (Int32.ofInt x)] σ K := by
  refine r_m_isThere hC (fun J hJ => ?_)
  refine hJ _ _ _ _ ?_
  conv => whnf
  subst hx'
  have kwb := kwT_bd B L f
  refine s_m_inW hC ha ?_
  conv => whnf
  refine ⟨fun z => ?_, fun z => ?_⟩ <;> (try simp (disch := omega) only [oi_le, oi_lt, oi_eq, oi_lt0, oi_le0, oi_0lt, oi_0le, oi_eq0, oi_eq1, bI_eq0, bI_ne0, bI_eq1, decide_eq_true_eq, decide_eq_false_iff_not, lc_lt, lc_gt, lc_eq, lc_ge, lc_le, ol_lt, ol_eq, ne_eq, Int.not_lt, Int.not_le, Bool.not_eq_true, Bool.not_eq_false, Decidable.not_not, not_true_eq_false, not_false_eq_true, Bool.true_eq_false, Bool.false_eq_true] at z) <;> (first | (exfalso; omega) | ((with_reducible refine hJ _ _ _ _ ?_); conv => whnf) | (conv => whnf))
  · refine s_m_adv hC ha (fun σ' k1 k2 => ?_)
    conv => whnf
    exact ⟨Or.inr rfl, h1 z σ' k1 k2⟩
  · exact ⟨Or.inl rfl, h2 z⟩
theorem s_m_number {CALL : CT} (hC : RuleAll CALL) {r : Nat} {σ : AM} {K : AV → AM → Prop} {B : Nat → Int} {L f to : Nat} {x lo hi : Int} (ha : AMo σ B L f) (hto : x = (to : Int)) (to2 : to < 3372) (l1 : 0 ≤ lo) (l2 : lo ≤ 10000) (u1 : 0 ≤ hi) (u2 : hi ≤ 10000) (h1 : (kdT B L f = 3 ∧ lo ≤ vlT B L f ∧ vlT B L f ≤ hi) → ∀ σ' : AM, AMo σ' B L (nxT B L f) → Ch (fun t q j => tmS t q j ∨ (t = 47 ∧ q = 0 ∧ j = to)) σ σ' → σ'.1 47 0 to = Int32.ofInt (vlT B L f) → K (.inl (Int32.ofInt 1)) σ') (h2 : kdT B L f ≠ 3 → K (.inl (Int32.ofInt 0)) (fM σ B L f 2)) (h3 : kdT B L f = 3 → ¬ (lo ≤ vlT B L f ∧ vlT B L f ≤ hi) → K (.inl (Int32.ofInt 0)) (fM σ B L f 4)) : CALL (r + 3) n_m_number [.inr (.inr (46, 0)), .inl (Int32.ofInt x), .inl (Int32.ofInt lo), .inl (Int32.ofInt hi)] σ K := by
  refine r_m_number hC (fun J hJ => ?_)
  refine hJ _ _ _ _ ?_
  conv => whnf
  subst hto
  obtain ⟨hx, hB, ⟨t1, t2, t3, t4, t5⟩, h18⟩ := id ha
  have kb := kdT_bd B L f
  have vb := (vlT_bd hB t1).1
  rw [t2]
  refine ⟨fun z => ?_, fun z => ?_⟩ <;> (try simp (disch := omega) only [oi_le, oi_lt, oi_eq, oi_lt0, oi_le0, oi_0lt, oi_0le, oi_eq0, oi_eq1, bI_eq0, bI_ne0, bI_eq1, decide_eq_true_eq, decide_eq_false_iff_not, lc_lt, lc_gt, lc_eq, lc_ge, lc_le, ol_lt, ol_eq, ne_eq, Int.not_lt, Int.not_le, Bool.not_eq_true, Bool.not_eq_false, Decidable.not_not, not_true_eq_false, not_false_eq_true, Bool.true_eq_false, Bool.false_eq_true] at z) <;> (first | (exfalso; omega) | ((with_reducible refine hJ _ _ _ _ ?_); conv => whnf) | (conv => whnf))
  · have vb := vb z
    have bad : ¬ (lo ≤ vlT B L f ∧ vlT B L f ≤ hi) → J 30 [.inr (.inr (46, 0)), .inl (Int32.ofInt (to : Int)), .inl (Int32.ofInt lo), .inl (Int32.ofInt hi)] [] σ := by
      intro q
      refine hJ _ _ _ _ ?_
      conv => whnf
      refine s_m_fails hC ha.2.2.1 h18 ?_
      conv => whnf
      exact ⟨Or.inl rfl, h3 z q⟩
    rw [t4 (Or.inl z)]
    refine ⟨fun c => ?_, fun c => ?_⟩ <;> (try simp (disch := omega) only [oi_le, oi_lt, oi_eq, oi_lt0, oi_le0, oi_0lt, oi_0le, oi_eq0, oi_eq1, bI_eq0, bI_ne0, bI_eq1, decide_eq_true_eq, decide_eq_false_iff_not, lc_lt, lc_gt, lc_eq, lc_ge, lc_le, ol_lt, ol_eq, ne_eq, Int.not_lt, Int.not_le, Bool.not_eq_true, Bool.not_eq_false, Decidable.not_not, not_true_eq_false, not_false_eq_true, Bool.true_eq_false, Bool.false_eq_true] at c) <;> (first | (exfalso; omega) | ((fail_if_success with_reducible refine hJ _ _ _ _ ?_); conv => whnf) | skip)
    · exact bad (by omega)
    · rw [t4 (Or.inl z)]
      refine ⟨fun c2 => ?_, fun c2 => ?_⟩ <;> (try simp (disch := omega) only [oi_le, oi_lt, oi_eq, oi_lt0, oi_le0, oi_0lt, oi_0le, oi_eq0, oi_eq1, bI_eq0, bI_ne0, bI_eq1, decide_eq_true_eq, decide_eq_false_iff_not, lc_lt, lc_gt, lc_eq, lc_ge, lc_le, ol_lt, ol_eq, ne_eq, Int.not_lt, Int.not_le, Bool.not_eq_true, Bool.not_eq_false, Decidable.not_not, not_true_eq_false, not_false_eq_true, Bool.true_eq_false, Bool.false_eq_true] at c2) <;> (first | (exfalso; omega) | ((fail_if_success with_reducible refine hJ _ _ _ _ ?_); conv => whnf) | skip)
      · refine hJ _ _ _ _ ?_
        conv => whnf
        rw [t4 (Or.inl z)]
        refine ⟨(oi_in (by omega) (by omega)).mpr ⟨by omega, by omega⟩, ?_⟩
        conv => whnf
        rw [oi_nat (by omega) (by omega), Int.toNat_natCast]
        have ha2 : AMo (wI σ 47 0 to (Int32.ofInt (vlT B L f))) B L f := ha.ch (S := fun t q j => t = 47) (fun t q j y => by rw [wI1, if_neg (by omega)]) (fun j _ _ => by omega) (fun j => by omega)
        refine s_m_adv hC ha2 (fun σ' k1 k2 => ?_)
        conv => whnf
        exact ⟨Or.inr rfl, h1 ⟨z, by omega, by omega⟩ σ' k1 ((Ch.wI (Or.inr ⟨rfl, rfl, rfl⟩)).tr (k2.mo (fun t q j y => Or.inl y))) (by rw [k2.1 _ _ _ (by unfold tmS; omega), wI_16])⟩
      · exact bad (by omega)
  · refine s_m_fails hC ha.2.2.1 h18 ?_
    conv => whnf
    exact ⟨Or.inl rfl, h2 z⟩
theorem s_m_isNm {CALL : CT} (hC : RuleAll CALL) {r : Nat} {σ : AM} {K : AV → AM → Prop} {B : Nat → Int} {L f : Nat} (ha : AMo σ B L f) (h : K (.inl (bI (isNm B L f))) σ) : CALL (r + 3) n_m_isName [.inr (.inr (46, 0)), .inr (.inr (67, 1))] σ K := by
  refine r_m_isName hC (fun J hJ => ?_)
  refine hJ _ _ _ _ ?_
  conv => whnf
  obtain ⟨hx, hB, ⟨t1, t2, t3, t4, t5⟩, h18⟩ := id ha
  have hL := hB.1
  have kb := kdT_bd B L f
  have kwb := kwT_bd B L f
  have eo := tokE_ok (B := B) t1
  have no : isNm B L f = false → J 35 [.inr (.inr (46, 0)), .inr (.inr (67, 1))] [] σ := by
    intro z
    rw [z] at h
    refine hJ _ _ _ _ ?_
    conv => whnf
    refine hJ _ _ _ _ ?_
    conv => whnf
    exact ⟨Or.inl rfl, h⟩
  rw [t2]
  refine ⟨fun c => ?_, fun c => ?_⟩ <;> (try simp (disch := omega) only [oi_le, oi_lt, oi_eq, oi_lt0, oi_le0, oi_0lt, oi_0le, oi_eq0, oi_eq1, bI_eq0, bI_ne0, bI_eq1, decide_eq_true_eq, decide_eq_false_iff_not, lc_lt, lc_gt, lc_eq, lc_ge, lc_le, ol_lt, ol_eq, ne_eq, Int.not_lt, Int.not_le, Bool.not_eq_true, Bool.not_eq_false, Decidable.not_not, not_true_eq_false, not_false_eq_true, Bool.true_eq_false, Bool.false_eq_true] at c) <;> (first | (exfalso; omega) | ((fail_if_success with_reducible refine hJ _ _ _ _ ?_); conv => whnf) | skip)
  · exact no (decide_eq_false (fun z => c z.1))
  · rw [t5, t3, oi_sub]
    refine ⟨fun c2 => ?_, fun c2 => ?_⟩ <;> (try simp (disch := omega) only [oi_le, oi_lt, oi_eq, oi_lt0, oi_le0, oi_0lt, oi_0le, oi_eq0, oi_eq1, bI_eq0, bI_ne0, bI_eq1, decide_eq_true_eq, decide_eq_false_iff_not, lc_lt, lc_gt, lc_eq, lc_ge, lc_le, ol_lt, ol_eq, ne_eq, Int.not_lt, Int.not_le, Bool.not_eq_true, Bool.not_eq_false, Decidable.not_not, not_true_eq_false, not_false_eq_true, Bool.true_eq_false, Bool.false_eq_true] at c2) <;> (first | (exfalso; omega) | ((fail_if_success with_reducible refine hJ _ _ _ _ ?_); conv => whnf) | skip)
    · exact no (decide_eq_false (fun z => by omega))
    · refine s_m_inW hC ha ?_
      conv => whnf
      refine ⟨fun c3 => ?_, fun c3 => ?_⟩ <;> (try simp (disch := omega) only [oi_le, oi_lt, oi_eq, oi_lt0, oi_le0, oi_0lt, oi_0le, oi_eq0, oi_eq1, bI_eq0, bI_ne0, bI_eq1, decide_eq_true_eq, decide_eq_false_iff_not, lc_lt, lc_gt, lc_eq, lc_ge, lc_le, ol_lt, ol_eq, ne_eq, Int.not_lt, Int.not_le, Bool.not_eq_true, Bool.not_eq_false, Decidable.not_not, not_true_eq_false, not_false_eq_true, Bool.true_eq_false, Bool.false_eq_true] at c3) <;> (first | (exfalso; omega) | ((fail_if_success with_reducible refine hJ _ _ _ _ ?_); conv => whnf) | skip)
      · exact no (decide_eq_false (fun z => c3 z.2.2))
      · refine hJ _ _ _ _ ?_
        conv => whnf
        rw [show isNm B L f = true from decide_eq_true ⟨c, by omega, c3⟩] at h
        exact ⟨Or.inr rfl, h⟩
def wdH (B : Nat → Int) (L f : Nat) : List Nat := wdT B f (tokE B L f)
theorem isNm_ok {B : Nat → Int} {L f : Nat} (h : isNm B L f = true) (hf : f ≤ L) : WordOk (wdH B L f) ∧ kwI (wdH B L f) = none ∧ nmT B L f = ((enc5 (wdH B L f) : Nat) : Int) ∧ tokE B L f - f ≤ 8 ∧ kdT B L f = 2 := by
  unfold isNm at h
  rw [decide_eq_true_eq] at h
  refine ⟨wdT_ok h.1 h.2.1 hf, ?_, if_pos ⟨h.1, h.2.1⟩, h.2.1, h.1⟩
  have h3 := h.2.2
  unfold kwT at h3
  rw [if_pos h.1] at h3
  exact opI_n.mp h3
theorem enc8_lt {w : List Nat} (h : ∀ x, x ∈ w → 97 ≤ x ∧ x ≤ 122) (hl : w.length ≤ 8) : enc8 w < 9223372036854775808 := by
  have key : ∀ w : List Nat, (∀ x, x ∈ w → 97 ≤ x ∧ x ≤ 122) → enc8 w * 2 + 2 ≤ 256 ^ w.length + 1 := by
    refine rev_ind (fun _ => by decide) (fun w c ih hw => ?_)
    have h1 := snoc_ok hw
    have := ih h1.1
    rw [enc8_s, List.length_append, List.length_singleton, Nat.pow_succ]
    omega
  have h1 := key w h
  have h2 : 256 ^ w.length ≤ 256 ^ 8 := Nat.pow_le_pow_right (by omega) hl
  have h3 : (256 : Nat) ^ 8 = 18446744073709551616 := by decide
  omega
theorem s_m_nameHere {CALL : CT} (hC : RuleAll CALL) {r : Nat} {σ : AM} {K : AV → AM → Prop} {B : Nat → Int} {L f : Nat} (ha : AMo σ B L f) (hn : isNm B L f = true) (h : K (.inr (.inl (Int64.ofInt ((enc8 (wdH B L f) : Nat) : Int)))) σ) : CALL (r + 2) n_m_nameHere [.inr (.inr (46, 0))] σ K := by
  refine r_m_nameHere hC (fun J hJ => ?_)
  refine hJ _ _ _ _ ?_
  conv => whnf
  obtain ⟨hx, hB, ⟨t1, t2, t3, t4, t5⟩, h18⟩ := id ha
  have hL := hB.1
  have eo := tokE_ok (B := B) t1
  obtain ⟨wok, -, -, h8, k2⟩ := isNm_ok hn t1
  rw [t3]
  have loop : ∀ (d k : Nat), k + d = tokE B L f → f ≤ k → J 7 [.inr (.inr (46, 0)), .inr (.inl (Int64.ofInt ((enc8 (wdT B f k) : Nat) : Int))), unset, .inl (Int32.ofInt (k : Int))] [] σ := by
    intro d
    induction d with
    | zero =>
      intro k hk hf
      have : k = tokE B L f := by omega
      rw [this]
      refine hJ _ _ _ _ ?_
      conv => whnf
      rw [t5]
      refine ⟨fun c => ?_, fun c => ?_⟩ <;> (try simp (disch := omega) only [oi_le, oi_lt, oi_eq, oi_lt0, oi_le0, oi_0lt, oi_0le, oi_eq0, oi_eq1, bI_eq0, bI_ne0, bI_eq1, decide_eq_true_eq, decide_eq_false_iff_not, lc_lt, lc_gt, lc_eq, lc_ge, lc_le, ol_lt, ol_eq, ne_eq, Int.not_lt, Int.not_le, Bool.not_eq_true, Bool.not_eq_false, Decidable.not_not, not_true_eq_false, not_false_eq_true, Bool.true_eq_false, Bool.false_eq_true] at c) <;> (first | (exfalso; omega) | ((with_reducible refine hJ _ _ _ _ ?_); conv => whnf) | (conv => whnf))
      exact h
    | succ d ih =>
      intro k hk hf
      have nx := ih (k + 1) (by omega) (by omega)
      have kl : k < L := by omega
      have mem : (B k).toNat ∈ wdH B L f := by
        unfold wdH wdT
        exact List.mem_map.mpr ⟨k - f, List.mem_range.mpr (by omega), by rw [show f + (k - f) = k by omega]⟩
      have bk := wok.2.2 _ mem
      have wpre : ∀ x, x ∈ wdT B f k → 97 ≤ x ∧ x ≤ 122 := by
        intro x hx'
        unfold wdT at hx'
        obtain ⟨i, hi, rfl⟩ := List.mem_map.mp hx'
        rw [List.mem_range] at hi
        refine wok.2.2 _ ?_
        unfold wdH wdT
        exact List.mem_map.mpr ⟨i, List.mem_range.mpr (by omega), rfl⟩
      have lt8 := enc_lt enc8 256 0 rfl (fun w c => by rw [enc8_s]; rfl) (by omega) (wdT B f k) wpre
      rw [wdT_len] at lt8
      have p7 : (256 : Nat) ^ (k - f) ≤ 256 ^ 7 := Nat.pow_le_pow_right (by omega) (by omega)
      have p8 : (256 : Nat) ^ 7 = 72057594037927936 := by decide
      refine hJ _ _ _ _ ?_
      conv => whnf
      rw [t5]
      refine ⟨fun c => ?_, fun c => ?_⟩ <;> (try simp (disch := omega) only [oi_le, oi_lt, oi_eq, oi_lt0, oi_le0, oi_0lt, oi_0le, oi_eq0, oi_eq1, bI_eq0, bI_ne0, bI_eq1, decide_eq_true_eq, decide_eq_false_iff_not, lc_lt, lc_gt, lc_eq, lc_ge, lc_le, ol_lt, ol_eq, ne_eq, Int.not_lt, Int.not_le, Bool.not_eq_true, Bool.not_eq_false, Decidable.not_not, not_true_eq_false, not_false_eq_true, Bool.true_eq_false, Bool.false_eq_true] at c) <;> (first | (exfalso; omega) | ((with_reducible refine hJ _ _ _ _ ?_); conv => whnf) | (conv => whnf))
      refine s_m_byteAt hC hx hB (by omega) ?_
      conv => whnf
      rw [btA_lt kl, oi_succ]
      have so := shl_or 8 (Or.inr rfl) (a := enc8 (wdT B f k)) (d := (B k).toNat) (by omega) (by omega)
      rw [show (2 : Nat) ^ 8 = 256 from rfl, ← enc8_s, ← wdT_s B hf] at so
      rw [show B k = (((B k).toNat : Nat) : Int) by omega, oi_l (a := (((B k).toNat : Nat) : Int)) (by omega) (by omega)]
      have so : (Int64.ofInt ((enc8 (wdT B f k) : Nat) : Int) <<< ((Int32.ofInt 8).toInt64 &&& 63)) ||| Int64.ofInt (((B k).toNat : Nat) : Int) = _ := so
      rw [so]
      exact nx
  have := loop (tokE B L f - f) f (by omega) (by omega)
  rw [wdT_0] at this
  exact this
def fnW (tn : Nat → List Nat) (c : Nat) (w : List Nat) : Option Nat := firstF (fun t => decide (tn t = w)) c 0
theorem s_m_findHere {CALL : CT} (hC : RuleAll CALL) {r : Nat} {σ : AM} {K : AV → AM → Prop} {B : Nat → Int} {L f base c : Nat} {tn : Nat → List Nat} (ha : AMo σ B L f) (hn : isNm B L f = true) (hb : base + c ≤ 78) (ht : ∀ t, t < c → WordOk (tn t) ∧ σ.2.1 48 0 (base + t) = Int64.ofInt ((enc8 (tn t) : Nat) : Int)) (h : K (.inl (Int32.ofInt (opI (fnW tn c (wdH B L f))))) σ) : CALL (r + 3) n_m_findHere [.inr (.inr (46, 0)), .inl (Int32.ofInt (base : Int)), .inl (Int32.ofInt (c : Int))] σ K := by
  refine r_m_findHere hC (fun J hJ => ?_)
  refine hJ _ _ _ _ ?_
  conv => whnf
  obtain ⟨wok, -, -, h8, k2⟩ := isNm_ok hn ha.2.2.1.1
  have l1 := enc8_lt wok.2.2 wok.2.1
  have loop : ∀ (d i : Nat), i + d = c → K (.inl (Int32.ofInt (opI (firstF (fun t => decide (tn t = wdH B L f)) d i)))) σ → J 2 [.inr (.inr (46, 0)), .inl (Int32.ofInt (base : Int)), .inl (Int32.ofInt (c : Int)), .inl (Int32.ofInt (i : Int))] [] σ := by
    intro d
    induction d with
    | zero =>
      intro i hi hk
      refine hJ _ _ _ _ ?_
      conv => whnf
      refine ⟨fun c1 => ?_, fun c1 => ?_⟩ <;> (try simp (disch := omega) only [oi_le, oi_lt, oi_eq, oi_lt0, oi_le0, oi_0lt, oi_0le, oi_eq0, oi_eq1, bI_eq0, bI_ne0, bI_eq1, decide_eq_true_eq, decide_eq_false_iff_not, lc_lt, lc_gt, lc_eq, lc_ge, lc_le, ol_lt, ol_eq, ne_eq, Int.not_lt, Int.not_le, Bool.not_eq_true, Bool.not_eq_false, Decidable.not_not, not_true_eq_false, not_false_eq_true, Bool.true_eq_false, Bool.false_eq_true] at c1) <;> (first | (exfalso; omega) | ((with_reducible refine hJ _ _ _ _ ?_); conv => whnf) | (conv => whnf))
      exact hk
    | succ d ih =>
      intro i hi hk
      obtain ⟨wi, ei⟩ := ht i (by omega)
      have l2 := enc8_lt wi.2.2 wi.2.1
      rw [firstF] at hk
      refine hJ _ _ _ _ ?_
      conv => whnf
      refine ⟨fun c1 => ?_, fun c1 => ?_⟩ <;> (try simp (disch := omega) only [oi_le, oi_lt, oi_eq, oi_lt0, oi_le0, oi_0lt, oi_0le, oi_eq0, oi_eq1, bI_eq0, bI_ne0, bI_eq1, decide_eq_true_eq, decide_eq_false_iff_not, lc_lt, lc_gt, lc_eq, lc_ge, lc_le, ol_lt, ol_eq, ne_eq, Int.not_lt, Int.not_le, Bool.not_eq_true, Bool.not_eq_false, Decidable.not_not, not_true_eq_false, not_false_eq_true, Bool.true_eq_false, Bool.false_eq_true] at c1) <;> (first | (exfalso; omega) | ((with_reducible refine hJ _ _ _ _ ?_); conv => whnf) | (conv => whnf))
      rw [oi_add]
      refine ⟨(oi_in (by omega) (by omega)).mpr ⟨by omega, by omega⟩, ?_⟩
      conv => whnf
      rw [oi_nat (by omega) (by omega), show ((base : Int) + (i : Int)).toNat = base + i by omega, ei]
      refine s_m_nameHere hC ha hn ?_
      conv => whnf
      refine ⟨fun z => ?_, fun z => ?_⟩
      · rw [lc_eq, ol_eq (by omega) (by omega) (by omega) (by omega)] at z
        refine hJ _ _ _ _ ?_
        conv => whnf
        rw [oi_succ]
        refine ih (i + 1) (by omega) ?_
        rw [decide_eq_false (fun q => z (by rw [q])), if_neg (by decide)] at hk
        exact hk
      · rw [lc_eq, ol_eq (by omega) (by omega) (by omega) (by omega)] at z
        conv => whnf
        rw [decide_eq_true (enc8_inj wi.2.2 wok.2.2 (by omega)), if_pos rfl] at hk
        exact hk
  exact loop c 0 (by omega) h
theorem fnW_bd (tn : Nat → List Nat) (c : Nat) (w : List Nat) : -1 ≤ opI (fnW tn c w) ∧ opI (fnW tn c w) < (c : Int) ∧ (opI (fnW tn c w) = -1 ↔ fnW tn c w = none) ∧ (0 ≤ opI (fnW tn c w) → tn (opI (fnW tn c w)).toNat = w) := by
  cases e : fnW tn c w with
  | none => exact ⟨by decide, by show (-1 : Int) < c; omega, ⟨fun _ => rfl, fun _ => rfl⟩, fun z => absurd z (by decide)⟩
  | some t =>
    have := firstF_lt e
    refine ⟨by show (-1 : Int) ≤ (t : Int); omega, by show (t : Int) < (c : Int); omega, ⟨fun z => by have z : (t : Int) = -1 := z; omega, fun z => by cases z⟩, fun _ => ?_⟩
    show tn (t : Int).toNat = w
    rw [Int.toNat_natCast]
    exact of_decide_eq_true this.2
/-- what the class finds by the token's name -/
theorem cfind {B : Nat → Int} {L f c : Nat} {tn : Nat → List Nat} {nm : Nat → Int64} (hf : f ≤ L) (ht : ∀ t, t < c → WordOk (tn t) ∧ nm t = Int64.ofInt ((enc5 (tn t) : Nat) : Int)) : (isNm B L f = true → firstF (fun t => decide (nm t = Int64.ofInt (nmT B L f))) c 0 = fnW tn c (wdH B L f)) ∧ ((∀ t, t < c → kwI (tn t) = none) → isNm B L f = false → firstF (fun t => decide (nm t = Int64.ofInt (nmT B L f))) c 0 = none) := by
  constructor
  · intro hn
    obtain ⟨wok, -, en, -⟩ := isNm_ok hn hf
    have l1 := enc5_lt wok
    refine firstF_cong (fun j _ hj => ?_)
    obtain ⟨wj, ej⟩ := ht j (by omega)
    have l2 := enc5_lt wj
    rw [ej, en]
    refine decide_eq_decide.mpr ⟨fun z => ?_, fun z => by rw [z]⟩
    rw [ol_eq (by omega) (by omega) (by omega) (by omega)] at z
    exact enc5_inj wj.2.2 wok.2.2 (by omega)
  · intro hk hn
    refine firstF_no.mpr (fun j _ hj => ?_)
    obtain ⟨wj, ej⟩ := ht j (by omega)
    have l2 := enc5_lt wj
    have l3 := enc5_pos wj
    rw [ej]
    refine decide_eq_false (fun z => ?_)
    by_cases c2 : kdT B L f = 2 ∧ tokE B L f - f ≤ 8
    · have en : nmT B L f = ((enc5 (wdH B L f) : Nat) : Int) := if_pos c2
      have wok : WordOk (wdH B L f) := wdT_ok c2.1 c2.2 hf
      have l1 := enc5_lt wok
      rw [en, ol_eq (by omega) (by omega) (by omega) (by omega)] at z
      have e := enc5_inj wj.2.2 wok.2.2 (by omega)
      have kn := hk j (by omega)
      rw [e] at kn
      have : isNm B L f = true := by
        refine decide_eq_true ⟨c2.1, c2.2, ?_⟩
        unfold kwT
        rw [if_pos c2.1]
        show opI (kwI (wdH B L f)) = -1
        rw [kn]
        rfl
      rw [this] at hn
      cases hn
    · rw [show nmT B L f = 0 from if_neg c2, ol_eq (by omega) (by omega) (by omega) (by omega)] at z
      omega
theorem s_tfind {CALL : CT} (hC : RuleAll CALL) {r : Nat} {σ : AM} {K : AV → AM → Prop} {q c : Nat} {x : Int64} (hc : σ.1 23 q 3 = Int32.ofInt (c : Int)) (c6 : c ≤ 6) (h : K (.inl (Int32.ofInt (opI (firstF (fun t => decide (σ.2.1 24 q t = x)) c 0)))) σ) : CALL (r + 1) n_Topics_find [.inr (.inr (23, q)), .inr (.inl x)] σ K := by
  refine r_Topics_find hC (fun J hJ => ?_)
  refine hJ _ _ _ _ ?_
  conv => whnf
  have loop : ∀ (d i : Nat), i + d = c → K (.inl (Int32.ofInt (opI (firstF (fun t => decide (σ.2.1 24 q t = x)) d i)))) σ → J 2 [.inr (.inr (23, q)), .inr (.inl x), unset, .inl (Int32.ofInt (i : Int))] [] σ := by
    intro d
    induction d with
    | zero =>
      intro i hi hk
      refine hJ _ _ _ _ ?_
      conv => whnf
      rw [hc]
      refine ⟨fun c1 => ?_, fun c1 => ?_⟩ <;> (try simp (disch := omega) only [oi_le, oi_lt, oi_eq, oi_lt0, oi_le0, oi_0lt, oi_0le, oi_eq0, oi_eq1, bI_eq0, bI_ne0, bI_eq1, decide_eq_true_eq, decide_eq_false_iff_not, lc_lt, lc_gt, lc_eq, lc_ge, lc_le, ol_lt, ol_eq, ne_eq, Int.not_lt, Int.not_le, Bool.not_eq_true, Bool.not_eq_false, Decidable.not_not, not_true_eq_false, not_false_eq_true, Bool.true_eq_false, Bool.false_eq_true] at c1) <;> (first | (exfalso; omega) | ((with_reducible refine hJ _ _ _ _ ?_); conv => whnf) | (conv => whnf))
      exact hk
    | succ d ih =>
      intro i hi hk
      rw [firstF] at hk
      refine hJ _ _ _ _ ?_
      conv => whnf
      rw [hc]
      refine ⟨fun c1 => ?_, fun c1 => ?_⟩ <;> (try simp (disch := omega) only [oi_le, oi_lt, oi_eq, oi_lt0, oi_le0, oi_0lt, oi_0le, oi_eq0, oi_eq1, bI_eq0, bI_ne0, bI_eq1, decide_eq_true_eq, decide_eq_false_iff_not, lc_lt, lc_gt, lc_eq, lc_ge, lc_le, ol_lt, ol_eq, ne_eq, Int.not_lt, Int.not_le, Bool.not_eq_true, Bool.not_eq_false, Decidable.not_not, not_true_eq_false, not_false_eq_true, Bool.true_eq_false, Bool.false_eq_true] at c1) <;> (first | (exfalso; omega) | ((with_reducible refine hJ _ _ _ _ ?_); conv => whnf) | (conv => whnf))
      refine ⟨(oi_in (by omega) (by omega)).mpr ⟨by omega, by omega⟩, ?_⟩
      conv => whnf
      rw [oi_nat (by omega) (by omega), Int.toNat_natCast]
      refine ⟨fun z => ?_, fun z => ?_⟩
      · rw [lc_eq] at z
        refine hJ _ _ _ _ ?_
        conv => whnf
        rw [oi_succ]
        refine ih (i + 1) (by omega) ?_
        rw [decide_eq_false z, if_neg (by decide)] at hk
        exact hk
      · rw [lc_eq] at z
        conv => whnf
        rw [decide_eq_true z, if_pos rfl] at hk
        exact hk
  exact loop c 0 (by omega) h
theorem s_mfind {CALL : CT} (hC : RuleAll CALL) {r : Nat} {σ : AM} {K : AV → AM → Prop} {q c : Nat} {x : Int64} (hc : σ.1 27 q 8 = Int32.ofInt (c : Int)) (c6 : c ≤ 7) (h : K (.inl (Int32.ofInt (opI (firstF (fun t => decide (σ.2.1 28 q t = x)) c 0)))) σ) : CALL (r + 1) n_Monks_find [.inr (.inr (27, q)), .inr (.inl x)] σ K := by
  refine r_Monks_find hC (fun J hJ => ?_)
  refine hJ _ _ _ _ ?_
  conv => whnf
  have loop : ∀ (d i : Nat), i + d = c → K (.inl (Int32.ofInt (opI (firstF (fun t => decide (σ.2.1 28 q t = x)) d i)))) σ → J 2 [.inr (.inr (27, q)), .inr (.inl x), unset, .inl (Int32.ofInt (i : Int))] [] σ := by
    intro d
    induction d with
    | zero =>
      intro i hi hk
      refine hJ _ _ _ _ ?_
      conv => whnf
      rw [hc]
      refine ⟨fun c1 => ?_, fun c1 => ?_⟩ <;> (try simp (disch := omega) only [oi_le, oi_lt, oi_eq, oi_lt0, oi_le0, oi_0lt, oi_0le, oi_eq0, oi_eq1, bI_eq0, bI_ne0, bI_eq1, decide_eq_true_eq, decide_eq_false_iff_not, lc_lt, lc_gt, lc_eq, lc_ge, lc_le, ol_lt, ol_eq, ne_eq, Int.not_lt, Int.not_le, Bool.not_eq_true, Bool.not_eq_false, Decidable.not_not, not_true_eq_false, not_false_eq_true, Bool.true_eq_false, Bool.false_eq_true] at c1) <;> (first | (exfalso; omega) | ((with_reducible refine hJ _ _ _ _ ?_); conv => whnf) | (conv => whnf))
      exact hk
    | succ d ih =>
      intro i hi hk
      rw [firstF] at hk
      refine hJ _ _ _ _ ?_
      conv => whnf
      rw [hc]
      refine ⟨fun c1 => ?_, fun c1 => ?_⟩ <;> (try simp (disch := omega) only [oi_le, oi_lt, oi_eq, oi_lt0, oi_le0, oi_0lt, oi_0le, oi_eq0, oi_eq1, bI_eq0, bI_ne0, bI_eq1, decide_eq_true_eq, decide_eq_false_iff_not, lc_lt, lc_gt, lc_eq, lc_ge, lc_le, ol_lt, ol_eq, ne_eq, Int.not_lt, Int.not_le, Bool.not_eq_true, Bool.not_eq_false, Decidable.not_not, not_true_eq_false, not_false_eq_true, Bool.true_eq_false, Bool.false_eq_true] at c1) <;> (first | (exfalso; omega) | ((with_reducible refine hJ _ _ _ _ ?_); conv => whnf) | (conv => whnf))
      refine ⟨(oi_in (by omega) (by omega)).mpr ⟨by omega, by omega⟩, ?_⟩
      conv => whnf
      rw [oi_nat (by omega) (by omega), Int.toNat_natCast]
      refine ⟨fun z => ?_, fun z => ?_⟩
      · rw [lc_eq] at z
        refine hJ _ _ _ _ ?_
        conv => whnf
        rw [oi_succ]
        refine ih (i + 1) (by omega) ?_
        rw [decide_eq_false z, if_neg (by decide)] at hk
        exact hk
      · rw [lc_eq] at z
        conv => whnf
        rw [decide_eq_true z, if_pos rfl] at hk
        exact hk
  exact loop c 0 (by omega) h
