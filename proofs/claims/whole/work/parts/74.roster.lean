/-! the roster -/
def entF (h : Nat → Int) (m t : Int) : Nat → Int := up (up (up h (73 + 2 * (h 2).toNat) m) (74 + 2 * (h 2).toNat) t) 2 (h 2 + 1)
theorem entF_lo {h : Nat → Int} {m t : Int} {j : Nat} (h2 : j ≠ 2) (hj : j < 73) : entF h m t j = h j := by
  unfold entF
  rw [up_ne h2, up_ne (by omega), up_ne (by omega)]
theorem entF_2 {h : Nat → Int} {m t : Int} : entF h m t 2 = h 2 + 1 := up_eq
theorem entF_m {h : Nat → Int} {m t : Int} : entF h m t (73 + 2 * (h 2).toNat) = m := by
  unfold entF
  rw [up_ne (by omega), up_ne (by omega), up_eq]
theorem entF_t {h : Nat → Int} {m t : Int} : entF h m t (74 + 2 * (h 2).toNat) = t := by
  unfold entF
  rw [up_ne (by omega), up_eq]
theorem entF_o {h : Nat → Int} {m t : Int} {j : Nat} (h2 : j ≠ 2) (h3 : j ≠ 73 + 2 * (h 2).toNat) (h4 : j ≠ 74 + 2 * (h 2).toNat) : entF h m t j = h j := by
  unfold entF
  rw [up_ne h2, up_ne h4, up_ne h3]
theorem entF_WP {h : Nat → Int} {m t : Int} (hw : WP h) (h12 : h 2 < 12) (hm : 0 ≤ m ∧ m < h 1) (ht : 0 ≤ t ∧ t < h 0) : WP (entF h m t) := by
  obtain ⟨⟨b, g2, g3, g4⟩, w6, w7⟩ := hw
  have e : ∀ {j}, j ≠ 2 → j < 73 → entF h m t j = h j := fun a c => entF_lo a c
  refine ⟨⟨?_, fun k hk => ?_, fun k hk => ?_, fun k hk => ?_⟩, ?_, ?_⟩
  · rw [e (by omega : 0 ≠ 2) (by omega), e (by omega : 1 ≠ 2) (by omega), entF_2, e (by omega : 3 ≠ 2) (by omega), e (by omega : 4 ≠ 2) (by omega), e (by omega : 5 ≠ 2) (by omega), e (by omega : 6 ≠ 2) (by omega), e (by omega : 7 ≠ 2) (by omega), e (by omega : 8 ≠ 2) (by omega), e (by omega : 9 ≠ 2) (by omega)]
    omega
  · rw [e (by omega : 0 ≠ 2) (by omega)] at hk
    rw [e (by omega : 12 + 2 * k ≠ 2) (by omega), e (by omega : 13 + 2 * k ≠ 2) (by omega)]
    exact g2 k hk
  · rw [e (by omega : 1 ≠ 2) (by omega)] at hk
    rw [e (by omega : 24 + 7 * k ≠ 2) (by omega), e (by omega : 25 + 7 * k ≠ 2) (by omega), e (by omega : 26 + 7 * k ≠ 2) (by omega), e (by omega : 27 + 7 * k ≠ 2) (by omega), e (by omega : 28 + 7 * k ≠ 2) (by omega), e (by omega : 29 + 7 * k ≠ 2) (by omega), e (by omega : 30 + 7 * k ≠ 2) (by omega), e (by omega : 5 ≠ 2) (by omega)]
    exact g3 k hk
  · rw [entF_2] at hk
    rw [e (by omega : 0 ≠ 2) (by omega), e (by omega : 1 ≠ 2) (by omega)]
    by_cases ek : k = (h 2).toNat
    · subst ek
      rw [entF_m, entF_t]
      omega
    · rw [entF_o (by omega) (by omega) (by omega), entF_o (by omega) (by omega) (by omega)]
      exact g4 k (by omega)
  · rw [e (by omega : 6 ≠ 2) (by omega), e (by omega : 5 ≠ 2) (by omega)]
    exact w6
  · rw [e (by omega : 7 ≠ 2) (by omega), e (by omega : 5 ≠ 2) (by omega)]
    exact w7
theorem HRep.ros {σ σ' : AM} {n : Nat} {h h' : Nat → Int} (hr : HRep σ n h) (hw : WF h) (ej : ∀ j, j ≠ 2 → j < 73 → h' j = h j) (ew : ∀ t j, 22 ≤ t → t ≤ 34 → ¬ (t = 22 ∧ j = 4) → σ'.1 t n j = σ.1 t n j) (e2 : σ'.1 22 n 4 = Int32.ofInt (h' 2)) (ee : ∀ e : Nat, (e : Int) < h' 2 → σ'.1 35 n e = Int32.ofInt (h' (73 + 2 * e)) ∧ σ'.1 36 n e = Int32.ofInt (h' (74 + 2 * e))) : HRep σ' n h' := by
  obtain ⟨q0, q1, q2, q3, q4, q5, q6, q7, q8, q9, qa, qt, qm, qe⟩ := hr
  have b0 : h 0 ≤ 6 := hw.1.2.1
  have b1 : h 1 ≤ 7 := hw.1.2.2.2.1
  clear hw
  refine ⟨?_, ?_, e2, ?_, ?_, ?_, ?_, ?_, ?_, ?_, ?_, fun t ht => ?_, fun m hm => ?_, ee⟩
  · rw [ew 23 3 (by omega) (by omega) (by omega), ej 0 (by omega) (by omega), q0]
  · rw [ew 27 8 (by omega) (by omega) (by omega), ej 1 (by omega) (by omega), q1]
  · rw [ew 22 5 (by omega) (by omega) (by omega), ej 3 (by omega) (by omega), q3]
  · rw [ew 22 6 (by omega) (by omega) (by omega), ej 4 (by omega) (by omega), q4]
  · rw [ew 22 7 (by omega) (by omega) (by omega), ej 5 (by omega) (by omega), q5]
  · rw [ew 22 8 (by omega) (by omega) (by omega), ej 6 (by omega) (by omega), q6]
  · rw [ew 22 9 (by omega) (by omega) (by omega), ej 7 (by omega) (by omega), q7]
  · rw [ew 22 10 (by omega) (by omega) (by omega), ej 8 (by omega) (by omega), q8]
  · rw [ew 22 11 (by omega) (by omega) (by omega), ej 9 (by omega) (by omega), q9]
  · rw [ew 27 7 (by omega) (by omega) (by omega), qa]
    congr 2
    exact (awS_cg (ej 1 (by omega) (by omega)) (fun m hm => ej _ (by omega) (by omega))).symm
  · rw [ej 0 (by omega) (by omega)] at ht
    rw [ew 25 t (by omega) (by omega) (by omega), ew 26 t (by omega) (by omega) (by omega), ej _ (by omega) (by omega), ej _ (by omega) (by omega)]
    exact qt t ht
  · rw [ej 1 (by omega) (by omega)] at hm
    rw [ew 29 m (by omega) (by omega) (by omega), ew 30 m (by omega) (by omega) (by omega), ew 31 m (by omega) (by omega) (by omega), ew 32 m (by omega) (by omega) (by omega), ew 33 m (by omega) (by omega) (by omega), ew 34 m (by omega) (by omega) (by omega), ej (24 + 7 * m) (by omega) (by omega), ej (25 + 7 * m) (by omega) (by omega), ej (26 + 7 * m) (by omega) (by omega), ej (28 + 7 * m) (by omega) (by omega), ej (29 + 7 * m) (by omega) (by omega), ej (30 + 7 * m) (by omega) (by omega)]
    exact qm m hm
theorem entF_HRep {σ : AM} {n : Nat} {h : Nat → Int} {m t : Int} (hr : HRep σ n h) (hw : WF h) : HRep (wI (wI (wI σ 35 n (h 2).toNat (Int32.ofInt m)) 36 n (h 2).toNat (Int32.ofInt t)) 22 n 4 (Int32.ofInt (h 2 + 1))) n (entF h m t) := by
  have b2 : 0 ≤ h 2 := hw.1.2.2.2.2.1
  refine hr.ros hw (fun j a b => entF_lo a b) (fun t j a b c => ?_) ?_ (fun e he => ?_)
  · rw [wI1, if_neg (by omega), wI1, if_neg (by omega), wI1, if_neg (by omega)]
  · rw [entF_2, wI_16]
  · rw [entF_2] at he
    obtain ⟨-, -, -, -, -, -, -, -, -, -, -, -, -, qe⟩ := hr
    by_cases ek : e = (h 2).toNat
    · subst ek
      rw [entF_m, entF_t, wI1, if_neg (by omega), wI1, if_neg (by omega), wI_16, wI1, if_neg (by omega), wI_16]
      exact ⟨rfl, rfl⟩
    · rw [entF_o (by omega) (by omega) (by omega), entF_o (by omega) (by omega) (by omega), wI1, if_neg (by omega), wI1, if_neg (by omega), wI1, if_neg (by omega), wI1, if_neg (by omega), wI1, if_neg (by omega), wI1, if_neg (by omega)]
      exact qe e (by omega)
theorem s_addEntry {CALL : CT} (hC : RuleAll CALL) {r : Nat} {σ : AM} {K : AV → AM → Prop} {n : Nat} {h0 : Nat → Int} {m t : Int} (hr : HRep σ n h0) (hw : WF h0) (h12 : h0 2 < 12) (h : ∀ σ' : AM, HRep σ' n (entF h0 m t) → Ch (cE n) σ σ' → K unset σ') : CALL (r + 1) n_House_addEntry [.inr (.inr (22, n)), .inl (Int32.ofInt m), .inl (Int32.ofInt t)] σ K := by
  refine r_House_addEntry hC (fun J hJ => ?_)
  refine hJ _ _ _ _ ?_
  conv => whnf
  have b := hw.1
  obtain ⟨q0, q1, q2, q3, q4, q5, q6, q7, q8, q9, qa, qt, qm, qe⟩ := id hr
  rw [q2]
  refine ⟨fun c => ?_, fun c => ?_⟩ <;> (try simp (disch := omega) only [oi_le, oi_lt, oi_eq, oi_lt0, oi_le0, oi_0lt, oi_0le, oi_eq0, oi_eq1, bI_eq0, bI_ne0, bI_eq1, decide_eq_true_eq, decide_eq_false_iff_not, lc_lt, lc_gt, lc_eq, lc_ge, lc_le, ol_lt, ol_eq, ne_eq, Int.not_lt, Int.not_le, Bool.not_eq_true, Bool.not_eq_false, Decidable.not_not, not_true_eq_false, not_false_eq_true, Bool.true_eq_false, Bool.false_eq_true] at c) <;> (first | (exfalso; omega) | ((with_reducible refine hJ _ _ _ _ ?_); conv => whnf) | (conv => whnf))
  rw [q2]
  refine ⟨(oi_in (by omega) (by omega)).mpr ⟨by omega, by omega⟩, ?_⟩
  conv => whnf
  rw [oi_nat (by omega) (by omega), wI1, if_neg (by omega), q2]
  refine ⟨(oi_in (by omega) (by omega)).mpr ⟨by omega, by omega⟩, ?_⟩
  conv => whnf
  rw [oi_nat (by omega) (by omega), wI1, if_neg (by omega), wI1, if_neg (by omega), q2, oi_add]
  exact h _ (entF_HRep hr hw) (((Ch.wI (cE_h (by omega) (by omega))).tr (Ch.wI (cE_h (by omega) (by omega)))).tr (Ch.wI (cE_h (by omega) (by omega))))
theorem op_enter {CALL : CT} (hC : RuleAll CALL) {r : Nat} {σ : AM} {K : AV → AV → AM → Prop} (hR : Rel σ) {z y : Int} (z1 : -2147483648 ≤ z) (z2 : z < 2147483648) (y1 : -2147483648 ≤ y) (y2 : y < 2147483648) (h : ∀ v σ2, Rel σ2 → K v v σ2) : CALL (r + 20) n_x_enter [.inr (.inr (1, 0)), .inl (Int32.ofInt z), .inl (Int32.ofInt y)] σ (fun v σ1 => CALL (r + 20) n_m_enter [.inr (.inr (46, 0)), .inl (Int32.ofInt z), .inl (Int32.ofInt y)] σ1 (fun v' σ2 => K v v' σ2)) := by
  obtain ⟨⟨n, p, h0, ha⟩, hb, hst⟩ := id hR
  have hn := ha.nh
  obtain ⟨n45, hnn, hr, hm, ⟨hw, hw67⟩, h59⟩ := id hn
  have b := hw.1
  have hsy : SymE h0 := ha.2.2.2.2.2.2.2.2.2.2.1
  obtain ⟨q0, q1, q2, q3, q4, q5, q6, q7, q8, q9, qa, qt, qm, qe⟩ := id hr
  have bad : ¬ ((0 ≤ z ∧ z < h0 1) ∧ (0 ≤ y ∧ y < h0 0)) → CALL (r + 20) n_m_enter [.inr (.inr (46, 0)), .inl (Int32.ofInt z), .inl (Int32.ofInt y)] (wI σ 1 0 16 (Int32.ofInt 1)) (fun v' σ2 => K (.inl (Int32.ofInt (-1))) v' σ2) := by
    intro hbd
    refine r_m_enter hC (fun J hJ => ?_)
    have fin : J 17 [.inr (.inr (46, 0)), .inl (Int32.ofInt z), .inl (Int32.ofInt y), unset] [] (wI σ 1 0 16 (Int32.ofInt 1)) := by
      refine hJ _ _ _ _ ?_
      conv => whnf
      refine s_m_refuse hC ?_
      conv => whnf
      exact h _ _ (hR.sc done2.1 done2.2)
    refine hJ _ _ _ _ ?_
    conv => whnf
    refine s_m_isMonk hC hm.c hw (by omega) (by omega) ?_
    conv => whnf
    refine ⟨fun c2 => ?_, fun c2 => ?_⟩ <;> (try simp (disch := omega) only [oi_le, oi_lt, oi_eq, oi_lt0, oi_le0, oi_0lt, oi_0le, oi_eq0, oi_eq1, bI_eq0, bI_ne0, bI_eq1, decide_eq_true_eq, decide_eq_false_iff_not, lc_lt, lc_gt, lc_eq, lc_ge, lc_le, ol_lt, ol_eq, ne_eq, Int.not_lt, Int.not_le, Bool.not_eq_true, Bool.not_eq_false, Decidable.not_not, not_true_eq_false, not_false_eq_true, Bool.true_eq_false, Bool.false_eq_true] at c2) <;> (first | (exfalso; omega) | ((fail_if_success with_reducible refine hJ _ _ _ _ ?_); conv => whnf) | skip)
    · exact fin
    · rw [oi_l (by omega) (by omega)]
      refine s_m_isTopic hC hm.c hw (by omega) (by omega) ?_
      conv => whnf
      refine ⟨fun c3 => ?_, fun c3 => ?_⟩ <;> (try simp (disch := omega) only [oi_le, oi_lt, oi_eq, oi_lt0, oi_le0, oi_0lt, oi_0le, oi_eq0, oi_eq1, bI_eq0, bI_ne0, bI_eq1, decide_eq_true_eq, decide_eq_false_iff_not, lc_lt, lc_gt, lc_eq, lc_ge, lc_le, ol_lt, ol_eq, ne_eq, Int.not_lt, Int.not_le, Bool.not_eq_true, Bool.not_eq_false, Decidable.not_not, not_true_eq_false, not_false_eq_true, Bool.true_eq_false, Bool.false_eq_true] at c3) <;> (first | (exfalso; omega) | ((fail_if_success with_reducible refine hJ _ _ _ _ ?_); conv => whnf) | skip)
      exact fin
  refine r_x_enter hC (fun J hJ => ?_)
  have c16 : ¬ ((0 ≤ z ∧ z < h0 1) ∧ (0 ≤ y ∧ y < h0 0)) → J 16 [.inr (.inr (1, 0)), .inl (Int32.ofInt z), .inl (Int32.ofInt y)] [] σ := by
    intro hbd
    refine hJ _ _ _ _ ?_
    conv => whnf
    refine s_none hC ?_
    conv => whnf
    exact bad hbd
  refine hJ _ _ _ _ ?_
  conv => whnf
  refine s_isMonk hC hn z1 z2 ?_
  conv => whnf
  refine ⟨fun c => ?_, fun c => ?_⟩ <;> (try simp (disch := omega) only [oi_le, oi_lt, oi_eq, oi_lt0, oi_le0, oi_0lt, oi_0le, oi_eq0, oi_eq1, bI_eq0, bI_ne0, bI_eq1, decide_eq_true_eq, decide_eq_false_iff_not, lc_lt, lc_gt, lc_eq, lc_ge, lc_le, ol_lt, ol_eq, ne_eq, Int.not_lt, Int.not_le, Bool.not_eq_true, Bool.not_eq_false, Decidable.not_not, not_true_eq_false, not_false_eq_true, Bool.true_eq_false, Bool.false_eq_true] at c) <;> (first | (exfalso; omega) | ((fail_if_success with_reducible refine hJ _ _ _ _ ?_); conv => whnf) | skip)
  · exact c16 (by omega)
  · refine s_isTopic hC hn y1 y2 ?_
    conv => whnf
    refine ⟨fun c2 => ?_, fun c2 => ?_⟩ <;> (try simp (disch := omega) only [oi_le, oi_lt, oi_eq, oi_lt0, oi_le0, oi_0lt, oi_0le, oi_eq0, oi_eq1, bI_eq0, bI_ne0, bI_eq1, decide_eq_true_eq, decide_eq_false_iff_not, lc_lt, lc_gt, lc_eq, lc_ge, lc_le, ol_lt, ol_eq, ne_eq, Int.not_lt, Int.not_le, Bool.not_eq_true, Bool.not_eq_false, Decidable.not_not, not_true_eq_false, not_false_eq_true, Bool.true_eq_false, Bool.false_eq_true] at c2) <;> (first | (exfalso; omega) | ((fail_if_success with_reducible refine hJ _ _ _ _ ?_); conv => whnf) | skip)
    · have top : ∀ (τ : AM) (K' : AV → AM → Prop), M0 τ h0 → (h0 2 = 12 → K' (.inl (Int32.ofInt (-1))) (wI τ 46 0 2 (Int32.ofInt 4))) → (h0 2 < 12 → ∀ τ' : AM, M0 τ' (entF h0 z y) → Ch mE τ τ' → K' (.inl (Int32.ofInt (h0 2 + 1))) (wI τ' 46 0 2 (Int32.ofInt 0))) → CALL (r + 20) n_m_enter [.inr (.inr (46, 0)), .inl (Int32.ofInt z), .inl (Int32.ofInt y)] τ K' := by
        intro τ K' hmt k1 k2
        refine r_m_enter hC (fun J hJ => ?_)
        refine hJ _ _ _ _ ?_
        conv => whnf
        refine s_m_isMonk hC hmt hw (by omega) (by omega) ?_
        conv => whnf
        refine ⟨fun c3 => ?_, fun c3 => ?_⟩ <;> (try simp (disch := omega) only [oi_le, oi_lt, oi_eq, oi_lt0, oi_le0, oi_0lt, oi_0le, oi_eq0, oi_eq1, bI_eq0, bI_ne0, bI_eq1, decide_eq_true_eq, decide_eq_false_iff_not, lc_lt, lc_gt, lc_eq, lc_ge, lc_le, ol_lt, ol_eq, ne_eq, Int.not_lt, Int.not_le, Bool.not_eq_true, Bool.not_eq_false, Decidable.not_not, not_true_eq_false, not_false_eq_true, Bool.true_eq_false, Bool.false_eq_true] at c3) <;> (first | (exfalso; omega) | ((with_reducible refine hJ _ _ _ _ ?_); conv => whnf) | (conv => whnf))
        rw [oi_l (by omega) (by omega)]
        refine s_m_isTopic hC hmt hw (by omega) (by omega) ?_
        conv => whnf
        refine ⟨fun c4 => ?_, fun c4 => ?_⟩ <;> (try simp (disch := omega) only [oi_le, oi_lt, oi_eq, oi_lt0, oi_le0, oi_0lt, oi_0le, oi_eq0, oi_eq1, bI_eq0, bI_ne0, bI_eq1, decide_eq_true_eq, decide_eq_false_iff_not, lc_lt, lc_gt, lc_eq, lc_ge, lc_le, ol_lt, ol_eq, ne_eq, Int.not_lt, Int.not_le, Bool.not_eq_true, Bool.not_eq_false, Decidable.not_not, not_true_eq_false, not_false_eq_true, Bool.true_eq_false, Bool.false_eq_true] at c4) <;> (first | (exfalso; omega) | ((with_reducible refine hJ _ _ _ _ ?_); conv => whnf) | (conv => whnf))
        refine ⟨(oi_in (by omega) (by omega)).mpr ⟨by omega, by omega⟩, ?_⟩
        conv => whnf
        rw [show (Int32.ofInt 2).toNatClampNeg = 2 from rfl, hmt 2 (by omega)]
        refine ⟨fun c5 => ?_, fun c5 => ?_⟩ <;> (try simp (disch := omega) only [oi_le, oi_lt, oi_eq, oi_lt0, oi_le0, oi_0lt, oi_0le, oi_eq0, oi_eq1, bI_eq0, bI_ne0, bI_eq1, decide_eq_true_eq, decide_eq_false_iff_not, lc_lt, lc_gt, lc_eq, lc_ge, lc_le, ol_lt, ol_eq, ne_eq, Int.not_lt, Int.not_le, Bool.not_eq_true, Bool.not_eq_false, Decidable.not_not, not_true_eq_false, not_false_eq_true, Bool.true_eq_false, Bool.false_eq_true] at c5) <;> (first | (exfalso; omega) | ((with_reducible refine hJ _ _ _ _ ?_); conv => whnf) | (conv => whnf))
        · refine ⟨(oi_in (by omega) (by omega)).mpr ⟨by omega, by omega⟩, ?_⟩
          conv => whnf
          rw [show (Int32.ofInt 2).toNatClampNeg = 2 from rfl, hmt 2 (by omega)]
          refine s_m_entryRow hC ?_
          conv => whnf
          refine ⟨(oi_in (by omega) (by omega)).mpr ⟨by omega, by omega⟩, ?_⟩
          conv => whnf
          rw [oi_add]
          refine ⟨(oi_in (by omega) (by omega)).mpr ⟨by omega, by omega⟩, ?_⟩
          conv => whnf
          refine ⟨(oi_in (by omega) (by omega)).mpr ⟨by omega, by omega⟩, ?_⟩
          conv => whnf
          rw [oi_nat (by omega) (by omega), oi_nat (by omega) (by omega), show (73 + 2 * h0 2).toNat = 73 + 2 * (h0 2).toNat by omega, show (73 + 2 * h0 2 + 1).toNat = 74 + 2 * (h0 2).toNat by omega, show (Int32.ofInt 2).toNatClampNeg = 2 from rfl, show (wI (wI τ 47 0 (73 + 2 * (h0 2).toNat) (Int32.ofInt z)) 47 0 (74 + 2 * (h0 2).toNat) (Int32.ofInt y)).1 47 0 2 = Int32.ofInt (h0 2) by rw [wI1, if_neg (by omega), wI1, if_neg (by omega), hmt 2 (by omega)], oi_add]
          refine ⟨(oi_in (by omega) (by omega)).mpr ⟨by omega, by omega⟩, ?_⟩
          conv => whnf
          refine ⟨(oi_in (by omega) (by omega)).mpr ⟨by omega, by omega⟩, ?_⟩
          conv => whnf
          rw [show (Int32.ofInt 2).toNatClampNeg = 2 from rfl, wI_16]
          refine s_m_gives hC ?_
          conv => whnf
          exact k2 (by omega) _ hmt.upd.upd.upd (((Ch.wI (mE_a (by omega))).tr (Ch.wI (mE_a (by omega)))).tr (Ch.wI (mE_a (by omega))))
        · refine s_m_refuse hC ?_
          conv => whnf
          exact k1 c5
      refine hJ _ _ _ _ ?_
      conv => whnf
      rw [hnn]
      refine ⟨by omega, ?_⟩
      conv => whnf
      rw [q2]
      refine ⟨fun c3 => ?_, fun c3 => ?_⟩ <;> (try simp (disch := omega) only [oi_le, oi_lt, oi_eq, oi_lt0, oi_le0, oi_0lt, oi_0le, oi_eq0, oi_eq1, bI_eq0, bI_ne0, bI_eq1, decide_eq_true_eq, decide_eq_false_iff_not, lc_lt, lc_gt, lc_eq, lc_ge, lc_le, ol_lt, ol_eq, ne_eq, Int.not_lt, Int.not_le, Bool.not_eq_true, Bool.not_eq_false, Decidable.not_not, not_true_eq_false, not_false_eq_true, Bool.true_eq_false, Bool.false_eq_true] at c3) <;> (first | (exfalso; omega) | ((with_reducible refine hJ _ _ _ _ ?_); conv => whnf) | (conv => whnf))
      · rw [hnn]
        refine ⟨by omega, ?_⟩
        conv => whnf
        refine s_addEntry hC hr hw c3 (fun σ1 g1 g2 => ?_)
        conv => whnf
        rw [g2.2, hnn]
        refine ⟨by omega, ?_⟩
        conv => whnf
        rw [g1.2.2.1, entF_2]
        refine s_give hC ?_
        conv => whnf
        have hm1 : M0 (wI σ1 1 0 16 (Int32.ofInt 0)) h0 := M0.c (hm.ch g2 (fun j hj => by unfold cE HS; omega))
        refine top _ _ hm1 (fun e => by omega) (fun _ τ' f1 f2 => ?_)
        exact h _ _ (Rel.edit2 ha hb g1.c (M0.fd f1) (entF_WP ⟨hw, hw67⟩ c3 c c2) (by rw [entF_lo (by omega) (by omega)]; omega) (hsy.cg (entF_lo (by omega) (by omega)) (fun m _ => entF_lo (by omega) (by omega))) (entF_lo (by omega) (by omega)) (entF_lo (by omega) (by omega)) (entF_lo (by omega) (by omega)) (g2.tr (Ch.wI cE_c)) (f2.tr (Ch.wI mE_s)) wI_16 wI_16)
      · refine s_none hC ?_
        conv => whnf
        refine top _ _ hm.c (fun _ => ?_) (fun e => by omega)
        exact h _ _ (hR.sc done2.1 done2.2)
    · exact c16 (by omega)
/-- an entry is struck -/
def strF (h : Nat → Int) (e : Nat) : Nat → Int := fun j => if j = 2 then h 2 - 1 else if 73 + 2 * e ≤ j ∧ (j : Int) < 73 + 2 * (h 2 - 1) then h (j + 2) else h j
theorem strF_lo {h : Nat → Int} {e j : Nat} (h2 : j ≠ 2) (hj : j < 73) : strF h e j = h j := by
  unfold strF
  rw [if_neg h2, if_neg (by omega)]
theorem strF_2 {h : Nat → Int} {e : Nat} : strF h e 2 = h 2 - 1 := if_pos rfl
theorem strF_i {h : Nat → Int} {e j : Nat} (h1 : 73 + 2 * e ≤ j) (h2 : (j : Int) < 73 + 2 * (h 2 - 1)) : strF h e j = h (j + 2) := by
  unfold strF
  rw [if_neg (by omega), if_pos ⟨h1, h2⟩]
theorem strF_o {h : Nat → Int} {e j : Nat} (h0 : j ≠ 2) (h1 : ¬ (73 + 2 * e ≤ j ∧ (j : Int) < 73 + 2 * (h 2 - 1))) : strF h e j = h j := by
  unfold strF
  rw [if_neg h0, if_neg h1]
theorem strF_WP {h : Nat → Int} {e : Nat} (hw : WP h) (he : (e : Int) < h 2) : WP (strF h e) := by
  obtain ⟨⟨b, g2, g3, g4⟩, w6, w7⟩ := hw
  have el : ∀ {j}, j ≠ 2 → j < 73 → strF h e j = h j := fun a c => strF_lo a c
  refine ⟨⟨?_, fun k hk => ?_, fun k hk => ?_, fun k hk => ?_⟩, ?_, ?_⟩
  · rw [el (by omega : 0 ≠ 2) (by omega), el (by omega : 1 ≠ 2) (by omega), strF_2, el (by omega : 3 ≠ 2) (by omega), el (by omega : 4 ≠ 2) (by omega), el (by omega : 5 ≠ 2) (by omega), el (by omega : 6 ≠ 2) (by omega), el (by omega : 7 ≠ 2) (by omega), el (by omega : 8 ≠ 2) (by omega), el (by omega : 9 ≠ 2) (by omega)]
    omega
  · rw [el (by omega : 0 ≠ 2) (by omega)] at hk
    rw [el (by omega : 12 + 2 * k ≠ 2) (by omega), el (by omega : 13 + 2 * k ≠ 2) (by omega)]
    exact g2 k hk
  · rw [el (by omega : 1 ≠ 2) (by omega)] at hk
    rw [el (by omega : 24 + 7 * k ≠ 2) (by omega), el (by omega : 25 + 7 * k ≠ 2) (by omega), el (by omega : 26 + 7 * k ≠ 2) (by omega), el (by omega : 27 + 7 * k ≠ 2) (by omega), el (by omega : 28 + 7 * k ≠ 2) (by omega), el (by omega : 29 + 7 * k ≠ 2) (by omega), el (by omega : 30 + 7 * k ≠ 2) (by omega), el (by omega : 5 ≠ 2) (by omega)]
    exact g3 k hk
  · rw [strF_2] at hk
    rw [el (by omega : 0 ≠ 2) (by omega), el (by omega : 1 ≠ 2) (by omega)]
    by_cases ek : e ≤ k
    · rw [strF_i (by omega) (by omega), strF_i (by omega) (by omega), show 73 + 2 * k + 2 = 73 + 2 * (k + 1) by omega, show 74 + 2 * k + 2 = 74 + 2 * (k + 1) by omega]
      exact g4 (k + 1) (by omega)
    · rw [strF_o (by omega) (by omega), strF_o (by omega) (by omega)]
      exact g4 k (by omega)
  · rw [el (by omega : 6 ≠ 2) (by omega), el (by omega : 5 ≠ 2) (by omega)]
    exact w6
  · rw [el (by omega : 7 ≠ 2) (by omega), el (by omega : 5 ≠ 2) (by omega)]
    exact w7
theorem s_dropEntry {CALL : CT} (hC : RuleAll CALL) {r : Nat} {σ : AM} {K : AV → AM → Prop} {n e : Nat} {h0 : Nat → Int} (hr : HRep σ n h0) (hw : WF h0) (he : (e : Int) < h0 2) (h : ∀ σ' : AM, HRep σ' n (strF h0 e) → Ch (cE n) σ σ' → K unset σ') : CALL (r + 1) n_House_dropEntry [.inr (.inr (22, n)), .inl (Int32.ofInt e)] σ K := by
  refine r_House_dropEntry hC (fun J hJ => ?_)
  refine hJ _ _ _ _ ?_
  conv => whnf
  have b := hw.1
  obtain ⟨q0, q1, q2, q3, q4, q5, q6, q7, q8, q9, qa, qt, qm, qe⟩ := id hr
  have loop : ∀ (k i : Nat) (σi : AM), e + 1 ≤ i → i + k = (h0 2).toNat → Ch (cE n) σ σi → (∀ t j, t ≠ 35 → t ≠ 36 → σi.1 t n j = σ.1 t n j) → (∀ t j, t = 35 ∨ t = 36 → σi.1 t n j = if e ≤ j ∧ j + 1 < i then σ.1 t n (j + 1) else σ.1 t n j) → J 4 [.inr (.inr (22, n)), .inl (Int32.ofInt (e : Int)), .inl (Int32.ofInt (i : Int))] [] σi := by
    intro k
    induction k with
    | zero =>
      intro i σi h1 h2 hc g1 g2
      refine hJ _ _ _ _ ?_
      conv => whnf
      rw [g1 22 4 (by decide) (by decide), q2]
      refine ⟨fun c => ?_, fun c => ?_⟩ <;> (try simp (disch := omega) only [oi_le, oi_lt, oi_eq, oi_lt0, oi_le0, oi_0lt, oi_0le, oi_eq0, oi_eq1, bI_eq0, bI_ne0, bI_eq1, decide_eq_true_eq, decide_eq_false_iff_not, lc_lt, lc_gt, lc_eq, lc_ge, lc_le, ol_lt, ol_eq, ne_eq, Int.not_lt, Int.not_le, Bool.not_eq_true, Bool.not_eq_false, Decidable.not_not, not_true_eq_false, not_false_eq_true, Bool.true_eq_false, Bool.false_eq_true] at c) <;> (first | (exfalso; omega) | ((with_reducible refine hJ _ _ _ _ ?_); conv => whnf) | (conv => whnf))
      rw [g1 22 4 (by decide) (by decide), q2, oi_sub]
      refine h _ ?_ (hc.tr (Ch.wI (cE_h (by omega) (by omega))))
      refine hr.ros hw (fun j a b => strF_lo a b) (fun t j a b cc => ?_) ?_ (fun k hk => ?_)
      · rw [wI1, if_neg (by omega), g1 t j (by omega) (by omega)]
      · rw [strF_2, wI_16]
      · rw [strF_2] at hk
        rw [wI1, if_neg (by omega), wI1, if_neg (by omega), g2 35 k (Or.inl rfl), g2 36 k (Or.inr rfl)]
        by_cases ek : e ≤ k
        · rw [strF_i (by omega) (by omega), strF_i (by omega) (by omega), if_pos ⟨ek, by omega⟩, if_pos ⟨ek, by omega⟩]
          exact qe (k + 1) (by omega)
        · rw [strF_o (by omega) (by omega), strF_o (by omega) (by omega), if_neg (fun z => ek z.1), if_neg (fun z => ek z.1)]
          exact qe k (by omega)
    | succ k ih =>
      intro i σi h1 h2 hc g1 g2
      refine hJ _ _ _ _ ?_
      conv => whnf
      rw [g1 22 4 (by decide) (by decide), q2]
      refine ⟨fun c => ?_, fun c => ?_⟩ <;> (try simp (disch := omega) only [oi_le, oi_lt, oi_eq, oi_lt0, oi_le0, oi_0lt, oi_0le, oi_eq0, oi_eq1, bI_eq0, bI_ne0, bI_eq1, decide_eq_true_eq, decide_eq_false_iff_not, lc_lt, lc_gt, lc_eq, lc_ge, lc_le, ol_lt, ol_eq, ne_eq, Int.not_lt, Int.not_le, Bool.not_eq_true, Bool.not_eq_false, Decidable.not_not, not_true_eq_false, not_false_eq_true, Bool.true_eq_false, Bool.false_eq_true] at c) <;> (first | (exfalso; omega) | ((with_reducible refine hJ _ _ _ _ ?_); conv => whnf) | (conv => whnf))
      rw [oi_sub]
      refine ⟨(oi_in (by omega) (by omega)).mpr ⟨by omega, by omega⟩, ?_⟩
      conv => whnf
      refine ⟨(oi_in (by omega) (by omega)).mpr ⟨by omega, by omega⟩, ?_⟩
      conv => whnf
      rw [oi_nat (by omega) (by omega), oi_nat (by omega) (by omega), Int.toNat_natCast, show ((i : Int) - 1).toNat = i - 1 by omega, g2 35 i (Or.inl rfl), if_neg (by omega), oi_sub]
      refine ⟨(oi_in (by omega) (by omega)).mpr ⟨by omega, by omega⟩, ?_⟩
      conv => whnf
      refine ⟨(oi_in (by omega) (by omega)).mpr ⟨by omega, by omega⟩, ?_⟩
      conv => whnf
      rw [oi_nat (by omega) (by omega), show ((i : Int) - 1).toNat = i - 1 by omega, wI1, if_neg (by omega), g2 36 i (Or.inr rfl), if_neg (by omega)]
      rw [oi_succ]
      refine ih (i + 1) _ (by omega) (by omega) ((hc.tr (Ch.wI (cE_h (by omega) (by omega)))).tr (Ch.wI (cE_h (by omega) (by omega)))) (fun t j t1 t2 => ?_) (fun t j t1 => ?_)
      · simp only [wI1]
        rw [if_neg (by omega), if_neg (by omega), g1 t j t1 t2]
      · simp only [wI1]
        have g := g2 t j t1
        by_cases ej : j = i - 1
        · subst ej
          rcases t1 with rfl | rfl
          · rw [if_neg (by omega), if_pos ⟨rfl, trivial, rfl⟩, if_pos ⟨by omega, by omega⟩, show i - 1 + 1 = i by omega]
          · rw [if_pos ⟨rfl, trivial, rfl⟩, if_pos ⟨by omega, by omega⟩, show i - 1 + 1 = i by omega]
        · rw [if_neg (by omega), if_neg (by omega), g]
          by_cases c5 : e ≤ j ∧ j + 1 < i
          · rw [if_pos c5, if_pos ⟨c5.1, by omega⟩]
          · rw [if_neg c5, if_neg (by omega)]
  rw [oi_succ]
  exact loop ((h0 2).toNat - (e + 1)) (e + 1) σ (by omega) (by omega) Ch.rf (fun _ _ _ _ => rfl) (fun t j _ => by rw [if_neg (by omega)])
theorem s_m_strikeL {CALL : CT} (hC : RuleAll CALL) {r : Nat} {σ : AM} {K : AV → AM → Prop} {e : Nat} {h0 : Nat → Int} (hm : M0 σ h0) (hw : WF h0) (he : (e : Int) < h0 2) (h : ∀ σ' : AM, M0 σ' (strF h0 e) → Ch mE σ σ' → K (.inl (Int32.ofInt (h0 2 - 1))) (wI σ' 46 0 2 (Int32.ofInt 0))) : CALL (r + 2) n_m_strike [.inr (.inr (46, 0)), .inl (Int32.ofInt e)] σ K := by
  refine r_m_strike hC (fun J hJ => ?_)
  refine hJ _ _ _ _ ?_
  conv => whnf
  have b := hw.1
  refine s_m_isEntry hC hm hw (by omega) (by omega) ?_
  conv => whnf
  refine ⟨fun c => ?_, fun c => ?_⟩ <;> (try simp (disch := omega) only [oi_le, oi_lt, oi_eq, oi_lt0, oi_le0, oi_0lt, oi_0le, oi_eq0, oi_eq1, bI_eq0, bI_ne0, bI_eq1, decide_eq_true_eq, decide_eq_false_iff_not, lc_lt, lc_gt, lc_eq, lc_ge, lc_le, ol_lt, ol_eq, ne_eq, Int.not_lt, Int.not_le, Bool.not_eq_true, Bool.not_eq_false, Decidable.not_not, not_true_eq_false, not_false_eq_true, Bool.true_eq_false, Bool.false_eq_true] at c) <;> (first | (exfalso; omega) | ((with_reducible refine hJ _ _ _ _ ?_); conv => whnf) | (conv => whnf))
  refine ⟨(oi_in (by omega) (by omega)).mpr ⟨by omega, by omega⟩, ?_⟩
  conv => whnf
  refine ⟨(oi_in (by omega) (by omega)).mpr ⟨by omega, by omega⟩, ?_⟩
  conv => whnf
  rw [show (Int32.ofInt 2).toNatClampNeg = 2 from rfl, hm 2 (by omega), oi_sub]
  refine s_m_entryRow hC ?_
  conv => whnf
  have loop : ∀ (k i : Nat) (σi : AM), 73 + 2 * e ≤ i → (i : Int) + k = 73 + 2 * (h0 2 - 1) → Ch mE σ σi → (∀ j, j < 97 → σi.1 47 0 j = if j = 2 then Int32.ofInt (h0 2 - 1) else if 73 + 2 * e ≤ j ∧ j < i then Int32.ofInt (h0 (j + 2)) else Int32.ofInt (h0 j)) → J 29 [.inr (.inr (46, 0)), .inl (Int32.ofInt (e : Int)), .inl (Int32.ofInt (i : Int))] [] σi := by
    intro k
    induction k with
    | zero =>
      intro i σi h1 h2 hc g
      have e2 : σi.1 47 0 2 = Int32.ofInt (h0 2 - 1) := by rw [g 2 (by omega), if_pos rfl]
      refine hJ _ _ _ _ ?_
      conv => whnf
      refine ⟨(oi_in (by omega) (by omega)).mpr ⟨by omega, by omega⟩, ?_⟩
      conv => whnf
      rw [show (Int32.ofInt 2).toNatClampNeg = 2 from rfl, e2]
      refine s_m_entryRow hC ?_
      conv => whnf
      refine ⟨fun c2 => ?_, fun c2 => ?_⟩ <;> (try simp (disch := omega) only [oi_le, oi_lt, oi_eq, oi_lt0, oi_le0, oi_0lt, oi_0le, oi_eq0, oi_eq1, bI_eq0, bI_ne0, bI_eq1, decide_eq_true_eq, decide_eq_false_iff_not, lc_lt, lc_gt, lc_eq, lc_ge, lc_le, ol_lt, ol_eq, ne_eq, Int.not_lt, Int.not_le, Bool.not_eq_true, Bool.not_eq_false, Decidable.not_not, not_true_eq_false, not_false_eq_true, Bool.true_eq_false, Bool.false_eq_true] at c2) <;> (first | (exfalso; omega) | ((with_reducible refine hJ _ _ _ _ ?_); conv => whnf) | (conv => whnf))
      refine ⟨(oi_in (by omega) (by omega)).mpr ⟨by omega, by omega⟩, ?_⟩
      conv => whnf
      rw [show (Int32.ofInt 2).toNatClampNeg = 2 from rfl, e2]
      refine s_m_gives hC ?_
      conv => whnf
      refine h _ (fun j hj => ?_) hc
      rw [g j hj]
      by_cases j2 : j = 2
      · rw [if_pos j2, j2, strF_2]
      · rw [if_neg j2]
        by_cases j3 : 73 + 2 * e ≤ j ∧ j < i
        · rw [if_pos j3, strF_i j3.1 (by omega)]
        · rw [if_neg j3, strF_o j2 (by omega)]
    | succ k ih =>
      intro i σi h1 h2 hc g
      have e2 : σi.1 47 0 2 = Int32.ofInt (h0 2 - 1) := by rw [g 2 (by omega), if_pos rfl]
      refine hJ _ _ _ _ ?_
      conv => whnf
      refine ⟨(oi_in (by omega) (by omega)).mpr ⟨by omega, by omega⟩, ?_⟩
      conv => whnf
      rw [show (Int32.ofInt 2).toNatClampNeg = 2 from rfl, e2]
      refine s_m_entryRow hC ?_
      conv => whnf
      refine ⟨fun c2 => ?_, fun c2 => ?_⟩ <;> (try simp (disch := omega) only [oi_le, oi_lt, oi_eq, oi_lt0, oi_le0, oi_0lt, oi_0le, oi_eq0, oi_eq1, bI_eq0, bI_ne0, bI_eq1, decide_eq_true_eq, decide_eq_false_iff_not, lc_lt, lc_gt, lc_eq, lc_ge, lc_le, ol_lt, ol_eq, ne_eq, Int.not_lt, Int.not_le, Bool.not_eq_true, Bool.not_eq_false, Decidable.not_not, not_true_eq_false, not_false_eq_true, Bool.true_eq_false, Bool.false_eq_true] at c2) <;> (first | (exfalso; omega) | ((with_reducible refine hJ _ _ _ _ ?_); conv => whnf) | (conv => whnf))
      rw [oi_add]
      refine ⟨(oi_in (by omega) (by omega)).mpr ⟨by omega, by omega⟩, ?_⟩
      conv => whnf
      refine ⟨(oi_in (by omega) (by omega)).mpr ⟨by omega, by omega⟩, ?_⟩
      conv => whnf
      rw [oi_nat (by omega) (by omega), oi_nat (by omega) (by omega), Int.toNat_natCast, show ((i : Int) + 2).toNat = i + 2 by omega, g (i + 2) (by omega), if_neg (by omega), if_neg (by omega), oi_succ]
      refine ih (i + 1) _ (by omega) (by omega) (hc.tr (Ch.wI (mE_a (by omega)))) (fun j hj => ?_)
      rw [wI1]
      by_cases ej : j = i
      · subst ej
        rw [if_pos ⟨rfl, rfl, rfl⟩, if_neg (by omega), if_pos ⟨h1, by omega⟩]
      · rw [if_neg (by omega), g j hj]
        by_cases j2 : j = 2
        · rw [if_pos j2, if_pos j2]
        · rw [if_neg j2, if_neg j2]
          by_cases j3 : 73 + 2 * e ≤ j ∧ j < i
          · rw [if_pos j3, if_pos ⟨j3.1, by omega⟩]
          · rw [if_neg j3, if_neg (by omega)]
  rw [show (73 + 2 * (e : Int)) = ((73 + 2 * e : Nat) : Int) by omega]
  refine loop (2 * ((h0 2).toNat - 1 - e)) (73 + 2 * e) _ (by omega) (by omega) (Ch.wI (mE_a (by omega))) (fun j hj => ?_)
  rw [wI1]
  by_cases j2 : j = 2
  · rw [if_pos ⟨rfl, rfl, j2⟩, if_pos j2]
  · rw [if_neg (fun z => j2 z.2.2), if_neg j2, if_neg (by omega), hm j hj]
theorem op_strike {CALL : CT} (hC : RuleAll CALL) {r : Nat} {σ : AM} {K : AV → AV → AM → Prop} (hR : Rel σ) {z : Int} (z1 : -2147483648 ≤ z) (z2 : z < 2147483648) (h : ∀ v σ2, Rel σ2 → K v v σ2) : CALL (r + 20) n_x_strike [.inr (.inr (1, 0)), .inl (Int32.ofInt z)] σ (fun v σ1 => CALL (r + 20) n_m_strike [.inr (.inr (46, 0)), .inl (Int32.ofInt z)] σ1 (fun v' σ2 => K v v' σ2)) := by
  obtain ⟨⟨n, p, h0, ha⟩, hb, hst⟩ := id hR
  have hn := ha.nh
  obtain ⟨n45, hnn, hr, hm, ⟨hw, hw67⟩, h59⟩ := id hn
  have b := hw.1
  have hsy : SymE h0 := ha.2.2.2.2.2.2.2.2.2.2.1
  obtain ⟨q0, q1, q2, q3, q4, q5, q6, q7, q8, q9, qa, qt, qm, qe⟩ := id hr
  refine r_x_strike hC (fun J hJ => ?_)
  refine hJ _ _ _ _ ?_
  conv => whnf
  rw [hnn]
  refine ⟨by omega, ?_⟩
  conv => whnf
  rw [q2, oi_sub]
  refine s_withinI hC (by omega) (by omega) (by omega) (by omega) (by omega) (by omega) ?_
  conv => whnf
  refine ⟨fun c => ?_, fun c => ?_⟩ <;> (try simp (disch := omega) only [oi_le, oi_lt, oi_eq, oi_lt0, oi_le0, oi_0lt, oi_0le, oi_eq0, oi_eq1, bI_eq0, bI_ne0, bI_eq1, decide_eq_true_eq, decide_eq_false_iff_not, lc_lt, lc_gt, lc_eq, lc_ge, lc_le, ol_lt, ol_eq, ne_eq, Int.not_lt, Int.not_le, Bool.not_eq_true, Bool.not_eq_false, Decidable.not_not, not_true_eq_false, not_false_eq_true, Bool.true_eq_false, Bool.false_eq_true] at c) <;> (first | (exfalso; omega) | ((with_reducible refine hJ _ _ _ _ ?_); conv => whnf) | (conv => whnf))
  · obtain ⟨e, rfl⟩ : ∃ e : Nat, z = (e : Int) := ⟨z.toNat, by omega⟩
    rw [hnn]
    refine ⟨by omega, ?_⟩
    conv => whnf
    refine s_dropEntry hC hr hw (by omega) (fun σ1 g1 g2 => ?_)
    conv => whnf
    rw [g2.2, hnn]
    refine ⟨by omega, ?_⟩
    conv => whnf
    rw [g1.2.2.1, strF_2]
    refine s_give hC ?_
    conv => whnf
    have hm1 : M0 (wI σ1 1 0 16 (Int32.ofInt 0)) h0 := M0.c (hm.ch g2 (fun j hj => by unfold cE HS; omega))
    refine s_m_strikeL hC hm1 hw (by omega) (fun τ' f1 f2 => ?_)
    exact h _ _ (Rel.edit2 ha hb g1.c (M0.fd f1) (strF_WP ⟨hw, hw67⟩ (by omega)) (by rw [strF_lo (by omega) (by omega)]; omega) (hsy.cg (strF_lo (by omega) (by omega)) (fun m _ => strF_lo (by omega) (by omega))) (strF_lo (by omega) (by omega)) (strF_lo (by omega) (by omega)) (strF_lo (by omega) (by omega)) (g2.tr (Ch.wI cE_c)) (f2.tr (Ch.wI mE_s)) wI_16 wI_16)
  · refine s_none hC ?_
    conv => whnf
    refine r_m_strike hC (fun J hJ => ?_)
    refine hJ _ _ _ _ ?_
    conv => whnf
    refine s_m_isEntry hC hm.c hw (by omega) (by omega) ?_
    conv => whnf
    refine ⟨fun c2 => ?_, fun c2 => ?_⟩ <;> (try simp (disch := omega) only [oi_le, oi_lt, oi_eq, oi_lt0, oi_le0, oi_0lt, oi_0le, oi_eq0, oi_eq1, bI_eq0, bI_ne0, bI_eq1, decide_eq_true_eq, decide_eq_false_iff_not, lc_lt, lc_gt, lc_eq, lc_ge, lc_le, ol_lt, ol_eq, ne_eq, Int.not_lt, Int.not_le, Bool.not_eq_true, Bool.not_eq_false, Decidable.not_not, not_true_eq_false, not_false_eq_true, Bool.true_eq_false, Bool.false_eq_true] at c2) <;> (first | (exfalso; omega) | ((with_reducible refine hJ _ _ _ _ ?_); conv => whnf) | (conv => whnf))
    refine s_m_refuse hC ?_
    conv => whnf
    exact h _ _ (hR.sc done2.1 done2.2)
