/-- pauses behind the days, by so many seeds -/
def sumP (d : Nat → Nat → Int) (s : Nat) (h : Nat → Int) (g : Int) : Nat → Nat
  | 0 => 0
  | i + 1 => sumP d s h g i + ((runF d s 300 0 (fun _ => 0) (h, g + i, 0)).1.1 6).toNat
def CM (σ σ' : AM) : Prop := (∀ t r j, ¬ (HS 0 t r ∨ ((t = 19 ∨ t = 20) ∧ r = 1)) → σ'.1 t r j = σ.1 t r j) ∧ (∀ t r j, ¬ HS 0 t r → σ'.2.1 t r j = σ.2.1 t r j) ∧ (∀ t r j, t ≠ 19 → σ'.2.2 t r j = σ.2.2 t r j)
def MM (t q j : Nat) : Prop := lvS2' t q j ∨ (t = 47 ∧ q = 0 ∧ 2325 ≤ j ∧ j < 2422)
theorem op_mean {CALL : CT} (hC : RuleAll CALL) {r : Nat} {σ : AM} {K : AV → AV → AM → Prop} (hR : Rel σ) {z w : Int} (z1 : -2147483648 ≤ z) (z2 : z < 2147483648) (w1 : -2147483648 ≤ w) (w2 : w < 2147483648) (h : ∀ v σ2, Rel σ2 → K v v σ2) : CALL (r + 20) n_x_mean [.inr (.inr (1, 0)), .inl (Int32.ofInt z), .inl (Int32.ofInt w)] σ (fun v σ1 => CALL (r + 20) n_m_mean [.inr (.inr (46, 0)), .inl (Int32.ofInt z), .inl (Int32.ofInt w)] σ1 (fun v' σ2 => K v v' σ2)) := by
  obtain ⟨⟨n, p, h0, ha⟩, hb, hst⟩ := id hR
  have hn := ha.nh
  obtain ⟨n45, hnn, hr, hm, ⟨hw, hw67⟩, h59⟩ := id hn
  have b := hw.1
  have hsy : SymE h0 := ha.2.2.2.2.2.2.2.2.2.2.1
  obtain ⟨q0, q1, q2, q3, q4, q5, q6, q7, q8, q9, qa, qt, qm, qe⟩ := id hr
  obtain ⟨hn45, hp2, r1, r2, r3, r4, g1, g2, g3, g4, g5, g6, g7⟩ := id ha
  have bad : ¬ ((0 ≤ z ∧ z ≤ 9999) ∧ (1 ≤ w ∧ w ≤ 20) ∧ z + w - 1 ≤ 9999) → CALL (r + 20) n_m_mean [.inr (.inr (46, 0)), .inl (Int32.ofInt z), .inl (Int32.ofInt w)] (wI σ 1 0 16 (Int32.ofInt 1)) (fun v' σ2 => K (.inl (Int32.ofInt 0)) v' σ2) := by
    intro hbd
    refine r_m_mean hC (fun J hJ => ?_)
    have fin : J 35 [.inr (.inr (46, 0)), .inl (Int32.ofInt z), .inl (Int32.ofInt w), unset, unset, unset] [] (wI σ 1 0 16 (Int32.ofInt 1)) := by
      refine hJ _ _ _ _ ?_
      conv => whnf
      refine s_m_is hC (x := 1) (by omega) (by omega) ?_
      conv => whnf
      refine ⟨Or.inl rfl, ?_⟩
      exact h _ _ (hR.sc done2.1 done2.2)
    refine hJ _ _ _ _ ?_
    conv => whnf
    rw [oi_l (by omega) (by omega)]
    refine s_m_isFrom hC (by omega) (by omega) (by omega) (by omega) (by omega) (by omega) ?_
    conv => whnf
    refine ⟨fun c2 => ?_, fun c2 => ?_⟩ <;> (try simp (disch := omega) only [oi_le, oi_lt, oi_eq, oi_lt0, oi_le0, oi_0lt, oi_0le, oi_eq0, oi_eq1, bI_eq0, bI_ne0, bI_eq1, decide_eq_true_eq, decide_eq_false_iff_not, lc_lt, lc_gt, lc_eq, lc_ge, lc_le, ol_lt, ol_eq, ne_eq, Int.not_lt, Int.not_le, Bool.not_eq_true, Bool.not_eq_false, Decidable.not_not, not_true_eq_false, not_false_eq_true, Bool.true_eq_false, Bool.false_eq_true] at c2) <;> (first | (exfalso; omega) | ((fail_if_success with_reducible refine hJ _ _ _ _ ?_); conv => whnf) | skip)
    · exact fin
    · rw [oi_l (by omega) (by omega)]
      refine s_m_isFrom hC (by omega) (by omega) (by omega) (by omega) (by omega) (by omega) ?_
      conv => whnf
      refine ⟨fun c3 => ?_, fun c3 => ?_⟩ <;> (try simp (disch := omega) only [oi_le, oi_lt, oi_eq, oi_lt0, oi_le0, oi_0lt, oi_0le, oi_eq0, oi_eq1, bI_eq0, bI_ne0, bI_eq1, decide_eq_true_eq, decide_eq_false_iff_not, lc_lt, lc_gt, lc_eq, lc_ge, lc_le, ol_lt, ol_eq, ne_eq, Int.not_lt, Int.not_le, Bool.not_eq_true, Bool.not_eq_false, Decidable.not_not, not_true_eq_false, not_false_eq_true, Bool.true_eq_false, Bool.false_eq_true] at c3) <;> (first | (exfalso; omega) | ((fail_if_success with_reducible refine hJ _ _ _ _ ?_); conv => whnf) | skip)
      · exact fin
      · rw [oi_add, oi_sub]
        refine ⟨fun c4 => ?_, fun c4 => ?_⟩ <;> (try simp (disch := omega) only [oi_le, oi_lt, oi_eq, oi_lt0, oi_le0, oi_0lt, oi_0le, oi_eq0, oi_eq1, bI_eq0, bI_ne0, bI_eq1, decide_eq_true_eq, decide_eq_false_iff_not, lc_lt, lc_gt, lc_eq, lc_ge, lc_le, ol_lt, ol_eq, ne_eq, Int.not_lt, Int.not_le, Bool.not_eq_true, Bool.not_eq_false, Decidable.not_not, not_true_eq_false, not_false_eq_true, Bool.true_eq_false, Bool.false_eq_true] at c4) <;> (first | (exfalso; omega) | ((fail_if_success with_reducible refine hJ _ _ _ _ ?_); conv => whnf) | skip)
        exact fin
  refine r_x_mean hC (fun J hJ => ?_)
  have c32 : ¬ ((0 ≤ z ∧ z ≤ 9999) ∧ (1 ≤ w ∧ w ≤ 20) ∧ z + w - 1 ≤ 9999) → J 32 [.inr (.inr (1, 0)), .inl (Int32.ofInt z), .inl (Int32.ofInt w), unset, unset, unset, unset] [] σ := by
    intro hbd
    refine hJ _ _ _ _ ?_
    conv => whnf
    refine s_refuse hC ?_
    conv => whnf
    exact ⟨Or.inl rfl, bad hbd⟩
  refine hJ _ _ _ _ ?_
  conv => whnf
  refine s_withinI hC (by omega) (by omega) (by omega) (by omega) (by omega) (by omega) ?_
  conv => whnf
  refine ⟨fun c => ?_, fun c => ?_⟩ <;> (try simp (disch := omega) only [oi_le, oi_lt, oi_eq, oi_lt0, oi_le0, oi_0lt, oi_0le, oi_eq0, oi_eq1, bI_eq0, bI_ne0, bI_eq1, decide_eq_true_eq, decide_eq_false_iff_not, lc_lt, lc_gt, lc_eq, lc_ge, lc_le, ol_lt, ol_eq, ne_eq, Int.not_lt, Int.not_le, Bool.not_eq_true, Bool.not_eq_false, Decidable.not_not, not_true_eq_false, not_false_eq_true, Bool.true_eq_false, Bool.false_eq_true] at c) <;> (first | (exfalso; omega) | ((fail_if_success with_reducible refine hJ _ _ _ _ ?_); conv => whnf) | skip)
  · exact c32 (by omega)
  · refine s_withinI hC (by omega) (by omega) (by omega) (by omega) (by omega) (by omega) ?_
    conv => whnf
    refine ⟨fun c2 => ?_, fun c2 => ?_⟩ <;> (try simp (disch := omega) only [oi_le, oi_lt, oi_eq, oi_lt0, oi_le0, oi_0lt, oi_0le, oi_eq0, oi_eq1, bI_eq0, bI_ne0, bI_eq1, decide_eq_true_eq, decide_eq_false_iff_not, lc_lt, lc_gt, lc_eq, lc_ge, lc_le, ol_lt, ol_eq, ne_eq, Int.not_lt, Int.not_le, Bool.not_eq_true, Bool.not_eq_false, Decidable.not_not, not_true_eq_false, not_false_eq_true, Bool.true_eq_false, Bool.false_eq_true] at c2) <;> (first | (exfalso; omega) | ((fail_if_success with_reducible refine hJ _ _ _ _ ?_); conv => whnf) | skip)
    · exact c32 (by omega)
    · rw [oi_add, oi_sub]
      refine ⟨fun c3 => ?_, fun c3 => ?_⟩ <;> (try simp (disch := omega) only [oi_le, oi_lt, oi_eq, oi_lt0, oi_le0, oi_0lt, oi_0le, oi_eq0, oi_eq1, bI_eq0, bI_ne0, bI_eq1, decide_eq_true_eq, decide_eq_false_iff_not, lc_lt, lc_gt, lc_eq, lc_ge, lc_le, ol_lt, ol_eq, ne_eq, Int.not_lt, Int.not_le, Bool.not_eq_true, Bool.not_eq_false, Decidable.not_not, not_true_eq_false, not_false_eq_true, Bool.true_eq_false, Bool.false_eq_true] at c3) <;> (first | (exfalso; omega) | ((fail_if_success with_reducible refine hJ _ _ _ _ ?_); conv => whnf) | skip)
      · obtain ⟨m, rfl⟩ : ∃ m : Nat, w = (m : Int) := ⟨w.toNat, by omega⟩
        refine hJ _ _ _ _ ?_
        conv => whnf
        rw [r3]
        refine ⟨by omega, ?_⟩
        conv => whnf
        rcases g7 with ⟨d1, d2, d3⟩ | ⟨s, d, dep, d1, d2, d3, d4, d5⟩
        · rw [d2]
          refine ⟨fun c4 => ?_, fun c4 => ?_⟩ <;> (try simp (disch := omega) only [oi_le, oi_lt, oi_eq, oi_lt0, oi_le0, oi_0lt, oi_0le, oi_eq0, oi_eq1, bI_eq0, bI_ne0, bI_eq1, decide_eq_true_eq, decide_eq_false_iff_not, lc_lt, lc_gt, lc_eq, lc_ge, lc_le, ol_lt, ol_eq, ne_eq, Int.not_lt, Int.not_le, Bool.not_eq_true, Bool.not_eq_false, Decidable.not_not, not_true_eq_false, not_false_eq_true, Bool.true_eq_false, Bool.false_eq_true] at c4) <;> (first | (exfalso; omega) | ((with_reducible refine hJ _ _ _ _ ?_); conv => whnf) | (conv => whnf))
          refine s_refuse hC ?_
          conv => whnf
          refine ⟨Or.inl rfl, ?_⟩
          refine r_m_mean hC (fun J hJ => ?_)
          refine hJ _ _ _ _ ?_
          conv => whnf
          rw [oi_l (by omega) (by omega)]
          refine s_m_isFrom hC (by omega) (by omega) (by omega) (by omega) (by omega) (by omega) ?_
          conv => whnf
          refine ⟨fun c5 => ?_, fun c5 => ?_⟩ <;> (try simp (disch := omega) only [oi_le, oi_lt, oi_eq, oi_lt0, oi_le0, oi_0lt, oi_0le, oi_eq0, oi_eq1, bI_eq0, bI_ne0, bI_eq1, decide_eq_true_eq, decide_eq_false_iff_not, lc_lt, lc_gt, lc_eq, lc_ge, lc_le, ol_lt, ol_eq, ne_eq, Int.not_lt, Int.not_le, Bool.not_eq_true, Bool.not_eq_false, Decidable.not_not, not_true_eq_false, not_false_eq_true, Bool.true_eq_false, Bool.false_eq_true] at c5) <;> (first | (exfalso; omega) | ((with_reducible refine hJ _ _ _ _ ?_); conv => whnf) | (conv => whnf))
          rw [oi_l (by omega) (by omega)]
          refine s_m_isFrom hC (by omega) (by omega) (by omega) (by omega) (by omega) (by omega) ?_
          conv => whnf
          refine ⟨fun c6 => ?_, fun c6 => ?_⟩ <;> (try simp (disch := omega) only [oi_le, oi_lt, oi_eq, oi_lt0, oi_le0, oi_0lt, oi_0le, oi_eq0, oi_eq1, bI_eq0, bI_ne0, bI_eq1, decide_eq_true_eq, decide_eq_false_iff_not, lc_lt, lc_gt, lc_eq, lc_ge, lc_le, ol_lt, ol_eq, ne_eq, Int.not_lt, Int.not_le, Bool.not_eq_true, Bool.not_eq_false, Decidable.not_not, not_true_eq_false, not_false_eq_true, Bool.true_eq_false, Bool.false_eq_true] at c6) <;> (first | (exfalso; omega) | ((with_reducible refine hJ _ _ _ _ ?_); conv => whnf) | (conv => whnf))
          rw [oi_add, oi_sub]
          refine ⟨fun c7 => ?_, fun c7 => ?_⟩ <;> (try simp (disch := omega) only [oi_le, oi_lt, oi_eq, oi_lt0, oi_le0, oi_0lt, oi_0le, oi_eq0, oi_eq1, bI_eq0, bI_ne0, bI_eq1, decide_eq_true_eq, decide_eq_false_iff_not, lc_lt, lc_gt, lc_eq, lc_ge, lc_le, ol_lt, ol_eq, ne_eq, Int.not_lt, Int.not_le, Bool.not_eq_true, Bool.not_eq_false, Decidable.not_not, not_true_eq_false, not_false_eq_true, Bool.true_eq_false, Bool.false_eq_true] at c7) <;> (first | (exfalso; omega) | ((with_reducible refine hJ _ _ _ _ ?_); conv => whnf) | (conv => whnf))
          refine ⟨(oi_in (by omega) (by omega)).mpr ⟨by omega, by omega⟩, ?_⟩
          conv => whnf
          rw [show (Int32.ofInt 10).toNatClampNeg = 10 from rfl, hm.c 10 (by omega)]
          rw [d1]
          refine ⟨fun y => absurd rfl y, fun _ => ?_⟩
          conv => whnf
          refine s_m_is hC (x := 6) (by omega) (by omega) ?_
          conv => whnf
          refine ⟨Or.inl rfl, ?_⟩
          exact h _ _ (hR.sc done2.1 done2.2)
        · have s60 : s ≤ 60 := d4.1
          have gd : ∀ i : Nat, i < m → GD h0 (runF d s 300 0 (fun _ => 0) (h0, z + i, 0)).1.1 := fun i hi => (runR_GD (g := z + i) d4 g3 g4 (by omega) (by omega)).1
          have pb : ∀ i : Nat, i < m → 0 ≤ (runF d s 300 0 (fun _ => 0) (h0, z + i, 0)).1.1 6 ∧ (runF d s 300 0 (fun _ => 0) (h0, z + i, 0)).1.1 6 ≤ 20001 := fun i hi => by
            have := (gd i hi).1.1.1
            omega
          have sb : ∀ i : Nat, i ≤ m → sumP d s h0 z i ≤ 20001 * i := by
            intro i
            induction i with
            | zero => intro _; exact Nat.le_refl _
            | succ i ihi =>
              intro hi
              have := ihi (by omega)
              have := pb i (by omega)
              rw [sumP]
              omega
          have sbm := sb m (Nat.le_refl m)
          rw [d2]
          refine ⟨fun c4 => ?_, fun c4 => ?_⟩ <;> (try simp (disch := omega) only [oi_le, oi_lt, oi_eq, oi_lt0, oi_le0, oi_0lt, oi_0le, oi_eq0, oi_eq1, bI_eq0, bI_ne0, bI_eq1, decide_eq_true_eq, decide_eq_false_iff_not, lc_lt, lc_gt, lc_eq, lc_ge, lc_le, ol_lt, ol_eq, ne_eq, Int.not_lt, Int.not_le, Bool.not_eq_true, Bool.not_eq_false, Decidable.not_not, not_true_eq_false, not_false_eq_true, Bool.true_eq_false, Bool.false_eq_true] at c4) <;> (first | (exfalso; omega) | ((with_reducible refine hJ _ _ _ _ ?_); conv => whnf) | (conv => whnf))
          -- the class
          have loop : ∀ (c i : Nat) (σi : AM) (x6 : AV), i + c = m → CM σ σi → J 60 [.inr (.inr (1, 0)), .inl (Int32.ofInt z), .inl (Int32.ofInt (m : Int)), .inr (.inl (Int64.ofInt (sumP d s h0 z i : Nat))), unset, .inl (Int32.ofInt (i : Int)), x6] [] σi := by
            intro c
            induction c with
            | zero =>
              intro i σi x6 hi hc
              have : i = m := by omega
              rw [this]
              refine hJ _ _ _ _ ?_
              conv => whnf
              refine ⟨fun c5 => ?_, fun c5 => ?_⟩ <;> (try simp (disch := omega) only [oi_le, oi_lt, oi_eq, oi_lt0, oi_le0, oi_0lt, oi_0le, oi_eq0, oi_eq1, bI_eq0, bI_ne0, bI_eq1, decide_eq_true_eq, decide_eq_false_iff_not, lc_lt, lc_gt, lc_eq, lc_ge, lc_le, ol_lt, ol_eq, ne_eq, Int.not_lt, Int.not_le, Bool.not_eq_true, Bool.not_eq_false, Decidable.not_not, not_true_eq_false, not_false_eq_true, Bool.true_eq_false, Bool.false_eq_true] at c5) <;> (first | (exfalso; omega) | ((with_reducible refine hJ _ _ _ _ ?_); conv => whnf) | (conv => whnf))
              rw [oi_l (by omega) (by omega)]
              refine s_tellFraction hC (a := sumP d s h0 z m) (b := m) (by omega) (by omega) (by omega) ?_
              conv => whnf
              refine s_agree hC ?_
              conv => whnf
              refine ⟨Or.inr rfl, ?_⟩
              generalize hx : Int64.ofInt ((sumP d s h0 z m / Nat.gcd (sumP d s h0 z m) m : Nat) : Int) = xx
              generalize hy : Int64.ofInt ((m / Nat.gcd (sumP d s h0 z m) m : Nat) : Int) = yy
              generalize hτ : wI (frS σi 1 17 xx yy) 1 0 16 (Int32.ofInt 0) = τ
              have t1 : ∀ t r j, ¬ (HS 0 t r ∨ ((t = 19 ∨ t = 20) ∧ r = 1)) → ¬ (t = 1 ∧ r = 0 ∧ j = 16) → τ.1 t r j = σ.1 t r j := by
                intro t r j y1 y2
                rw [← hτ, wI1, if_neg y2]
                exact hc.1 t r j y1
              have t2 : ∀ t r j, ¬ HS 0 t r → t ≠ 1 → τ.2.1 t r j = σ.2.1 t r j := by
                intro t r j y1 y2
                rw [← hτ]
                show (wL (wL σi 1 0 17 xx) 1 0 18 yy).2.1 t r j = _
                rw [wL1, if_neg (by omega), wL1, if_neg (by omega)]
                exact hc.2.1 t r j y1
              have t17 : τ.2.1 1 0 17 = xx := by
                rw [← hτ]
                show (wL (wL σi 1 0 17 xx) 1 0 18 yy).2.1 1 0 17 = _
                rw [wL1, if_neg (by omega), wL1, if_pos ⟨rfl, rfl, rfl⟩]
              have t18 : τ.2.1 1 0 18 = yy := by
                rw [← hτ]
                show (wL (wL σi 1 0 17 xx) 1 0 18 yy).2.1 1 0 18 = _
                rw [wL1, if_pos ⟨rfl, rfl, rfl⟩]
              have t3 : ∀ t r j, t ≠ 19 → τ.2.2 t r j = σ.2.2 t r j := by
                intro t r j y1
                rw [← hτ]
                exact hc.2.2 t r j y1
              have t16 : τ.1 1 0 16 = Int32.ofInt 0 := by rw [← hτ, wI_16]
              clear hτ hc
              have hmτ : M0 τ h0 := hm.fr (fun j hj => t1 _ _ _ (by unfold HS; omega) (by omega))
              have msτ : MSt τ s d := ⟨s60, fun k hk j hj => by
                rw [t1 _ _ _ (by unfold HS; omega) (by omega)]
                have := (d5 k hk).2 j hj
                rw [Nat.zero_add] at this
                exact this⟩
              refine r_m_mean hC (fun J hJ => ?_)
              refine hJ _ _ _ _ ?_
              conv => whnf
              rw [oi_l (by omega) (by omega)]
              refine s_m_isFrom hC (by omega) (by omega) (by omega) (by omega) (by omega) (by omega) ?_
              conv => whnf
              refine ⟨fun c6 => ?_, fun c6 => ?_⟩ <;> (try simp (disch := omega) only [oi_le, oi_lt, oi_eq, oi_lt0, oi_le0, oi_0lt, oi_0le, oi_eq0, oi_eq1, bI_eq0, bI_ne0, bI_eq1, decide_eq_true_eq, decide_eq_false_iff_not, lc_lt, lc_gt, lc_eq, lc_ge, lc_le, ol_lt, ol_eq, ne_eq, Int.not_lt, Int.not_le, Bool.not_eq_true, Bool.not_eq_false, Decidable.not_not, not_true_eq_false, not_false_eq_true, Bool.true_eq_false, Bool.false_eq_true] at c6) <;> (first | (exfalso; omega) | ((with_reducible refine hJ _ _ _ _ ?_); conv => whnf) | (conv => whnf))
              rw [oi_l (by omega) (by omega)]
              refine s_m_isFrom hC (by omega) (by omega) (by omega) (by omega) (by omega) (by omega) ?_
              conv => whnf
              refine ⟨fun c7 => ?_, fun c7 => ?_⟩ <;> (try simp (disch := omega) only [oi_le, oi_lt, oi_eq, oi_lt0, oi_le0, oi_0lt, oi_0le, oi_eq0, oi_eq1, bI_eq0, bI_ne0, bI_eq1, decide_eq_true_eq, decide_eq_false_iff_not, lc_lt, lc_gt, lc_eq, lc_ge, lc_le, ol_lt, ol_eq, ne_eq, Int.not_lt, Int.not_le, Bool.not_eq_true, Bool.not_eq_false, Decidable.not_not, not_true_eq_false, not_false_eq_true, Bool.true_eq_false, Bool.false_eq_true] at c7) <;> (first | (exfalso; omega) | ((with_reducible refine hJ _ _ _ _ ?_); conv => whnf) | (conv => whnf))
              rw [oi_add, oi_sub]
              refine ⟨fun c8 => ?_, fun c8 => ?_⟩ <;> (try simp (disch := omega) only [oi_le, oi_lt, oi_eq, oi_lt0, oi_le0, oi_0lt, oi_0le, oi_eq0, oi_eq1, bI_eq0, bI_ne0, bI_eq1, decide_eq_true_eq, decide_eq_false_iff_not, lc_lt, lc_gt, lc_eq, lc_ge, lc_le, ol_lt, ol_eq, ne_eq, Int.not_lt, Int.not_le, Bool.not_eq_true, Bool.not_eq_false, Decidable.not_not, not_true_eq_false, not_false_eq_true, Bool.true_eq_false, Bool.false_eq_true] at c8) <;> (first | (exfalso; omega) | ((with_reducible refine hJ _ _ _ _ ?_); conv => whnf) | (conv => whnf))
              refine ⟨(oi_in (by omega) (by omega)).mpr ⟨by omega, by omega⟩, ?_⟩
              conv => whnf
              rw [show (Int32.ofInt 10).toNatClampNeg = 10 from rfl, hmτ 10 (by omega)]
              rw [d1]
              refine ⟨fun c9 => ?_, fun c9 => ?_⟩ <;> (try simp (disch := omega) only [oi_le, oi_lt, oi_eq, oi_lt0, oi_le0, oi_0lt, oi_0le, oi_eq0, oi_eq1, bI_eq0, bI_ne0, bI_eq1, decide_eq_true_eq, decide_eq_false_iff_not, lc_lt, lc_gt, lc_eq, lc_ge, lc_le, ol_lt, ol_eq, ne_eq, Int.not_lt, Int.not_le, Bool.not_eq_true, Bool.not_eq_false, Decidable.not_not, not_true_eq_false, not_false_eq_true, Bool.true_eq_false, Bool.false_eq_true] at c9) <;> (first | (exfalso; omega) | ((with_reducible refine hJ _ _ _ _ ?_); conv => whnf) | (conv => whnf))
              refine s_m_keeps hC (to := 2325) (by omega) (by omega) ?_
              conv => whnf
              have mloop : ∀ (c i : Nat) (τi : AM), i + c = m → Ch MM τ τi → M0 τi h0 → MRep τi 2325 h0 → J 71 [.inr (.inr (46, 0)), .inl (Int32.ofInt z), .inl (Int32.ofInt (m : Int)), .inr (.inl (Int64.ofInt (sumP d s h0 z i : Nat))), unset, .inl (Int32.ofInt (i : Int))] [] τi := by
                intro c
                induction c with
                | zero =>
                  intro i τi hi hci hmi hri
                  have : i = m := by omega
                  rw [this]
                  refine hJ _ _ _ _ ?_
                  conv => whnf
                  refine ⟨fun c10 => ?_, fun c10 => ?_⟩ <;> (try simp (disch := omega) only [oi_le, oi_lt, oi_eq, oi_lt0, oi_le0, oi_0lt, oi_0le, oi_eq0, oi_eq1, bI_eq0, bI_ne0, bI_eq1, decide_eq_true_eq, decide_eq_false_iff_not, lc_lt, lc_gt, lc_eq, lc_ge, lc_le, ol_lt, ol_eq, ne_eq, Int.not_lt, Int.not_le, Bool.not_eq_true, Bool.not_eq_false, Decidable.not_not, not_true_eq_false, not_false_eq_true, Bool.true_eq_false, Bool.false_eq_true] at c10) <;> (first | (exfalso; omega) | ((with_reducible refine hJ _ _ _ _ ?_); conv => whnf) | (conv => whnf))
                  rw [oi_l (by omega) (by omega)]
                  refine s_m_tellsBy hC (a := sumP d s h0 z m) (b := m) (by omega) (by omega) (by omega) ?_
                  conv => whnf
                  refine ⟨Or.inr rfl, ?_⟩
                  rw [hx, hy]
                  have u1 : ∀ t r j, keepI t r j → (wI (frS τi 46 3 xx yy) 46 0 2 (Int32.ofInt 0)).1 t r j = σ.1 t r j := by
                    intro t r j y
                    have y2 := y
                    unfold keepI at y2
                    rw [wI1, if_neg (by omega)]
                    show τi.1 t r j = _
                    by_cases lo : t = 47 ∧ r = 0 ∧ j < 97
                    · rw [lo.1, lo.2.1, hmi j lo.2.2, hm j lo.2.2]
                    · rw [hci.1 _ _ _ (by unfold MM lvS2'; omega), t1 _ _ _ (by unfold HS; omega) (by omega)]
                  have u2 : ∀ t r j, t ≠ 46 → (wI (frS τi 46 3 xx yy) 46 0 2 (Int32.ofInt 0)).2.1 t r j = τ.2.1 t r j := by
                    intro t r j y
                    show (wL (wL τi 46 0 3 xx) 46 0 4 yy).2.1 t r j = _
                    rw [wL1, if_neg (by omega), wL1, if_neg (by omega), hci.2]
                  refine h _ _ (hR.fre ⟨u1, fun t r j y y1 y2 => ?_, fun j _ _ => ?_, Or.inl ⟨?_, ?_⟩⟩ ?_)
                  · unfold keepL at y
                    rw [u2 _ _ _ y2, t2 _ _ _ (by unfold HS; omega) y1]
                  · show τi.2.2 1 0 j = _
                    rw [hci.2, t3 _ _ _ (by omega)]
                  · rw [u2 _ _ _ (by omega), t17]
                    show _ = (wL (wL τi 46 0 3 xx) 46 0 4 yy).2.1 46 0 3
                    rw [wL1, if_neg (by omega), wL1, if_pos ⟨rfl, rfl, rfl⟩]
                  · rw [u2 _ _ _ (by omega), t18]
                    show _ = (wL (wL τi 46 0 3 xx) 46 0 4 yy).2.1 46 0 4
                    rw [wL1, if_pos ⟨rfl, rfl, rfl⟩]
                  · rw [wI_16, wI1, if_neg (by omega)]
                    show τi.1 1 0 16 = _
                    rw [hci.1 _ _ _ (by unfold MM lvS2'; omega), t16]
                | succ c ih =>
                  intro i τi hi hci hmi hri
                  have pbi := pb i (by omega)
                  have msi : MSt τi s d := ⟨s60, fun k hk j hj => by rw [hci.1 _ _ _ (by unfold MM lvS2'; omega)]; exact msτ.2 k hk j hj⟩
                  refine hJ _ _ _ _ ?_
                  conv => whnf
                  refine ⟨fun c10 => ?_, fun c10 => ?_⟩ <;> (try simp (disch := omega) only [oi_le, oi_lt, oi_eq, oi_lt0, oi_le0, oi_0lt, oi_0le, oi_eq0, oi_eq1, bI_eq0, bI_ne0, bI_eq1, decide_eq_true_eq, decide_eq_false_iff_not, lc_lt, lc_gt, lc_eq, lc_ge, lc_le, ol_lt, ol_eq, ne_eq, Int.not_lt, Int.not_le, Bool.not_eq_true, Bool.not_eq_false, Decidable.not_not, not_true_eq_false, not_false_eq_true, Bool.true_eq_false, Bool.false_eq_true] at c10) <;> (first | (exfalso; omega) | ((with_reducible refine hJ _ _ _ _ ?_); conv => whnf) | (conv => whnf))
                  rw [oi_add]
                  refine s_m_lives hC (d := d) (dep := dep) (g := z + i) hmi d1 msi g3 g4 d4 (by omega) (by omega) (fun τ2 f1 f2 f3 f4 f5 f6 => ?_)
                  conv => whnf
                  refine ⟨(oi_in (by omega) (by omega)).mpr ⟨by omega, by omega⟩, ?_⟩
                  conv => whnf
                  rw [show (Int32.ofInt 6).toNatClampNeg = 6 from rfl, f2 6 (by omega)]
                  rw [oi_l (by omega) (by omega), ol_add]
                  refine s_m_restores hC (to := 2325) (by omega) (by omega) ?_
                  conv => whnf
                  rw [oi_succ, show ((sumP d s h0 z i : Nat) : Int) + (runF d s 300 0 (fun _ => 0) (h0, z + i, 0)).1.1 6 = ((sumP d s h0 z (i + 1) : Nat) : Int) by rw [sumP]; omega]
                  have f7 : MRep τ2 2325 h0 := fun j hj => by rw [f1.1 _ _ _ (by unfold lvS2'; omega)]; exact hri j hj
                  refine ih (i + 1) _ (by omega) ((hci.tr (f1.mo (fun t q j y => Or.inl y))).tr ⟨fun t q j y => ?_, rfl⟩) (fun j hj => ?_) (fun j hj => ?_)
                  · unfold MM lvS2' at y
                    rw [cpI1, if_neg (by omega)]
                  · rw [cpI1, if_pos ⟨rfl, rfl, by omega, by omega⟩, show 2325 + (j - 0) = 2325 + j by omega]
                    exact f7 j hj
                  · rw [cpI1, if_neg (by omega)]
                    exact f7 j hj
              refine mloop m 0 _ (by omega) ⟨fun t q j y => ?_, rfl⟩ (hmτ.cp (by omega)) (fun j hj => ?_)
              · unfold MM lvS2' at y
                rw [cpI1, if_neg (by omega)]
              · rw [cpI1, if_pos ⟨rfl, rfl, by omega, by omega⟩, show 0 + (2325 + j - 2325) = j by omega]
                exact hmτ j hj
            | succ c ih =>
              intro i σi x6 hi hc
              have pbi := pb i (by omega)
              have hri : HRep σi n h0 := by
                have := hr.cha (S := fun t r j => HS 0 t r ∨ ((t = 19 ∨ t = 20) ∧ r = 1)) (SL := fun _ _ _ => True) (σ' := (σi.1, σ.2.1, σ.2.2)) ⟨hc.1, fun _ _ _ y => absurd trivial y, rfl⟩ (fun t j a b => by unfold HS; omega)
                exact this.i1 rfl
              refine hJ _ _ _ _ ?_
              conv => whnf
              refine ⟨fun c5 => ?_, fun c5 => ?_⟩ <;> (try simp (disch := omega) only [oi_le, oi_lt, oi_eq, oi_lt0, oi_le0, oi_0lt, oi_0le, oi_eq0, oi_eq1, bI_eq0, bI_ne0, bI_eq1, decide_eq_true_eq, decide_eq_false_iff_not, lc_lt, lc_gt, lc_eq, lc_ge, lc_le, ol_lt, ol_eq, ne_eq, Int.not_lt, Int.not_le, Bool.not_eq_true, Bool.not_eq_false, Decidable.not_not, not_true_eq_false, not_false_eq_true, Bool.true_eq_false, Bool.false_eq_true] at c5) <;> (first | (exfalso; omega) | ((with_reducible refine hJ _ _ _ _ ?_); conv => whnf) | (conv => whnf))
              rw [hc.2.2 1 0 11 (by omega), hnn]
              refine ⟨by omega, ?_⟩
              conv => whnf
              refine s_aheadIn hC (k := 0) hri g3 (by omega) (by omega) (fun σ1 a1 a2 a3 => ?_)
              conv => whnf
              rw [a3, hc.2.2 1 0 13 (by omega), r3]
              refine ⟨by omega, ?_⟩
              conv => whnf
              rw [oi_add]
              have e37 : ∀ t j, 37 ≤ t → t ≤ 43 → σ1.1 t p j = σ.1 t p j := fun t j y1 y2 => by rw [(a2 t p (by unfold HS; omega)).1, hc.1 _ _ _ (by unfold HS; omega)]
              have a1 : HRep σ1 0 h0 := a1
              refine s_run hC (i := 1) (q := 0) (h0 := h0) (d := d) (dep := dep) (g := z + i) (by omega) (by omega) (by rw [e37 _ _ (by omega) (by omega), d3]) (fun k hk => (d5 k hk).1.cg (fun t y1 y2 => e37 t k (by omega) (by omega))) a1 g3 g4 d4 (by omega) (by omega) (fun σ2 k1 k2 k3 k4 k5 k6 k7 k8 k9 k10 k11 => ?_)
              conv => whnf
              obtain ⟨-, -, -, -, -, -, v6, -⟩ := id k4
              rw [v6, oi_l (by omega) (by omega), ol_add, oi_succ, show ((sumP d s h0 z i : Nat) : Int) + (runF d s 300 0 (fun _ => 0) (h0, z + i, 0)).1.1 6 = ((sumP d s h0 z (i + 1) : Nat) : Int) by rw [sumP]; omega]
              refine ih (i + 1) σ2 _ (by omega) ⟨fun t r' j y => ?_, fun t r' j y => ?_, fun t r' j y => ?_⟩
              · rw [k1 _ _ _ (by unfold runS; omega), (a2 t r' (fun y' => y (Or.inl y'))).1, hc.1 _ _ _ y]
              · rw [k2, (a2 t r' y).2.1, hc.2.1 _ _ _ y]
              · rw [k3 _ _ _ y, a3, hc.2.2 _ _ _ y]
          exact loop m 0 σ _ (by omega) ⟨fun _ _ _ _ => rfl, fun _ _ _ _ => rfl, fun _ _ _ _ => rfl⟩
      · exact c32 (by omega)
