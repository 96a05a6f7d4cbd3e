theorem op_pour {CALL : CT} (hC : RuleAll CALL) {r : Nat} {σ : AM} {K : AV → AV → AM → Prop} (hR : Rel σ) {z y w x q : Int} (z1 : -2147483648 ≤ z) (z2 : z < 2147483648) (y1 : -2147483648 ≤ y) (y2 : y < 2147483648) (w1 : -2147483648 ≤ w) (w2 : w < 2147483648) (x1 : -2147483648 ≤ x) (x2 : x < 2147483648) (k1 : -2147483648 ≤ q) (k2 : q < 2147483648) (h : ∀ v σ2, Rel σ2 → K v v σ2) : CALL (r + 20) n_x_pour [.inr (.inr (1, 0)), .inl (Int32.ofInt z), .inl (Int32.ofInt y), .inl (Int32.ofInt w), .inl (Int32.ofInt x), .inl (Int32.ofInt q)] σ (fun v σ1 => CALL (r + 20) n_m_pour [.inr (.inr (46, 0)), .inl (Int32.ofInt z), .inl (Int32.ofInt y), .inl (Int32.ofInt w), .inl (Int32.ofInt x), .inl (Int32.ofInt q)] σ1 (fun v' σ2 => K v v' σ2)) := by
  obtain ⟨⟨n, p, h0, ha⟩, hb, hst⟩ := id hR
  have hn := ha.nh
  obtain ⟨n45, hnn, hr, hm, ⟨hw, hw67⟩, h59⟩ := id hn
  have b := hw.1
  have hsy : SymE h0 := ha.2.2.2.2.2.2.2.2.2.2.1
  obtain ⟨q0, q1, q2, q3, q4, q5, q6, q7, q8, q9, qa, qt, qm, qe⟩ := id hr
  obtain ⟨M, S, ht⟩ := hb.2.1.tm
  have bad : ¬ ((0 ≤ z ∧ z ≤ 3) ∧ (0 ≤ w ∧ w ≤ 3) ∧ 0 ≤ y ∧ 0 ≤ x ∧ 0 ≤ q) → CALL (r + 20) n_m_pour [.inr (.inr (46, 0)), .inl (Int32.ofInt z), .inl (Int32.ofInt y), .inl (Int32.ofInt w), .inl (Int32.ofInt x), .inl (Int32.ofInt q)] (wI σ 1 0 16 (Int32.ofInt 1)) (fun v' σ2 => K (.inl (Int32.ofInt 0)) v' σ2) := by
    intro hbd
    refine r_m_pour hC (fun J hJ => ?_)
    have fin : J 28 [.inr (.inr (46, 0)), .inl (Int32.ofInt z), .inl (Int32.ofInt y), .inl (Int32.ofInt w), .inl (Int32.ofInt x), .inl (Int32.ofInt q), unset, unset] [] (wI σ 1 0 16 (Int32.ofInt 1)) := by
      refine hJ _ _ _ _ ?_
      conv => whnf
      refine s_m_is hC (x := 1) (by omega) (by omega) ?_
      conv => whnf
      refine ⟨Or.inl rfl, ?_⟩
      exact h _ _ (hR.sc done2.1 done2.2)
    refine hJ _ _ _ _ ?_
    conv => whnf
    refine s_m_isTray hC (by omega) (by omega) ?_
    conv => whnf
    refine ⟨fun c2 => ?_, fun c2 => ?_⟩ <;> (try simp (disch := omega) only [oi_le, oi_lt, oi_eq, oi_lt0, oi_le0, oi_0lt, oi_0le, oi_eq0, oi_eq1, bI_eq0, bI_ne0, bI_eq1, decide_eq_true_eq, decide_eq_false_iff_not, lc_lt, lc_gt, lc_eq, lc_ge, lc_le, ol_lt, ol_eq, ne_eq, Int.not_lt, Int.not_le, Bool.not_eq_true, Bool.not_eq_false, Decidable.not_not, not_true_eq_false, not_false_eq_true, Bool.true_eq_false, Bool.false_eq_true] at c2) <;> (first | (exfalso; omega) | ((fail_if_success with_reducible refine hJ _ _ _ _ ?_); conv => whnf) | skip)
    · exact fin
    · refine s_m_isTray hC (by omega) (by omega) ?_
      conv => whnf
      refine ⟨fun c3 => ?_, fun c3 => ?_⟩ <;> (try simp (disch := omega) only [oi_le, oi_lt, oi_eq, oi_lt0, oi_le0, oi_0lt, oi_0le, oi_eq0, oi_eq1, bI_eq0, bI_ne0, bI_eq1, decide_eq_true_eq, decide_eq_false_iff_not, lc_lt, lc_gt, lc_eq, lc_ge, lc_le, ol_lt, ol_eq, ne_eq, Int.not_lt, Int.not_le, Bool.not_eq_true, Bool.not_eq_false, Decidable.not_not, not_true_eq_false, not_false_eq_true, Bool.true_eq_false, Bool.false_eq_true] at c3) <;> (first | (exfalso; omega) | ((fail_if_success with_reducible refine hJ _ _ _ _ ?_); conv => whnf) | skip)
      · exact fin
      · refine ⟨fun c4 => ?_, fun c4 => ?_⟩ <;> (try simp (disch := omega) only [oi_le, oi_lt, oi_eq, oi_lt0, oi_le0, oi_0lt, oi_0le, oi_eq0, oi_eq1, bI_eq0, bI_ne0, bI_eq1, decide_eq_true_eq, decide_eq_false_iff_not, lc_lt, lc_gt, lc_eq, lc_ge, lc_le, ol_lt, ol_eq, ne_eq, Int.not_lt, Int.not_le, Bool.not_eq_true, Bool.not_eq_false, Decidable.not_not, not_true_eq_false, not_false_eq_true, Bool.true_eq_false, Bool.false_eq_true] at c4) <;> (first | (exfalso; omega) | ((fail_if_success with_reducible refine hJ _ _ _ _ ?_); conv => whnf) | skip)
        · exact fin
        · refine ⟨fun c5 => ?_, fun c5 => ?_⟩ <;> (try simp (disch := omega) only [oi_le, oi_lt, oi_eq, oi_lt0, oi_le0, oi_0lt, oi_0le, oi_eq0, oi_eq1, bI_eq0, bI_ne0, bI_eq1, decide_eq_true_eq, decide_eq_false_iff_not, lc_lt, lc_gt, lc_eq, lc_ge, lc_le, ol_lt, ol_eq, ne_eq, Int.not_lt, Int.not_le, Bool.not_eq_true, Bool.not_eq_false, Decidable.not_not, not_true_eq_false, not_false_eq_true, Bool.true_eq_false, Bool.false_eq_true] at c5) <;> (first | (exfalso; omega) | ((fail_if_success with_reducible refine hJ _ _ _ _ ?_); conv => whnf) | skip)
          · exact fin
          · refine ⟨fun c6 => ?_, fun c6 => ?_⟩ <;> (try simp (disch := omega) only [oi_le, oi_lt, oi_eq, oi_lt0, oi_le0, oi_0lt, oi_0le, oi_eq0, oi_eq1, bI_eq0, bI_ne0, bI_eq1, decide_eq_true_eq, decide_eq_false_iff_not, lc_lt, lc_gt, lc_eq, lc_ge, lc_le, ol_lt, ol_eq, ne_eq, Int.not_lt, Int.not_le, Bool.not_eq_true, Bool.not_eq_false, Decidable.not_not, not_true_eq_false, not_false_eq_true, Bool.true_eq_false, Bool.false_eq_true] at c6) <;> (first | (exfalso; omega) | ((fail_if_success with_reducible refine hJ _ _ _ _ ?_); conv => whnf) | skip)
            exact fin
  refine r_x_pour hC (fun J hJ => ?_)
  have c30 : ¬ ((0 ≤ z ∧ z ≤ 3) ∧ (0 ≤ w ∧ w ≤ 3) ∧ 0 ≤ y ∧ 0 ≤ x ∧ 0 ≤ q) → J 30 [.inr (.inr (1, 0)), .inl (Int32.ofInt z), .inl (Int32.ofInt y), .inl (Int32.ofInt w), .inl (Int32.ofInt x), .inl (Int32.ofInt q), unset, unset] [] σ := by
    intro hbd
    refine hJ _ _ _ _ ?_
    conv => whnf
    refine s_refuse hC ?_
    conv => whnf
    exact ⟨Or.inl rfl, bad hbd⟩
  refine hJ _ _ _ _ ?_
  conv => whnf
  refine s_isTray hC z1 z2 ?_
  conv => whnf
  refine ⟨fun c => ?_, fun c => ?_⟩ <;> (try simp (disch := omega) only [oi_le, oi_lt, oi_eq, oi_lt0, oi_le0, oi_0lt, oi_0le, oi_eq0, oi_eq1, bI_eq0, bI_ne0, bI_eq1, decide_eq_true_eq, decide_eq_false_iff_not, lc_lt, lc_gt, lc_eq, lc_ge, lc_le, ol_lt, ol_eq, ne_eq, Int.not_lt, Int.not_le, Bool.not_eq_true, Bool.not_eq_false, Decidable.not_not, not_true_eq_false, not_false_eq_true, Bool.true_eq_false, Bool.false_eq_true] at c) <;> (first | (exfalso; omega) | ((fail_if_success with_reducible refine hJ _ _ _ _ ?_); conv => whnf) | skip)
  · exact c30 (by omega)
  · refine s_isTray hC w1 w2 ?_
    conv => whnf
    refine ⟨fun c2 => ?_, fun c2 => ?_⟩ <;> (try simp (disch := omega) only [oi_le, oi_lt, oi_eq, oi_lt0, oi_le0, oi_0lt, oi_0le, oi_eq0, oi_eq1, bI_eq0, bI_ne0, bI_eq1, decide_eq_true_eq, decide_eq_false_iff_not, lc_lt, lc_gt, lc_eq, lc_ge, lc_le, ol_lt, ol_eq, ne_eq, Int.not_lt, Int.not_le, Bool.not_eq_true, Bool.not_eq_false, Decidable.not_not, not_true_eq_false, not_false_eq_true, Bool.true_eq_false, Bool.false_eq_true] at c2) <;> (first | (exfalso; omega) | ((fail_if_success with_reducible refine hJ _ _ _ _ ?_); conv => whnf) | skip)
    · exact c30 (by omega)
    · refine ⟨fun c3 => ?_, fun c3 => ?_⟩ <;> (try simp (disch := omega) only [oi_le, oi_lt, oi_eq, oi_lt0, oi_le0, oi_0lt, oi_0le, oi_eq0, oi_eq1, bI_eq0, bI_ne0, bI_eq1, decide_eq_true_eq, decide_eq_false_iff_not, lc_lt, lc_gt, lc_eq, lc_ge, lc_le, ol_lt, ol_eq, ne_eq, Int.not_lt, Int.not_le, Bool.not_eq_true, Bool.not_eq_false, Decidable.not_not, not_true_eq_false, not_false_eq_true, Bool.true_eq_false, Bool.false_eq_true] at c3) <;> (first | (exfalso; omega) | ((fail_if_success with_reducible refine hJ _ _ _ _ ?_); conv => whnf) | skip)
      · exact c30 (by omega)
      · refine ⟨fun c4 => ?_, fun c4 => ?_⟩ <;> (try simp (disch := omega) only [oi_le, oi_lt, oi_eq, oi_lt0, oi_le0, oi_0lt, oi_0le, oi_eq0, oi_eq1, bI_eq0, bI_ne0, bI_eq1, decide_eq_true_eq, decide_eq_false_iff_not, lc_lt, lc_gt, lc_eq, lc_ge, lc_le, ol_lt, ol_eq, ne_eq, Int.not_lt, Int.not_le, Bool.not_eq_true, Bool.not_eq_false, Decidable.not_not, not_true_eq_false, not_false_eq_true, Bool.true_eq_false, Bool.false_eq_true] at c4) <;> (first | (exfalso; omega) | ((fail_if_success with_reducible refine hJ _ _ _ _ ?_); conv => whnf) | skip)
        · exact c30 (by omega)
        · refine ⟨fun c5 => ?_, fun c5 => ?_⟩ <;> (try simp (disch := omega) only [oi_le, oi_lt, oi_eq, oi_lt0, oi_le0, oi_0lt, oi_0le, oi_eq0, oi_eq1, bI_eq0, bI_ne0, bI_eq1, decide_eq_true_eq, decide_eq_false_iff_not, lc_lt, lc_gt, lc_eq, lc_ge, lc_le, ol_lt, ol_eq, ne_eq, Int.not_lt, Int.not_le, Bool.not_eq_true, Bool.not_eq_false, Decidable.not_not, not_true_eq_false, not_false_eq_true, Bool.true_eq_false, Bool.false_eq_true] at c5) <;> (first | (exfalso; omega) | ((fail_if_success with_reducible refine hJ _ _ _ _ ?_); conv => whnf) | skip)
          · obtain ⟨f, rfl⟩ : ∃ f : Nat, z = (f : Int) := ⟨z.toNat, by omega⟩
            obtain ⟨g, rfl⟩ : ∃ g : Nat, w = (g : Int) := ⟨w.toNat, by omega⟩
            obtain ⟨a, rfl⟩ : ∃ a : Nat, y = (a : Int) := ⟨y.toNat, by omega⟩
            obtain ⟨d, rfl⟩ : ∃ d : Nat, x = (d : Int) := ⟨x.toNat, by omega⟩
            obtain ⟨k, rfl⟩ : ∃ k : Nat, q = (k : Int) := ⟨q.toNat, by omega⟩
            have bf := ht.bd (t := f) (by omega)
            have bg := ht.bd (t := g) (by omega)
            have e50f := (ht f (by omega)).1
            have e50g := (ht g (by omega)).1
            -- the reference, by what it finds
            have mod : ∀ (τ : AM) (K' : AV → AM → Prop), TmM τ M S → (M f = -1 ∨ M g = -1 → K' (.inl (Int32.ofInt 0)) (wI τ 46 0 2 (Int32.ofInt 2))) → (M f ≠ -1 → M g ≠ -1 → S f ≠ S g → K' (.inl (Int32.ofInt 0)) (wI τ 46 0 2 (Int32.ofInt 8))) → (M f ≠ -1 → M g ≠ -1 → S f = S g → ¬ ((k : Int) ≤ M f - a ∧ (k : Int) ≤ M g - d) → K' (.inl (Int32.ofInt 0)) (wI τ 46 0 2 (Int32.ofInt 3))) → (M f ≠ -1 → M g ≠ -1 → S f = S g → ((k : Int) ≤ M f - a ∧ (k : Int) ≤ M g - d) → ∀ τ' : AM, τ'.1 = τ.1 → τ'.2.2 = τ.2.2 → (∀ t i j, τ'.2.1 t i j = if t = 51 ∧ i = 0 ∧ 60 * g + d ≤ j ∧ j < 60 * g + d + k then τ.2.1 51 0 (60 * f + a + (j - (60 * g + d))) else τ.2.1 t i j) → K' (.inl (Int32.ofInt 1)) (wI τ' 46 0 2 (Int32.ofInt 0))) → CALL (r + 20) n_m_pour [.inr (.inr (46, 0)), .inl (Int32.ofInt (f : Int)), .inl (Int32.ofInt (a : Int)), .inl (Int32.ofInt (g : Int)), .inl (Int32.ofInt (d : Int)), .inl (Int32.ofInt (k : Int))] τ K' := by
              intro τ K' hτ m1 m2 m3 m4
              obtain ⟨tf1, tf2, tf3, tf4⟩ := hτ f (by omega)
              obtain ⟨tg1, tg2, tg3, tg4⟩ := hτ g (by omega)
              refine r_m_pour hC (fun J hJ => ?_)
              have f54 : (M f = -1 ∨ M g = -1) → J 54 [.inr (.inr (46, 0)), .inl (Int32.ofInt (f : Int)), .inl (Int32.ofInt (a : Int)), .inl (Int32.ofInt (g : Int)), .inl (Int32.ofInt (d : Int)), .inl (Int32.ofInt (k : Int)), unset, unset] [] τ := by
                intro hq
                refine hJ _ _ _ _ ?_
                conv => whnf
                refine s_m_is hC (x := 2) (by omega) (by omega) ?_
                conv => whnf
                exact ⟨Or.inl rfl, m1 hq⟩
              refine hJ _ _ _ _ ?_
              conv => whnf
              refine s_m_isTray hC (by omega) (by omega) ?_
              conv => whnf
              refine ⟨fun e1 => ?_, fun e1 => ?_⟩ <;> (try simp (disch := omega) only [oi_le, oi_lt, oi_eq, oi_lt0, oi_le0, oi_0lt, oi_0le, oi_eq0, oi_eq1, bI_eq0, bI_ne0, bI_eq1, decide_eq_true_eq, decide_eq_false_iff_not, lc_lt, lc_gt, lc_eq, lc_ge, lc_le, ol_lt, ol_eq, ne_eq, Int.not_lt, Int.not_le, Bool.not_eq_true, Bool.not_eq_false, Decidable.not_not, not_true_eq_false, not_false_eq_true, Bool.true_eq_false, Bool.false_eq_true] at e1) <;> (first | (exfalso; omega) | ((with_reducible refine hJ _ _ _ _ ?_); conv => whnf) | (conv => whnf))
              refine s_m_isTray hC (by omega) (by omega) ?_
              conv => whnf
              refine ⟨fun e2 => ?_, fun e2 => ?_⟩ <;> (try simp (disch := omega) only [oi_le, oi_lt, oi_eq, oi_lt0, oi_le0, oi_0lt, oi_0le, oi_eq0, oi_eq1, bI_eq0, bI_ne0, bI_eq1, decide_eq_true_eq, decide_eq_false_iff_not, lc_lt, lc_gt, lc_eq, lc_ge, lc_le, ol_lt, ol_eq, ne_eq, Int.not_lt, Int.not_le, Bool.not_eq_true, Bool.not_eq_false, Decidable.not_not, not_true_eq_false, not_false_eq_true, Bool.true_eq_false, Bool.false_eq_true] at e2) <;> (first | (exfalso; omega) | ((with_reducible refine hJ _ _ _ _ ?_); conv => whnf) | (conv => whnf))
              refine ⟨fun e3 => ?_, fun e3 => ?_⟩ <;> (try simp (disch := omega) only [oi_le, oi_lt, oi_eq, oi_lt0, oi_le0, oi_0lt, oi_0le, oi_eq0, oi_eq1, bI_eq0, bI_ne0, bI_eq1, decide_eq_true_eq, decide_eq_false_iff_not, lc_lt, lc_gt, lc_eq, lc_ge, lc_le, ol_lt, ol_eq, ne_eq, Int.not_lt, Int.not_le, Bool.not_eq_true, Bool.not_eq_false, Decidable.not_not, not_true_eq_false, not_false_eq_true, Bool.true_eq_false, Bool.false_eq_true] at e3) <;> (first | (exfalso; omega) | ((with_reducible refine hJ _ _ _ _ ?_); conv => whnf) | (conv => whnf))
              refine ⟨fun e4 => ?_, fun e4 => ?_⟩ <;> (try simp (disch := omega) only [oi_le, oi_lt, oi_eq, oi_lt0, oi_le0, oi_0lt, oi_0le, oi_eq0, oi_eq1, bI_eq0, bI_ne0, bI_eq1, decide_eq_true_eq, decide_eq_false_iff_not, lc_lt, lc_gt, lc_eq, lc_ge, lc_le, ol_lt, ol_eq, ne_eq, Int.not_lt, Int.not_le, Bool.not_eq_true, Bool.not_eq_false, Decidable.not_not, not_true_eq_false, not_false_eq_true, Bool.true_eq_false, Bool.false_eq_true] at e4) <;> (first | (exfalso; omega) | ((with_reducible refine hJ _ _ _ _ ?_); conv => whnf) | (conv => whnf))
              refine ⟨fun e5 => ?_, fun e5 => ?_⟩ <;> (try simp (disch := omega) only [oi_le, oi_lt, oi_eq, oi_lt0, oi_le0, oi_0lt, oi_0le, oi_eq0, oi_eq1, bI_eq0, bI_ne0, bI_eq1, decide_eq_true_eq, decide_eq_false_iff_not, lc_lt, lc_gt, lc_eq, lc_ge, lc_le, ol_lt, ol_eq, ne_eq, Int.not_lt, Int.not_le, Bool.not_eq_true, Bool.not_eq_false, Decidable.not_not, not_true_eq_false, not_false_eq_true, Bool.true_eq_false, Bool.false_eq_true] at e5) <;> (first | (exfalso; omega) | ((with_reducible refine hJ _ _ _ _ ?_); conv => whnf) | (conv => whnf))
              refine ⟨(oi_in (by omega) (by omega)).mpr ⟨by omega, by omega⟩, ?_⟩
              conv => whnf
              rw [oi_nat (by omega) (by omega), Int.toNat_natCast, tf1]
              refine ⟨fun e6 => ?_, fun e6 => ?_⟩ <;> (try simp (disch := omega) only [oi_le, oi_lt, oi_eq, oi_lt0, oi_le0, oi_0lt, oi_0le, oi_eq0, oi_eq1, bI_eq0, bI_ne0, bI_eq1, decide_eq_true_eq, decide_eq_false_iff_not, lc_lt, lc_gt, lc_eq, lc_ge, lc_le, ol_lt, ol_eq, ne_eq, Int.not_lt, Int.not_le, Bool.not_eq_true, Bool.not_eq_false, Decidable.not_not, not_true_eq_false, not_false_eq_true, Bool.true_eq_false, Bool.false_eq_true] at e6) <;> (first | (exfalso; omega) | ((fail_if_success with_reducible refine hJ _ _ _ _ ?_); conv => whnf) | skip)
              · exact f54 (Or.inl e6)
              · refine ⟨(oi_in (by omega) (by omega)).mpr ⟨by omega, by omega⟩, ?_⟩
                conv => whnf
                rw [oi_nat (by omega) (by omega), Int.toNat_natCast, tg1]
                refine ⟨fun e7 => ?_, fun e7 => ?_⟩ <;> (try simp (disch := omega) only [oi_le, oi_lt, oi_eq, oi_lt0, oi_le0, oi_0lt, oi_0le, oi_eq0, oi_eq1, bI_eq0, bI_ne0, bI_eq1, decide_eq_true_eq, decide_eq_false_iff_not, lc_lt, lc_gt, lc_eq, lc_ge, lc_le, ol_lt, ol_eq, ne_eq, Int.not_lt, Int.not_le, Bool.not_eq_true, Bool.not_eq_false, Decidable.not_not, not_true_eq_false, not_false_eq_true, Bool.true_eq_false, Bool.false_eq_true] at e7) <;> (first | (exfalso; omega) | ((fail_if_success with_reducible refine hJ _ _ _ _ ?_); conv => whnf) | skip)
                · obtain ⟨uf, uf1, uf2⟩ := tf4 e6
                  obtain ⟨ug, ug1, ug2⟩ := tg4 e7
                  refine hJ _ _ _ _ ?_
                  conv => whnf
                  refine ⟨(oi_in (by omega) (by omega)).mpr ⟨by omega, by omega⟩, ?_⟩
                  conv => whnf
                  refine ⟨(oi_in (by omega) (by omega)).mpr ⟨by omega, by omega⟩, ?_⟩
                  conv => whnf
                  rw [oi_nat (by omega) (by omega), oi_nat (by omega) (by omega), Int.toNat_natCast, Int.toNat_natCast, uf, ug]
                  refine ⟨fun e8 => ?_, fun e8 => ?_⟩ <;> (try simp (disch := omega) only [oi_le, oi_lt, oi_eq, oi_lt0, oi_le0, oi_0lt, oi_0le, oi_eq0, oi_eq1, bI_eq0, bI_ne0, bI_eq1, decide_eq_true_eq, decide_eq_false_iff_not, lc_lt, lc_gt, lc_eq, lc_ge, lc_le, ol_lt, ol_eq, ne_eq, Int.not_lt, Int.not_le, Bool.not_eq_true, Bool.not_eq_false, Decidable.not_not, not_true_eq_false, not_false_eq_true, Bool.true_eq_false, Bool.false_eq_true] at e8) <;> (first | (exfalso; omega) | ((with_reducible refine hJ _ _ _ _ ?_); conv => whnf) | (conv => whnf))
                  · have f109 : ¬ ((k : Int) ≤ M f - a ∧ (k : Int) ≤ M g - d) → J 109 [.inr (.inr (46, 0)), .inl (Int32.ofInt (f : Int)), .inl (Int32.ofInt (a : Int)), .inl (Int32.ofInt (g : Int)), .inl (Int32.ofInt (d : Int)), .inl (Int32.ofInt (k : Int)), unset, unset] [] τ := by
                      intro hq
                      refine hJ _ _ _ _ ?_
                      conv => whnf
                      refine s_m_is hC (x := 3) (by omega) (by omega) ?_
                      conv => whnf
                      exact ⟨Or.inl rfl, m3 e6 e7 e8 hq⟩
                    refine ⟨(oi_in (by omega) (by omega)).mpr ⟨by omega, by omega⟩, ?_⟩
                    conv => whnf
                    rw [oi_nat (by omega) (by omega), Int.toNat_natCast, tf1, oi_sub]
                    refine ⟨fun e9 => ?_, fun e9 => ?_⟩ <;> (try simp (disch := omega) only [oi_le, oi_lt, oi_eq, oi_lt0, oi_le0, oi_0lt, oi_0le, oi_eq0, oi_eq1, bI_eq0, bI_ne0, bI_eq1, decide_eq_true_eq, decide_eq_false_iff_not, lc_lt, lc_gt, lc_eq, lc_ge, lc_le, ol_lt, ol_eq, ne_eq, Int.not_lt, Int.not_le, Bool.not_eq_true, Bool.not_eq_false, Decidable.not_not, not_true_eq_false, not_false_eq_true, Bool.true_eq_false, Bool.false_eq_true] at e9) <;> (first | (exfalso; omega) | ((fail_if_success with_reducible refine hJ _ _ _ _ ?_); conv => whnf) | skip)
                    · exact f109 (by omega)
                    · refine ⟨(oi_in (by omega) (by omega)).mpr ⟨by omega, by omega⟩, ?_⟩
                      conv => whnf
                      rw [oi_nat (by omega) (by omega), Int.toNat_natCast, tg1, oi_sub]
                      refine ⟨fun e10 => ?_, fun e10 => ?_⟩ <;> (try simp (disch := omega) only [oi_le, oi_lt, oi_eq, oi_lt0, oi_le0, oi_0lt, oi_0le, oi_eq0, oi_eq1, bI_eq0, bI_ne0, bI_eq1, decide_eq_true_eq, decide_eq_false_iff_not, lc_lt, lc_gt, lc_eq, lc_ge, lc_le, ol_lt, ol_eq, ne_eq, Int.not_lt, Int.not_le, Bool.not_eq_true, Bool.not_eq_false, Decidable.not_not, not_true_eq_false, not_false_eq_true, Bool.true_eq_false, Bool.false_eq_true] at e10) <;> (first | (exfalso; omega) | ((fail_if_success with_reducible refine hJ _ _ _ _ ?_); conv => whnf) | skip)
                      · have loop : ∀ (c i lo hi : Nat) (τi : AM) (x7 : AV), i + c = k → (if a < d then lo + i = k ∧ hi = k else lo = 0 ∧ hi = i) → τi.1 = τ.1 → τi.2.2 = τ.2.2 → (∀ t i j, τi.2.1 t i j = if t = 51 ∧ i = 0 ∧ 60 * g + d + lo ≤ j ∧ j < 60 * g + d + hi then τ.2.1 51 0 (60 * f + a + (j - (60 * g + d))) else τ.2.1 t i j) → J 118 [.inr (.inr (46, 0)), .inl (Int32.ofInt (f : Int)), .inl (Int32.ofInt (a : Int)), .inl (Int32.ofInt (g : Int)), .inl (Int32.ofInt (d : Int)), .inl (Int32.ofInt (k : Int)), .inl (Int32.ofInt (i : Int)), x7] [] τi := by
                          intro c
                          induction c with
                          | zero =>
                            intro i lo hi τi x7 hik hlh t1 t2 t3
                            refine hJ _ _ _ _ ?_
                            conv => whnf
                            refine ⟨fun e11 => ?_, fun e11 => ?_⟩ <;> (try simp (disch := omega) only [oi_le, oi_lt, oi_eq, oi_lt0, oi_le0, oi_0lt, oi_0le, oi_eq0, oi_eq1, bI_eq0, bI_ne0, bI_eq1, decide_eq_true_eq, decide_eq_false_iff_not, lc_lt, lc_gt, lc_eq, lc_ge, lc_le, ol_lt, ol_eq, ne_eq, Int.not_lt, Int.not_le, Bool.not_eq_true, Bool.not_eq_false, Decidable.not_not, not_true_eq_false, not_false_eq_true, Bool.true_eq_false, Bool.false_eq_true] at e11) <;> (first | (exfalso; omega) | ((with_reducible refine hJ _ _ _ _ ?_); conv => whnf) | (conv => whnf))
                            refine s_m_is hC (x := 0) (by omega) (by omega) ?_
                            conv => whnf
                            refine ⟨Or.inr rfl, m4 e6 e7 e8 ⟨by omega, by omega⟩ τi t1 t2 (fun t i' j => ?_)⟩
                            rw [t3]
                            have : lo = 0 ∧ hi = k := by split at hlh <;> omega
                            rw [this.1, this.2]
                            rfl
                          | succ c ih =>
                            intro i lo hi τi x7 hik hlh t1 t2 t3
                            have step : ∀ (kk lo' hi' : Nat), kk < k → (if a < d then lo' + (i + 1) = k ∧ hi' = k else lo' = 0 ∧ hi' = i + 1) → (if a < d then kk = lo' ∧ kk + 1 = lo else kk = hi ∧ kk + 1 = hi') → J 143 [.inr (.inr (46, 0)), .inl (Int32.ofInt (f : Int)), .inl (Int32.ofInt (a : Int)), .inl (Int32.ofInt (g : Int)), .inl (Int32.ofInt (d : Int)), .inl (Int32.ofInt (k : Int)), .inl (Int32.ofInt (i : Int)), x7] [.inl (Int32.ofInt (kk : Int))] τi := by
                              intro kk lo' hi' hkk hlh' hk3
                              refine hJ _ _ _ _ ?_
                              conv => whnf
                              rw [oi_mul, oi_mul, oi_add, oi_add, oi_add, oi_add]
                              refine ⟨(oi_in (by omega) (by omega)).mpr ⟨by omega, by omega⟩, ?_⟩
                              conv => whnf
                              refine ⟨(oi_in (by omega) (by omega)).mpr ⟨by omega, by omega⟩, ?_⟩
                              conv => whnf
                              rw [oi_nat (by omega) (by omega), oi_nat (by omega) (by omega), show (60 * (g : Int) + (d : Int) + (kk : Int)).toNat = 60 * g + d + kk by omega, show (60 * (f : Int) + (a : Int) + (kk : Int)).toNat = 60 * f + a + kk by omega, oi_succ]
                              have rd : τi.2.1 51 0 (60 * f + a + kk) = τ.2.1 51 0 (60 * f + a + kk) := by
                                rw [t3, if_neg]
                                by_cases ad : a < d
                                · rw [if_pos ad] at hlh hk3
                                  omega
                                · rw [if_neg ad] at hlh hk3
                                  omega
                              rw [rd]
                              refine ih (i + 1) lo' hi' _ _ (by omega) hlh' t1 t2 (fun t i' j => ?_)
                              rw [wL1, t3]
                              by_cases ej : t = 51 ∧ i' = 0 ∧ j = 60 * g + d + kk
                              · rw [if_pos ej, if_pos, show 60 * f + a + (j - (60 * g + d)) = 60 * f + a + kk by omega]
                                by_cases ad : a < d
                                · rw [if_pos ad] at hlh hk3 hlh'
                                  omega
                                · rw [if_neg ad] at hlh hk3 hlh'
                                  omega
                              · rw [if_neg ej]
                                by_cases ad : a < d
                                · rw [if_pos ad] at hlh hk3 hlh'
                                  by_cases e12 : t = 51 ∧ i' = 0 ∧ 60 * g + d + lo ≤ j ∧ j < 60 * g + d + hi
                                  · rw [if_pos e12, if_pos (by omega)]
                                  · rw [if_neg e12, if_neg (by omega)]
                                · rw [if_neg ad] at hlh hk3 hlh'
                                  by_cases e12 : t = 51 ∧ i' = 0 ∧ 60 * g + d + lo ≤ j ∧ j < 60 * g + d + hi
                                  · rw [if_pos e12, if_pos (by omega)]
                                  · rw [if_neg e12, if_neg (by omega)]
                            refine hJ _ _ _ _ ?_
                            conv => whnf
                            refine ⟨fun e11 => ?_, fun e11 => ?_⟩ <;> (try simp (disch := omega) only [oi_le, oi_lt, oi_eq, oi_lt0, oi_le0, oi_0lt, oi_0le, oi_eq0, oi_eq1, bI_eq0, bI_ne0, bI_eq1, decide_eq_true_eq, decide_eq_false_iff_not, lc_lt, lc_gt, lc_eq, lc_ge, lc_le, ol_lt, ol_eq, ne_eq, Int.not_lt, Int.not_le, Bool.not_eq_true, Bool.not_eq_false, Decidable.not_not, not_true_eq_false, not_false_eq_true, Bool.true_eq_false, Bool.false_eq_true] at e11) <;> (first | (exfalso; omega) | ((with_reducible refine hJ _ _ _ _ ?_); conv => whnf) | (conv => whnf))
                            refine ⟨fun e12 => ?_, fun e12 => ?_⟩ <;> (try simp (disch := omega) only [oi_le, oi_lt, oi_eq, oi_lt0, oi_le0, oi_0lt, oi_0le, oi_eq0, oi_eq1, bI_eq0, bI_ne0, bI_eq1, decide_eq_true_eq, decide_eq_false_iff_not, lc_lt, lc_gt, lc_eq, lc_ge, lc_le, ol_lt, ol_eq, ne_eq, Int.not_lt, Int.not_le, Bool.not_eq_true, Bool.not_eq_false, Decidable.not_not, not_true_eq_false, not_false_eq_true, Bool.true_eq_false, Bool.false_eq_true] at e12) <;> (first | (exfalso; omega) | ((with_reducible refine hJ _ _ _ _ ?_); conv => whnf) | (conv => whnf))
                            · rw [if_neg (by omega)] at hlh
                              exact step i lo (i + 1) (by omega) (by rw [if_neg (by omega)]; omega) (by rw [if_neg (by omega)]; omega)
                            · rw [if_pos (by omega)] at hlh
                              rw [oi_sub, oi_sub, show (k : Int) - 1 - (i : Int) = ((k - 1 - i : Nat) : Int) by omega]
                              exact step (k - 1 - i) (k - 1 - i) k (by omega) (by rw [if_pos (by omega)]; omega) (by rw [if_pos (by omega)]; omega)
                        refine hJ _ _ _ _ ?_
                        conv => whnf
                        by_cases ad : a < d
                        · exact loop k 0 k k τ _ (by omega) (by rw [if_pos ad]; omega) rfl rfl (fun t i j => by rw [if_neg (by omega)])
                        · exact loop k 0 0 0 τ _ (by omega) (by rw [if_neg ad]; omega) rfl rfl (fun t i j => by rw [if_neg (by omega)])
                      · exact f109 (by omega)
                  · refine s_m_is hC (x := 8) (by omega) (by omega) ?_
                    conv => whnf
                    exact ⟨Or.inl rfl, m2 e6 e7 e8⟩
                · exact f54 (Or.inr e7)
            refine hJ _ _ _ _ ?_
            conv => whnf
            refine ⟨(oi_in (by omega) (by omega)).mpr ⟨by omega, by omega⟩, ?_⟩
            conv => whnf
            refine ⟨(oi_in (by omega) (by omega)).mpr ⟨by omega, by omega⟩, ?_⟩
            conv => whnf
            rw [oi_nat (by omega) (by omega), oi_nat (by omega) (by omega), Int.toNat_natCast, Int.toNat_natCast, Nat.zero_add, Nat.zero_add]
            have f68 : (M f = -1 ∨ M g = -1) → J 68 [.inr (.inr (1, 0)), .inl (Int32.ofInt (f : Int)), .inl (Int32.ofInt (a : Int)), .inl (Int32.ofInt (g : Int)), .inl (Int32.ofInt (d : Int)), .inl (Int32.ofInt (k : Int)), .inr (.inr (44, f)), .inr (.inr (44, g))] [] σ := by
              intro hq
              refine hJ _ _ _ _ ?_
              conv => whnf
              refine s_refuse hC ?_
              conv => whnf
              refine ⟨Or.inl rfl, mod _ _ ht.m.c (fun _ => ?_) (fun p1 p2 => by omega) (fun p1 p2 => by omega) (fun p1 p2 => by omega)⟩
              exact h _ _ (hR.sc done2.1 done2.2)
            by_cases mf : M f = -1
            · rcases (ht f (by omega)).2 with ⟨g1, g2⟩ | ⟨g1, g2⟩
              · rw [g2]
                refine ⟨fun c6 => ?_, fun c6 => ?_⟩ <;> (try simp (disch := omega) only [oi_le, oi_lt, oi_eq, oi_lt0, oi_le0, oi_0lt, oi_0le, oi_eq0, oi_eq1, bI_eq0, bI_ne0, bI_eq1, decide_eq_true_eq, decide_eq_false_iff_not, lc_lt, lc_gt, lc_eq, lc_ge, lc_le, ol_lt, ol_eq, ne_eq, Int.not_lt, Int.not_le, Bool.not_eq_true, Bool.not_eq_false, Decidable.not_not, not_true_eq_false, not_false_eq_true, Bool.true_eq_false, Bool.false_eq_true] at c6) <;> (first | (exfalso; omega) | ((fail_if_success with_reducible refine hJ _ _ _ _ ?_); conv => whnf) | skip)
                exact f68 (Or.inl mf)
              · omega
            · obtain ⟨p1, p2, p3, p4, p5, p6, p7, p8⟩ := ht.is (t := f) (by omega) mf
              rw [p5]
              refine ⟨fun c6 => ?_, fun c6 => ?_⟩ <;> (try simp (disch := omega) only [oi_le, oi_lt, oi_eq, oi_lt0, oi_le0, oi_0lt, oi_0le, oi_eq0, oi_eq1, bI_eq0, bI_ne0, bI_eq1, decide_eq_true_eq, decide_eq_false_iff_not, lc_lt, lc_gt, lc_eq, lc_ge, lc_le, ol_lt, ol_eq, ne_eq, Int.not_lt, Int.not_le, Bool.not_eq_true, Bool.not_eq_false, Decidable.not_not, not_true_eq_false, not_false_eq_true, Bool.true_eq_false, Bool.false_eq_true] at c6) <;> (first | (exfalso; omega) | ((fail_if_success with_reducible refine hJ _ _ _ _ ?_); conv => whnf) | skip)
              by_cases mg : M g = -1
              · rcases (ht g (by omega)).2 with ⟨g1, g2⟩ | ⟨g1, g2⟩
                · rw [g2]
                  refine ⟨fun c7 => ?_, fun c7 => ?_⟩ <;> (try simp (disch := omega) only [oi_le, oi_lt, oi_eq, oi_lt0, oi_le0, oi_0lt, oi_0le, oi_eq0, oi_eq1, bI_eq0, bI_ne0, bI_eq1, decide_eq_true_eq, decide_eq_false_iff_not, lc_lt, lc_gt, lc_eq, lc_ge, lc_le, ol_lt, ol_eq, ne_eq, Int.not_lt, Int.not_le, Bool.not_eq_true, Bool.not_eq_false, Decidable.not_not, not_true_eq_false, not_false_eq_true, Bool.true_eq_false, Bool.false_eq_true] at c7) <;> (first | (exfalso; omega) | ((fail_if_success with_reducible refine hJ _ _ _ _ ?_); conv => whnf) | skip)
                  exact f68 (Or.inr mg)
                · omega
              · obtain ⟨u1, u2, u3, u4, u5, u6, u7, u8⟩ := ht.is (t := g) (by omega) mg
                rw [u5]
                refine ⟨fun c7 => ?_, fun c7 => ?_⟩ <;> (try simp (disch := omega) only [oi_le, oi_lt, oi_eq, oi_lt0, oi_le0, oi_0lt, oi_0le, oi_eq0, oi_eq1, bI_eq0, bI_ne0, bI_eq1, decide_eq_true_eq, decide_eq_false_iff_not, lc_lt, lc_gt, lc_eq, lc_ge, lc_le, ol_lt, ol_eq, ne_eq, Int.not_lt, Int.not_le, Bool.not_eq_true, Bool.not_eq_false, Decidable.not_not, not_true_eq_false, not_false_eq_true, Bool.true_eq_false, Bool.false_eq_true] at c7) <;> (first | (exfalso; omega) | ((fail_if_success with_reducible refine hJ _ _ _ _ ?_); conv => whnf) | skip)
                refine hJ _ _ _ _ ?_
                conv => whnf
                rw [p6, u6]
                refine ⟨fun c8 => ?_, fun c8 => ?_⟩ <;> (try simp (disch := omega) only [oi_le, oi_lt, oi_eq, oi_lt0, oi_le0, oi_0lt, oi_0le, oi_eq0, oi_eq1, bI_eq0, bI_ne0, bI_eq1, decide_eq_true_eq, decide_eq_false_iff_not, lc_lt, lc_gt, lc_eq, lc_ge, lc_le, ol_lt, ol_eq, ne_eq, Int.not_lt, Int.not_le, Bool.not_eq_true, Bool.not_eq_false, Decidable.not_not, not_true_eq_false, not_false_eq_true, Bool.true_eq_false, Bool.false_eq_true] at c8) <;> (first | (exfalso; omega) | ((with_reducible refine hJ _ _ _ _ ?_); conv => whnf) | (conv => whnf))
                · have f117 : ¬ ((k : Int) ≤ M f - a ∧ (k : Int) ≤ M g - d) → J 117 [.inr (.inr (1, 0)), .inl (Int32.ofInt (f : Int)), .inl (Int32.ofInt (a : Int)), .inl (Int32.ofInt (g : Int)), .inl (Int32.ofInt (d : Int)), .inl (Int32.ofInt (k : Int)), .inr (.inr (44, f)), .inr (.inr (44, g))] [] σ := by
                    intro hq
                    refine hJ _ _ _ _ ?_
                    conv => whnf
                    refine s_refuse hC ?_
                    conv => whnf
                    refine ⟨Or.inl rfl, mod _ _ ht.m.c (fun p => by omega) (fun _ _ p => absurd c8 p) (fun _ _ _ _ => ?_) (fun _ _ _ p => absurd p hq)⟩
                    exact h _ _ (hR.sc done2.1 done2.2)
                  refine s_holds hC p8 p1 p2 (by omega) (by omega) (by omega) (by omega) ?_
                  conv => whnf
                  refine ⟨fun c9 => ?_, fun c9 => ?_⟩ <;> (try simp (disch := omega) only [oi_le, oi_lt, oi_eq, oi_lt0, oi_le0, oi_0lt, oi_0le, oi_eq0, oi_eq1, bI_eq0, bI_ne0, bI_eq1, decide_eq_true_eq, decide_eq_false_iff_not, lc_lt, lc_gt, lc_eq, lc_ge, lc_le, ol_lt, ol_eq, ne_eq, Int.not_lt, Int.not_le, Bool.not_eq_true, Bool.not_eq_false, Decidable.not_not, not_true_eq_false, not_false_eq_true, Bool.true_eq_false, Bool.false_eq_true] at c9) <;> (first | (exfalso; omega) | ((fail_if_success with_reducible refine hJ _ _ _ _ ?_); conv => whnf) | skip)
                  · exact f117 (by omega)
                  · refine s_holds hC u8 u1 u2 (by omega) (by omega) (by omega) (by omega) ?_
                    conv => whnf
                    refine ⟨fun c10 => ?_, fun c10 => ?_⟩ <;> (try simp (disch := omega) only [oi_le, oi_lt, oi_eq, oi_lt0, oi_le0, oi_0lt, oi_0le, oi_eq0, oi_eq1, bI_eq0, bI_ne0, bI_eq1, decide_eq_true_eq, decide_eq_false_iff_not, lc_lt, lc_gt, lc_eq, lc_ge, lc_le, ol_lt, ol_eq, ne_eq, Int.not_lt, Int.not_le, Bool.not_eq_true, Bool.not_eq_false, Decidable.not_not, not_true_eq_false, not_false_eq_true, Bool.true_eq_false, Bool.false_eq_true] at c10) <;> (first | (exfalso; omega) | ((fail_if_success with_reducible refine hJ _ _ _ _ ?_); conv => whnf) | skip)
                    · refine hJ _ _ _ _ ?_
                      conv => whnf
                      rw [oi_nat (by omega) (by omega), oi_nat (by omega) (by omega), oi_nat (by omega) (by omega), Int.toNat_natCast, Int.toNat_natCast, Int.toNat_natCast]
                      refine ⟨⟨fun p => ?_, fun p => ?_, fun p => ?_, by omega, by omega⟩, ?_⟩
                      · rw [oi_lt0 (by omega) (by omega)] at p; omega
                      · rw [oi_lt0 (by omega) (by omega)] at p; omega
                      · rw [oi_lt0 (by omega) (by omega)] at p; omega
                      conv => whnf
                      refine s_agree hC ?_
                      conv => whnf
                      refine ⟨Or.inr rfl, ?_⟩
                      have htm : TmM (wI (cpL σ 45 f 45 g a d k) 1 0 16 (Int32.ofInt 0)) M S := ht.m.cg (fun j => by rw [wI1, if_neg (by omega)]; rfl) (fun j => by rw [wI1, if_neg (by omega)]; rfl)
                      refine mod _ _ htm (fun p => by omega) (fun _ _ p => absurd c8 p) (fun _ _ _ p => absurd ⟨by omega, by omega⟩ p) (fun _ _ _ _ τ' t1 t2 t3 => ?_)
                      have i1 : ∀ t i j, ¬ (t = 1 ∧ i = 0 ∧ j = 16) → ¬ (t = 46 ∧ i = 0 ∧ j = 2) → (wI τ' 46 0 2 (Int32.ofInt 0)).1 t i j = σ.1 t i j := by
                        intro t i j n1 n2
                        rw [wI1, if_neg n2, t1, wI1, if_neg n1]
                        rfl
                      have i2 : ∀ t i j, ¬ (t = 51 ∧ i = 0 ∧ 60 * g + d ≤ j ∧ j < 60 * g + d + k) → (wI τ' 46 0 2 (Int32.ofInt 0)).2.1 t i j = (cpL σ 45 f 45 g a d k).2.1 t i j := by
                        intro t i j n1
                        show τ'.2.1 t i j = _
                        rw [t3, if_neg n1]
                        rfl
                      refine h _ _ (hR.tray ⟨fun t i j n1 => i1 t i j (by omega) (by omega), fun t i j n1 n2 => ?_, ?_⟩ (TrM.tr (ht.w (fun t i j n1 => i1 t i j (by omega) (by omega)) (fun t j t4 hj => ?_))) ?_)
                      · rw [i2 _ _ _ (by omega), cpL2, if_neg (by omega)]
                      · show τ'.2.2 = _
                        rw [t2]
                        rfl
                      · have bt := ht.bd t4
                        rw [i2 45 t j (by omega), cpL2]
                        show _ = τ'.2.1 51 0 (60 * t + j)
                        rw [t3]
                        by_cases e1 : t = g ∧ d ≤ j ∧ j < d + k
                        · rw [if_pos ⟨rfl, e1.1, e1.2⟩, if_pos ⟨rfl, rfl, by omega, by omega⟩]
                          show _ = (cpL σ 45 f 45 g a d k).2.1 51 0 _
                          rw [cpL2, if_neg (by omega), show 60 * f + a + (60 * t + j - (60 * g + d)) = 60 * f + (a + (j - d)) by omega]
                          exact ht.old (by omega) (by omega)
                        · rw [if_neg (by omega), if_neg (by omega)]
                          show _ = (cpL σ 45 f 45 g a d k).2.1 51 0 _
                          rw [cpL2, if_neg (by omega)]
                          exact ht.old t4 hj
                      · rw [wI_16, wI1, if_neg (by omega), t1, wI_16]
                    · exact f117 (by omega)
                · refine s_refuse hC ?_
                  conv => whnf
                  refine ⟨Or.inl rfl, mod _ _ ht.m.c (fun p => by omega) (fun _ _ _ => ?_) (fun _ _ p => absurd p c8) (fun _ _ p => absurd p c8)⟩
                  exact h _ _ (hR.sc done2.1 done2.2)
          · exact c30 (by omega)
