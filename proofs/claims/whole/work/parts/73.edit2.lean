theorem s_lend {CALL : CT} (hC : RuleAll CALL) {r : Nat} {σ : AM} {K : AV → AM → Prop} {n m o e1 e2 : Nat} {is : Bool} (hm : m < 7) (ho : o < 7) (hmo : m ≠ o) (h1 : σ.1 34 n m = Int32.ofInt (e1 : Int)) (h2 : σ.1 34 n o = Int32.ofInt (e2 : Int)) (b1 : e1 < 128) (b2 : e2 < 128) (h : K unset (wI (wI σ 34 n m (Int32.ofInt (setW e1 o is : Nat))) 34 n o (Int32.ofInt (setW e2 m is : Nat)))) : CALL (r + 2) n_Monks_lend [.inr (.inr (27, n)), .inl (Int32.ofInt m), .inl (Int32.ofInt o), .inl (bI is)] σ K := by
  refine r_Monks_lend hC (fun J hJ => ?_)
  refine hJ _ _ _ _ ?_
  conv => whnf
  refine ⟨(oi_in (by omega) (by omega)).mpr ⟨by omega, by omega⟩, ?_⟩
  conv => whnf
  rw [oi_nat (by omega) (by omega), Int.toNat_natCast, h1]
  refine s_with hC b1 ho ?_
  conv => whnf
  refine ⟨(oi_in (by omega) (by omega)).mpr ⟨by omega, by omega⟩, ?_⟩
  conv => whnf
  refine ⟨(oi_in (by omega) (by omega)).mpr ⟨by omega, by omega⟩, ?_⟩
  conv => whnf
  rw [oi_nat (by omega) (by omega), oi_nat (by omega) (by omega), Int.toNat_natCast, Int.toNat_natCast, show (wI σ 34 n m (Int32.ofInt (setW e1 o is : Nat))).1 34 n o = Int32.ofInt (e2 : Int) by rw [wI1, if_neg (by omega), h2]]
  refine s_with hC b2 hm ?_
  conv => whnf
  refine ⟨(oi_in (by omega) (by omega)).mpr ⟨by omega, by omega⟩, ?_⟩
  conv => whnf
  rw [oi_nat (by omega) (by omega), Int.toNat_natCast]
  exact h
theorem sym_lend {h : Nat → Int} {m o e1 e2 : Nat} (hw : WF h) (hs : SymE h) (hm : (m : Int) < h 1) (ho : (o : Int) < h 1) (hmo : m ≠ o) (h1 : h (30 + 7 * m) = (e1 : Int)) (h2 : h (30 + 7 * o) = (e2 : Int)) : SymE (up (up h (30 + 7 * m) ((e1 ^^^ 2 ^ o : Nat) : Int)) (30 + 7 * o) ((e2 ^^^ 2 ^ m : Nat) : Int)) := by
  have b := hw.1
  have key : ∀ a c : Nat, ((up (up h (30 + 7 * m) ((e1 ^^^ 2 ^ o : Nat) : Int)) (30 + 7 * o) ((e2 ^^^ 2 ^ m : Nat) : Int)) (30 + 7 * a)).toNat.testBit c = ((h (30 + 7 * a)).toNat.testBit c ^^ decide ((a = m ∧ c = o) ∨ (a = o ∧ c = m))) := by
    intro a c
    by_cases ao : a = o
    · subst ao
      rw [up_eq, h2, Int.toNat_natCast, Int.toNat_natCast, Nat.testBit_xor, Nat.testBit_two_pow]
      congr 1
      exact decide_eq_decide.mpr ⟨fun z => Or.inr ⟨rfl, z.symm⟩, fun z => by omega⟩
    · rw [up_ne (by omega)]
      by_cases am : a = m
      · subst am
        rw [up_eq, h1, Int.toNat_natCast, Int.toNat_natCast, Nat.testBit_xor, Nat.testBit_two_pow]
        congr 1
        exact decide_eq_decide.mpr ⟨fun z => Or.inl ⟨rfl, z.symm⟩, fun z => by omega⟩
      · rw [up_ne (by omega), decide_eq_false (by omega), Bool.xor_false]
  intro a c ha hc
  rw [up_ne (by omega), up_ne (by omega)] at ha hc
  rw [key a c, key c a, hs a c ha hc]
  congr 1
  exact decide_eq_decide.mpr (by omega)
theorem op_hear {CALL : CT} (hC : RuleAll CALL) {r : Nat} {σ : AM} {K : AV → AV → AM → Prop} (hR : Rel σ) {z y : Int} {is : Bool} (z1 : -2147483648 ≤ z) (z2 : z < 2147483648) (y1 : -2147483648 ≤ y) (y2 : y < 2147483648) (h : ∀ v σ2, Rel σ2 → K v v σ2) : CALL (r + 20) n_x_hear [.inr (.inr (1, 0)), .inl (Int32.ofInt z), .inl (Int32.ofInt y), .inl (bI is)] σ (fun v σ1 => CALL (r + 20) n_m_hear [.inr (.inr (46, 0)), .inl (Int32.ofInt z), .inl (Int32.ofInt y), .inl (bI is)] σ1 (fun v' σ2 => K v v' σ2)) := by
  obtain ⟨⟨n, p, h0, ha⟩, hb, hst⟩ := id hR
  have hn := ha.nh
  obtain ⟨n45, hnn, hr, hm, ⟨hw, hw67⟩, h59⟩ := id hn
  have b := hw.1
  have hsy : SymE h0 := ha.2.2.2.2.2.2.2.2.2.2.1
  obtain ⟨q0, q1, q2, q3, q4, q5, q6, q7, q8, q9, qa, qt, qm, qe⟩ := id hr
  have bad : ¬ ((0 ≤ z ∧ z < h0 1) ∧ (0 ≤ y ∧ y < h0 1) ∧ z ≠ y) → CALL (r + 20) n_m_hear [.inr (.inr (46, 0)), .inl (Int32.ofInt z), .inl (Int32.ofInt y), .inl (bI is)] (wI σ 1 0 16 (Int32.ofInt 1)) (fun v' σ2 => K (.inl (Int32.ofInt 0)) v' σ2) := by
    intro hbd
    refine r_m_hear hC (fun J hJ => ?_)
    have fin : J 21 [.inr (.inr (46, 0)), .inl (Int32.ofInt z), .inl (Int32.ofInt y), .inl (bI is)] [] (wI σ 1 0 16 (Int32.ofInt 1)) := by
      refine hJ _ _ _ _ ?_
      conv => whnf
      refine s_m_is hC (x := 1) (by omega) (by omega) ?_
      conv => whnf
      refine ⟨Or.inl rfl, ?_⟩
      exact h _ _ (hR.sc done2.1 done2.2)
    refine hJ _ _ _ _ ?_
    conv => whnf
    refine s_m_isMonk hC hm.c hw (by omega) (by omega) ?_
    conv => whnf
    refine ⟨fun c2 => ?_, fun c2 => ?_⟩ <;> (try simp (disch := omega) only [oi_le, oi_lt, oi_eq, oi_lt0, oi_le0, oi_0lt, oi_0le, oi_eq0, oi_eq1, bI_eq0, bI_ne0, bI_eq1, decide_eq_true_eq, decide_eq_false_iff_not, lc_lt, lc_gt, lc_eq, lc_ge, lc_le, ol_lt, ol_eq, ne_eq, Int.not_lt, Int.not_le, Bool.not_eq_true, Bool.not_eq_false, Decidable.not_not, not_true_eq_false, not_false_eq_true, Bool.true_eq_false, Bool.false_eq_true] at c2) <;> (first | (exfalso; omega) | ((fail_if_success with_reducible refine hJ _ _ _ _ ?_); conv => whnf) | skip)
    · exact fin
    · refine s_m_isMonk hC hm.c hw (by omega) (by omega) ?_
      conv => whnf
      refine ⟨fun c3 => ?_, fun c3 => ?_⟩ <;> (try simp (disch := omega) only [oi_le, oi_lt, oi_eq, oi_lt0, oi_le0, oi_0lt, oi_0le, oi_eq0, oi_eq1, bI_eq0, bI_ne0, bI_eq1, decide_eq_true_eq, decide_eq_false_iff_not, lc_lt, lc_gt, lc_eq, lc_ge, lc_le, ol_lt, ol_eq, ne_eq, Int.not_lt, Int.not_le, Bool.not_eq_true, Bool.not_eq_false, Decidable.not_not, not_true_eq_false, not_false_eq_true, Bool.true_eq_false, Bool.false_eq_true] at c3) <;> (first | (exfalso; omega) | ((fail_if_success with_reducible refine hJ _ _ _ _ ?_); conv => whnf) | skip)
      · exact fin
      · refine ⟨fun c4 => ?_, fun c4 => ?_⟩ <;> (try simp (disch := omega) only [oi_le, oi_lt, oi_eq, oi_lt0, oi_le0, oi_0lt, oi_0le, oi_eq0, oi_eq1, bI_eq0, bI_ne0, bI_eq1, decide_eq_true_eq, decide_eq_false_iff_not, lc_lt, lc_gt, lc_eq, lc_ge, lc_le, ol_lt, ol_eq, ne_eq, Int.not_lt, Int.not_le, Bool.not_eq_true, Bool.not_eq_false, Decidable.not_not, not_true_eq_false, not_false_eq_true, Bool.true_eq_false, Bool.false_eq_true] at c4) <;> (first | (exfalso; omega) | ((fail_if_success with_reducible refine hJ _ _ _ _ ?_); conv => whnf) | skip)
        exact fin
  refine r_x_hear hC (fun J hJ => ?_)
  have c21 : ¬ ((0 ≤ z ∧ z < h0 1) ∧ (0 ≤ y ∧ y < h0 1) ∧ z ≠ y) → J 21 [.inr (.inr (1, 0)), .inl (Int32.ofInt z), .inl (Int32.ofInt y), .inl (bI is)] [] σ := by
    intro hbd
    refine hJ _ _ _ _ ?_
    conv => whnf
    refine s_refuse hC ?_
    conv => whnf
    exact ⟨Or.inl rfl, bad hbd⟩
  refine hJ _ _ _ _ ?_
  conv => whnf
  refine s_isMonk hC hn z1 z2 ?_
  conv => whnf
  refine ⟨fun c => ?_, fun c => ?_⟩ <;> (try simp (disch := omega) only [oi_le, oi_lt, oi_eq, oi_lt0, oi_le0, oi_0lt, oi_0le, oi_eq0, oi_eq1, bI_eq0, bI_ne0, bI_eq1, decide_eq_true_eq, decide_eq_false_iff_not, lc_lt, lc_gt, lc_eq, lc_ge, lc_le, ol_lt, ol_eq, ne_eq, Int.not_lt, Int.not_le, Bool.not_eq_true, Bool.not_eq_false, Decidable.not_not, not_true_eq_false, not_false_eq_true, Bool.true_eq_false, Bool.false_eq_true] at c) <;> (first | (exfalso; omega) | ((fail_if_success with_reducible refine hJ _ _ _ _ ?_); conv => whnf) | skip)
  · exact c21 (by omega)
  · refine s_isMonk hC hn y1 y2 ?_
    conv => whnf
    refine ⟨fun c2 => ?_, fun c2 => ?_⟩ <;> (try simp (disch := omega) only [oi_le, oi_lt, oi_eq, oi_lt0, oi_le0, oi_0lt, oi_0le, oi_eq0, oi_eq1, bI_eq0, bI_ne0, bI_eq1, decide_eq_true_eq, decide_eq_false_iff_not, lc_lt, lc_gt, lc_eq, lc_ge, lc_le, ol_lt, ol_eq, ne_eq, Int.not_lt, Int.not_le, Bool.not_eq_true, Bool.not_eq_false, Decidable.not_not, not_true_eq_false, not_false_eq_true, Bool.true_eq_false, Bool.false_eq_true] at c2) <;> (first | (exfalso; omega) | ((fail_if_success with_reducible refine hJ _ _ _ _ ?_); conv => whnf) | skip)
    · exact c21 (by omega)
    · refine ⟨fun c3 => ?_, fun c3 => ?_⟩ <;> (try simp (disch := omega) only [oi_le, oi_lt, oi_eq, oi_lt0, oi_le0, oi_0lt, oi_0le, oi_eq0, oi_eq1, bI_eq0, bI_ne0, bI_eq1, decide_eq_true_eq, decide_eq_false_iff_not, lc_lt, lc_gt, lc_eq, lc_ge, lc_le, ol_lt, ol_eq, ne_eq, Int.not_lt, Int.not_le, Bool.not_eq_true, Bool.not_eq_false, Decidable.not_not, not_true_eq_false, not_false_eq_true, Bool.true_eq_false, Bool.false_eq_true] at c3) <;> (first | (exfalso; omega) | ((fail_if_success with_reducible refine hJ _ _ _ _ ?_); conv => whnf) | skip)
      · obtain ⟨t, rfl⟩ : ∃ t : Nat, z = (t : Int) := ⟨z.toNat, by omega⟩
        obtain ⟨u, rfl⟩ : ∃ u : Nat, y = (u : Int) := ⟨y.toNat, by omega⟩
        have htw := hw.2.2.1 t c.2
        have huw := hw.2.2.1 u c2.2
        obtain ⟨a, ea⟩ : ∃ a : Nat, h0 (30 + 7 * t) = (a : Int) := ⟨(h0 (30 + 7 * t)).toNat, by omega⟩
        obtain ⟨a2, ea2⟩ : ∃ a : Nat, h0 (30 + 7 * u) = (a : Int) := ⟨(h0 (30 + 7 * u)).toNat, by omega⟩
        have es := hsy t u c.2 c2.2
        rw [ea, ea2, Int.toNat_natCast, Int.toNat_natCast] at es
        have e34 : σ.1 34 n t = Int32.ofInt (a : Int) := by rw [(qm t c.2).2.2.2.2.2, ea]
        have e34u : σ.1 34 n u = Int32.ofInt (a2 : Int) := by rw [(qm u c2.2).2.2.2.2.2, ea2]
        have ent : ∀ τ : AM, ∀ K' : AV → AM → Prop, M0 τ h0 → (a.testBit u = is → K' (.inl (Int32.ofInt 0)) (wI τ 46 0 2 (Int32.ofInt 7))) → (a.testBit u ≠ is → K' (.inl (Int32.ofInt 1)) (wI (wI (wI τ 47 0 (30 + 7 * t) (Int32.ofInt ((a ^^^ 2 ^ u : Nat) : Int))) 47 0 (30 + 7 * u) (Int32.ofInt ((a2 ^^^ 2 ^ t : Nat) : Int))) 46 0 2 (Int32.ofInt 0))) → CALL (r + 20) n_m_hear [.inr (.inr (46, 0)), .inl (Int32.ofInt (t : Int)), .inl (Int32.ofInt (u : Int)), .inl (bI is)] τ K' := by
          intro τ K' hmt k1 k2
          refine r_m_hear hC (fun J hJ => ?_)
          refine hJ _ _ _ _ ?_
          conv => whnf
          refine s_m_isMonk hC hmt hw (by omega) (by omega) ?_
          conv => whnf
          refine ⟨fun c5 => ?_, fun c5 => ?_⟩ <;> (try simp (disch := omega) only [oi_le, oi_lt, oi_eq, oi_lt0, oi_le0, oi_0lt, oi_0le, oi_eq0, oi_eq1, bI_eq0, bI_ne0, bI_eq1, decide_eq_true_eq, decide_eq_false_iff_not, lc_lt, lc_gt, lc_eq, lc_ge, lc_le, ol_lt, ol_eq, ne_eq, Int.not_lt, Int.not_le, Bool.not_eq_true, Bool.not_eq_false, Decidable.not_not, not_true_eq_false, not_false_eq_true, Bool.true_eq_false, Bool.false_eq_true] at c5) <;> (first | (exfalso; omega) | ((with_reducible refine hJ _ _ _ _ ?_); conv => whnf) | (conv => whnf))
          refine s_m_isMonk hC hmt hw (by omega) (by omega) ?_
          conv => whnf
          refine ⟨fun c6 => ?_, fun c6 => ?_⟩ <;> (try simp (disch := omega) only [oi_le, oi_lt, oi_eq, oi_lt0, oi_le0, oi_0lt, oi_0le, oi_eq0, oi_eq1, bI_eq0, bI_ne0, bI_eq1, decide_eq_true_eq, decide_eq_false_iff_not, lc_lt, lc_gt, lc_eq, lc_ge, lc_le, ol_lt, ol_eq, ne_eq, Int.not_lt, Int.not_le, Bool.not_eq_true, Bool.not_eq_false, Decidable.not_not, not_true_eq_false, not_false_eq_true, Bool.true_eq_false, Bool.false_eq_true] at c6) <;> (first | (exfalso; omega) | ((with_reducible refine hJ _ _ _ _ ?_); conv => whnf) | (conv => whnf))
          refine ⟨fun c7 => ?_, fun c7 => ?_⟩ <;> (try simp (disch := omega) only [oi_le, oi_lt, oi_eq, oi_lt0, oi_le0, oi_0lt, oi_0le, oi_eq0, oi_eq1, bI_eq0, bI_ne0, bI_eq1, decide_eq_true_eq, decide_eq_false_iff_not, lc_lt, lc_gt, lc_eq, lc_ge, lc_le, ol_lt, ol_eq, ne_eq, Int.not_lt, Int.not_le, Bool.not_eq_true, Bool.not_eq_false, Decidable.not_not, not_true_eq_false, not_false_eq_true, Bool.true_eq_false, Bool.false_eq_true] at c7) <;> (first | (exfalso; omega) | ((with_reducible refine hJ _ _ _ _ ?_); conv => whnf) | (conv => whnf))
          refine s_m_monkOf hC (w := 6) hmt (by omega) (by omega) ?_
          conv => whnf
          rw [show 24 + 7 * t + 6 = 30 + 7 * t by omega, ea]
          refine s_m_isIn hC (by omega) (by omega) ?_
          conv => whnf
          refine ⟨fun c8 => ?_, fun c8 => ?_⟩
          · rw [bI_inj] at c8
            refine hJ _ _ _ _ ?_
            conv => whnf
            refine s_m_monkRow hC ?_
            conv => whnf
            rw [oi_add]
            refine ⟨(oi_in (by omega) (by omega)).mpr ⟨by omega, by omega⟩, ?_⟩
            conv => whnf
            refine ⟨(oi_in (by omega) (by omega)).mpr ⟨by omega, by omega⟩, ?_⟩
            conv => whnf
            rw [oi_nat (by omega) (by omega), show (24 + 7 * (t : Int) + 6).toNat = 30 + 7 * t by omega, hmt _ (by omega), ea, oi_shl (by omega), oi_xor]
            refine s_m_monkRow hC ?_
            conv => whnf
            rw [oi_add]
            refine ⟨(oi_in (by omega) (by omega)).mpr ⟨by omega, by omega⟩, ?_⟩
            conv => whnf
            refine ⟨(oi_in (by omega) (by omega)).mpr ⟨by omega, by omega⟩, ?_⟩
            conv => whnf
            rw [oi_nat (by omega) (by omega), show (24 + 7 * (u : Int) + 6).toNat = 30 + 7 * u by omega, show (wI τ 47 0 (30 + 7 * t) (Int32.ofInt ((a ^^^ 2 ^ u : Nat) : Int))).1 47 0 (30 + 7 * u) = Int32.ofInt (a2 : Int) by rw [wI1, if_neg (by omega), hmt _ (by omega), ea2], oi_shl (by omega), oi_xor]
            refine s_m_is hC (x := 0) (by omega) (by omega) ?_
            conv => whnf
            exact ⟨Or.inr rfl, k2 c8⟩
          · rw [bI_inj] at c8
            conv => whnf
            refine s_m_is hC (x := 7) (by omega) (by omega) ?_
            conv => whnf
            exact ⟨Or.inl rfl, k1 c8⟩
        refine hJ _ _ _ _ ?_
        conv => whnf
        rw [hnn]
        refine ⟨by omega, ?_⟩
        conv => whnf
        refine ⟨(oi_in (by omega) (by omega)).mpr ⟨by omega, by omega⟩, ?_⟩
        conv => whnf
        rw [oi_nat (by omega) (by omega), Int.toNat_natCast, e34]
        refine s_has hC (by omega) (by omega) ?_
        conv => whnf
        refine ⟨fun c5 => ?_, fun c5 => ?_⟩
        · rw [bI_inj] at c5
          have exr := setW_xor (a := a) (k := u) (b := is) (by omega) (by omega) c5
          have exr2 := setW_xor (a := a2) (k := t) (b := is) (by omega) (by omega) (by rw [← es]; exact c5)
          have xl : a ^^^ 2 ^ u < 128 := Nat.xor_lt_two_pow (n := 7) (by omega) (Nat.pow_lt_pow_right (by omega) (by omega))
          have xl2 : a2 ^^^ 2 ^ t < 128 := Nat.xor_lt_two_pow (n := 7) (by omega) (Nat.pow_lt_pow_right (by omega) (by omega))
          have uo : upOk h0 (30 + 7 * t) ((a ^^^ 2 ^ u : Nat) : Int) := Or.inr (Or.inr (Or.inr (Or.inr (Or.inr (Or.inr (Or.inr ⟨t, c.2, rfl, by omega, by omega⟩))))))
          have wk := WP.upd ⟨hw, hw67⟩ uo
          have uo2 : upOk (up h0 (30 + 7 * t) ((a ^^^ 2 ^ u : Nat) : Int)) (30 + 7 * u) ((a2 ^^^ 2 ^ t : Nat) : Int) := Or.inr (Or.inr (Or.inr (Or.inr (Or.inr (Or.inr (Or.inr ⟨u, by rw [up_ne (by omega)]; exact c2.2, rfl, by omega, by omega⟩))))))
          have wk2 := WP.upd wk uo2
          have u5 : up (up h0 (30 + 7 * t) ((a ^^^ 2 ^ u : Nat) : Int)) (30 + 7 * u) ((a2 ^^^ 2 ^ t : Nat) : Int) 5 = h0 5 := by rw [up_ne (by omega), up_ne (by omega)]
          refine hJ _ _ _ _ ?_
          conv => whnf
          rw [hnn]
          refine ⟨by omega, ?_⟩
          conv => whnf
          refine s_lend hC (by omega) (by omega) (by omega) e34 e34u (by omega) (by omega) ?_
          conv => whnf
          rw [exr, exr2]
          refine s_agree hC ?_
          conv => whnf
          refine ⟨Or.inr rfl, ?_⟩
          have hm1 : M0 (wI (wI (wI σ 34 n t (Int32.ofInt ((a ^^^ 2 ^ u : Nat) : Int))) 34 n u (Int32.ofInt ((a2 ^^^ 2 ^ t : Nat) : Int))) 1 0 16 (Int32.ofInt 0)) h0 := M0.c (hm.fr (fun j _ => by rw [wI1, if_neg (by omega), wI1, if_neg (by omega)]))
          refine ent _ _ hm1 (fun z => absurd z c5) (fun _ => ?_)
          have hr1 : HRep (wI σ 34 n t (Int32.ofInt ((a ^^^ 2 ^ u : Nat) : Int))) n (up h0 (30 + 7 * t) ((a ^^^ 2 ^ u : Nat) : Int)) := HRep.upd (t := 34) (j := t) hr hw (Or.inr (Or.inr (Or.inr (Or.inr (Or.inl ⟨by omega, by omega, c.2⟩))))) ⟨by show 30 + 7 * t ≠ 0; omega, by show 30 + 7 * t ≠ 1; omega, by show 30 + 7 * t ≠ 2; omega⟩
          have hr2 : HRep (wI (wI σ 34 n t (Int32.ofInt ((a ^^^ 2 ^ u : Nat) : Int))) 34 n u (Int32.ofInt ((a2 ^^^ 2 ^ t : Nat) : Int))) n (up (up h0 (30 + 7 * t) ((a ^^^ 2 ^ u : Nat) : Int)) (30 + 7 * u) ((a2 ^^^ 2 ^ t : Nat) : Int)) := HRep.upd (t := 34) (j := u) hr1 wk.1 (Or.inr (Or.inr (Or.inr (Or.inr (Or.inl ⟨by omega, by omega, by rw [up_ne (by omega)]; exact c2.2⟩))))) ⟨by show 30 + 7 * u ≠ 0; omega, by show 30 + 7 * u ≠ 1; omega, by show 30 + 7 * u ≠ 2; omega⟩
          exact h _ _ (Rel.edit2 ha hb hr2.c (M0.fd hm1.upd.upd) wk2 (by omega) (sym_lend hw hsy c.2 c2.2 (by omega) ea ea2) (by rw [up_ne (by omega), up_ne (by omega)]) (by rw [up_ne (by omega), up_ne (by omega)]) (by rw [up_ne (by omega), up_ne (by omega)]) (((Ch.wI (cE_h (by omega) (by omega))).tr (Ch.wI (cE_h (by omega) (by omega)))).tr (Ch.wI cE_c)) (((Ch.wI (mE_a (by omega))).tr (Ch.wI (mE_a (by omega)))).tr (Ch.wI mE_s)) wI_16 wI_16)
        · rw [bI_inj] at c5
          conv => whnf
          refine s_refuse hC ?_
          conv => whnf
          refine ⟨Or.inl rfl, ?_⟩
          refine ent _ _ hm.c (fun _ => ?_) (fun z => absurd c5 z)
          exact h _ _ (hR.sc done2.1 done2.2)
      · exact c21 (by omega)
theorem op_breathe {CALL : CT} (hC : RuleAll CALL) {r : Nat} {σ : AM} {K : AV → AV → AM → Prop} (hR : Rel σ) {z y : Int} (z1 : -2147483648 ≤ z) (z2 : z < 2147483648) (y1 : -2147483648 ≤ y) (y2 : y < 2147483648) (h : ∀ v σ2, Rel σ2 → K v v σ2) : CALL (r + 20) n_x_breathe [.inr (.inr (1, 0)), .inl (Int32.ofInt z), .inl (Int32.ofInt y)] σ (fun v σ1 => CALL (r + 20) n_m_breathe [.inr (.inr (46, 0)), .inl (Int32.ofInt z), .inl (Int32.ofInt y)] σ1 (fun v' σ2 => K v v' σ2)) := by
  obtain ⟨⟨n, p, h0, ha⟩, hb, hst⟩ := id hR
  have hn := ha.nh
  obtain ⟨n45, hnn, hr, hm, ⟨hw, hw67⟩, h59⟩ := id hn
  have b := hw.1
  have hsy : SymE h0 := ha.2.2.2.2.2.2.2.2.2.2.1
  obtain ⟨q0, q1, q2, q3, q4, q5, q6, q7, q8, q9, qa, qt, qm, qe⟩ := id hr
  have bad : ¬ ((0 ≤ z ∧ z < h0 1) ∧ (0 ≤ y ∧ y ≤ h0 (25 + 7 * z.toNat))) → CALL (r + 20) n_m_breathe [.inr (.inr (46, 0)), .inl (Int32.ofInt z), .inl (Int32.ofInt y)] (wI σ 1 0 16 (Int32.ofInt 1)) (fun v' σ2 => K (.inl (Int32.ofInt 0)) v' σ2) := by
    intro hbd
    refine r_m_breathe hC (fun J hJ => ?_)
    have fin : J 24 [.inr (.inr (46, 0)), .inl (Int32.ofInt z), .inl (Int32.ofInt y)] [] (wI σ 1 0 16 (Int32.ofInt 1)) := by
      refine hJ _ _ _ _ ?_
      conv => whnf
      refine s_m_is hC (x := 1) (by omega) (by omega) ?_
      conv => whnf
      refine ⟨Or.inl rfl, ?_⟩
      exact h _ _ (hR.sc done2.1 done2.2)
    refine hJ _ _ _ _ ?_
    conv => whnf
    refine s_m_isMonk hC hm.c hw (by omega) (by omega) ?_
    conv => whnf
    refine ⟨fun c2 => ?_, fun c2 => ?_⟩ <;> (try simp (disch := omega) only [oi_le, oi_lt, oi_eq, oi_lt0, oi_le0, oi_0lt, oi_0le, oi_eq0, oi_eq1, bI_eq0, bI_ne0, bI_eq1, decide_eq_true_eq, decide_eq_false_iff_not, lc_lt, lc_gt, lc_eq, lc_ge, lc_le, ol_lt, ol_eq, ne_eq, Int.not_lt, Int.not_le, Bool.not_eq_true, Bool.not_eq_false, Decidable.not_not, not_true_eq_false, not_false_eq_true, Bool.true_eq_false, Bool.false_eq_true] at c2) <;> (first | (exfalso; omega) | ((fail_if_success with_reducible refine hJ _ _ _ _ ?_); conv => whnf) | skip)
    · exact fin
    · obtain ⟨t, rfl⟩ : ∃ t : Nat, z = (t : Int) := ⟨z.toNat, by omega⟩
      have htw := hw.2.2.1 t c2.2
      rw [Int.toNat_natCast] at hbd
      refine s_m_monkOf hC (w := 1) hm.c (by omega) (by omega) ?_
      conv => whnf
      rw [show 24 + 7 * t + 1 = 25 + 7 * t by omega, oi_l (by omega) (by omega), oi_l (by omega) (by omega)]
      refine s_m_isFrom hC (by omega) (by omega) (by omega) (by omega) (by omega) (by omega) ?_
      conv => whnf
      refine ⟨fun c3 => ?_, fun c3 => ?_⟩ <;> (try simp (disch := omega) only [oi_le, oi_lt, oi_eq, oi_lt0, oi_le0, oi_0lt, oi_0le, oi_eq0, oi_eq1, bI_eq0, bI_ne0, bI_eq1, decide_eq_true_eq, decide_eq_false_iff_not, lc_lt, lc_gt, lc_eq, lc_ge, lc_le, ol_lt, ol_eq, ne_eq, Int.not_lt, Int.not_le, Bool.not_eq_true, Bool.not_eq_false, Decidable.not_not, not_true_eq_false, not_false_eq_true, Bool.true_eq_false, Bool.false_eq_true] at c3) <;> (first | (exfalso; omega) | ((fail_if_success with_reducible refine hJ _ _ _ _ ?_); conv => whnf) | skip)
      exact fin
  refine r_x_breathe hC (fun J hJ => ?_)
  have c28 : ¬ ((0 ≤ z ∧ z < h0 1) ∧ (0 ≤ y ∧ y ≤ h0 (25 + 7 * z.toNat))) → J 28 [.inr (.inr (1, 0)), .inl (Int32.ofInt z), .inl (Int32.ofInt y)] [] σ := by
    intro hbd
    refine hJ _ _ _ _ ?_
    conv => whnf
    refine s_refuse hC ?_
    conv => whnf
    exact ⟨Or.inl rfl, bad hbd⟩
  refine hJ _ _ _ _ ?_
  conv => whnf
  refine s_isMonk hC hn z1 z2 ?_
  conv => whnf
  refine ⟨fun c => ?_, fun c => ?_⟩ <;> (try simp (disch := omega) only [oi_le, oi_lt, oi_eq, oi_lt0, oi_le0, oi_0lt, oi_0le, oi_eq0, oi_eq1, bI_eq0, bI_ne0, bI_eq1, decide_eq_true_eq, decide_eq_false_iff_not, lc_lt, lc_gt, lc_eq, lc_ge, lc_le, ol_lt, ol_eq, ne_eq, Int.not_lt, Int.not_le, Bool.not_eq_true, Bool.not_eq_false, Decidable.not_not, not_true_eq_false, not_false_eq_true, Bool.true_eq_false, Bool.false_eq_true] at c) <;> (first | (exfalso; omega) | ((fail_if_success with_reducible refine hJ _ _ _ _ ?_); conv => whnf) | skip)
  · exact c28 (by omega)
  · obtain ⟨t, rfl⟩ : ∃ t : Nat, z = (t : Int) := ⟨z.toNat, by omega⟩
    have htw := hw.2.2.1 t c.2
    rw [Int.toNat_natCast] at c28
    rw [hnn]
    refine ⟨by omega, ?_⟩
    conv => whnf
    refine ⟨(oi_in (by omega) (by omega)).mpr ⟨by omega, by omega⟩, ?_⟩
    conv => whnf
    rw [oi_nat (by omega) (by omega), Int.toNat_natCast, (qm t c.2).2.1]
    refine s_withinI hC (by omega) (by omega) (by omega) (by omega) (by omega) (by omega) ?_
    conv => whnf
    refine ⟨fun c2 => ?_, fun c2 => ?_⟩ <;> (try simp (disch := omega) only [oi_le, oi_lt, oi_eq, oi_lt0, oi_le0, oi_0lt, oi_0le, oi_eq0, oi_eq1, bI_eq0, bI_ne0, bI_eq1, decide_eq_true_eq, decide_eq_false_iff_not, lc_lt, lc_gt, lc_eq, lc_ge, lc_le, ol_lt, ol_eq, ne_eq, Int.not_lt, Int.not_le, Bool.not_eq_true, Bool.not_eq_false, Decidable.not_not, not_true_eq_false, not_false_eq_true, Bool.true_eq_false, Bool.false_eq_true] at c2) <;> (first | (exfalso; omega) | ((fail_if_success with_reducible refine hJ _ _ _ _ ?_); conv => whnf) | skip)
    · have uo : upOk h0 (24 + 7 * t) y := Or.inr (Or.inr (Or.inr (Or.inr (Or.inr (Or.inl ⟨t, c.2, rfl, c2.1, c2.2⟩)))))
      have wk := WP.upd ⟨hw, hw67⟩ uo
      have u5 : up h0 (24 + 7 * t) y 5 = h0 5 := up_ne (by omega)
      refine hJ _ _ _ _ ?_
      conv => whnf
      rw [hnn]
      refine ⟨by omega, ?_⟩
      conv => whnf
      refine ⟨(oi_in (by omega) (by omega)).mpr ⟨by omega, by omega⟩, ?_⟩
      conv => whnf
      rw [oi_nat (by omega) (by omega), Int.toNat_natCast]
      refine s_agree hC ?_
      conv => whnf
      refine ⟨Or.inr rfl, ?_⟩
      have hm1 : M0 (wI (wI σ 29 n t (Int32.ofInt y)) 1 0 16 (Int32.ofInt 0)) h0 := M0.c (hm.fr (fun j _ => by rw [wI1, if_neg (by omega)]))
      refine r_m_breathe hC (fun J hJ => ?_)
      refine hJ _ _ _ _ ?_
      conv => whnf
      refine s_m_isMonk hC hm1 hw (by omega) (by omega) ?_
      conv => whnf
      refine ⟨fun c3 => ?_, fun c3 => ?_⟩ <;> (try simp (disch := omega) only [oi_le, oi_lt, oi_eq, oi_lt0, oi_le0, oi_0lt, oi_0le, oi_eq0, oi_eq1, bI_eq0, bI_ne0, bI_eq1, decide_eq_true_eq, decide_eq_false_iff_not, lc_lt, lc_gt, lc_eq, lc_ge, lc_le, ol_lt, ol_eq, ne_eq, Int.not_lt, Int.not_le, Bool.not_eq_true, Bool.not_eq_false, Decidable.not_not, not_true_eq_false, not_false_eq_true, Bool.true_eq_false, Bool.false_eq_true] at c3) <;> (first | (exfalso; omega) | ((with_reducible refine hJ _ _ _ _ ?_); conv => whnf) | (conv => whnf))
      refine s_m_monkOf hC (w := 1) hm1 (by omega) (by omega) ?_
      conv => whnf
      rw [show 24 + 7 * t + 1 = 25 + 7 * t by omega, oi_l (by omega) (by omega), oi_l (by omega) (by omega)]
      refine s_m_isFrom hC (by omega) (by omega) (by omega) (by omega) (by omega) (by omega) ?_
      conv => whnf
      refine ⟨fun c4 => ?_, fun c4 => ?_⟩ <;> (try simp (disch := omega) only [oi_le, oi_lt, oi_eq, oi_lt0, oi_le0, oi_0lt, oi_0le, oi_eq0, oi_eq1, bI_eq0, bI_ne0, bI_eq1, decide_eq_true_eq, decide_eq_false_iff_not, lc_lt, lc_gt, lc_eq, lc_ge, lc_le, ol_lt, ol_eq, ne_eq, Int.not_lt, Int.not_le, Bool.not_eq_true, Bool.not_eq_false, Decidable.not_not, not_true_eq_false, not_false_eq_true, Bool.true_eq_false, Bool.false_eq_true] at c4) <;> (first | (exfalso; omega) | ((with_reducible refine hJ _ _ _ _ ?_); conv => whnf) | (conv => whnf))
      refine s_m_monkRow hC ?_
      conv => whnf
      refine ⟨(oi_in (by omega) (by omega)).mpr ⟨by omega, by omega⟩, ?_⟩
      conv => whnf
      rw [oi_nat (by omega) (by omega), show (24 + 7 * (t : Int)).toNat = 24 + 7 * t by omega]
      refine s_m_is hC (x := 0) (by omega) (by omega) ?_
      conv => whnf
      refine ⟨Or.inr rfl, ?_⟩
      have hr1 : HRep (wI σ 29 n t (Int32.ofInt y)) n (up h0 (24 + 7 * t) y) := HRep.upd (t := 29) (j := t) hr hw (Or.inr (Or.inr (Or.inr (Or.inr (Or.inl ⟨by omega, by omega, c.2⟩))))) ⟨by show 24 + 7 * t ≠ 0; omega, by show 24 + 7 * t ≠ 1; omega, by show 24 + 7 * t ≠ 2; omega⟩
      exact h _ _ (Rel.edit2 ha hb hr1.c (M0.fd hm1.upd) wk (by omega) (hsy.cg (up_ne (by omega)) (fun m _ => up_ne (by omega))) (up_ne (by omega)) (up_ne (by omega)) (up_ne (by omega)) ((Ch.wI (cE_h (by omega) (by omega))).tr (Ch.wI cE_c)) ((Ch.wI (mE_a (by omega))).tr (Ch.wI mE_s)) wI_16 wI_16)
    · exact c28 (by omega)
theorem op_price {CALL : CT} (hC : RuleAll CALL) {r : Nat} {σ : AM} {K : AV → AV → AM → Prop} (hR : Rel σ) {z y : Int} (z1 : -2147483648 ≤ z) (z2 : z < 2147483648) (y1 : -2147483648 ≤ y) (y2 : y < 2147483648) (h : ∀ v σ2, Rel σ2 → K v v σ2) : CALL (r + 20) n_x_price [.inr (.inr (1, 0)), .inl (Int32.ofInt z), .inl (Int32.ofInt y)] σ (fun v σ1 => CALL (r + 20) n_m_price [.inr (.inr (46, 0)), .inl (Int32.ofInt z), .inl (Int32.ofInt y)] σ1 (fun v' σ2 => K v v' σ2)) := by
  obtain ⟨⟨n, p, h0, ha⟩, hb, hst⟩ := id hR
  have hn := ha.nh
  obtain ⟨n45, hnn, hr, hm, ⟨hw, hw67⟩, h59⟩ := id hn
  have b := hw.1
  have hsy : SymE h0 := ha.2.2.2.2.2.2.2.2.2.2.1
  obtain ⟨q0, q1, q2, q3, q4, q5, q6, q7, q8, q9, qa, qt, qm, qe⟩ := id hr
  have bad : ¬ ((0 ≤ z ∧ z < h0 0) ∧ (0 ≤ y ∧ y ≤ 20)) → CALL (r + 20) n_m_price [.inr (.inr (46, 0)), .inl (Int32.ofInt z), .inl (Int32.ofInt y)] (wI σ 1 0 16 (Int32.ofInt 1)) (fun v' σ2 => K (.inl (Int32.ofInt 0)) v' σ2) := by
    intro hbd
    refine r_m_price hC (fun J hJ => ?_)
    have fin : J 21 [.inr (.inr (46, 0)), .inl (Int32.ofInt z), .inl (Int32.ofInt y)] [] (wI σ 1 0 16 (Int32.ofInt 1)) := by
      refine hJ _ _ _ _ ?_
      conv => whnf
      refine s_m_is hC (x := 1) (by omega) (by omega) ?_
      conv => whnf
      refine ⟨Or.inl rfl, ?_⟩
      exact h _ _ (hR.sc done2.1 done2.2)
    refine hJ _ _ _ _ ?_
    conv => whnf
    rw [oi_l (by omega) (by omega)]
    refine s_m_isTopic hC hm.c hw (by omega) (by omega) ?_
    conv => whnf
    refine ⟨fun c2 => ?_, fun c2 => ?_⟩ <;> (try simp (disch := omega) only [oi_le, oi_lt, oi_eq, oi_lt0, oi_le0, oi_0lt, oi_0le, oi_eq0, oi_eq1, bI_eq0, bI_ne0, bI_eq1, decide_eq_true_eq, decide_eq_false_iff_not, lc_lt, lc_gt, lc_eq, lc_ge, lc_le, ol_lt, ol_eq, ne_eq, Int.not_lt, Int.not_le, Bool.not_eq_true, Bool.not_eq_false, Decidable.not_not, not_true_eq_false, not_false_eq_true, Bool.true_eq_false, Bool.false_eq_true] at c2) <;> (first | (exfalso; omega) | ((fail_if_success with_reducible refine hJ _ _ _ _ ?_); conv => whnf) | skip)
    · exact fin
    · rw [oi_l (by omega) (by omega)]
      refine s_m_isFrom hC (by omega) (by omega) (by omega) (by omega) (by omega) (by omega) ?_
      conv => whnf
      refine ⟨fun c3 => ?_, fun c3 => ?_⟩ <;> (try simp (disch := omega) only [oi_le, oi_lt, oi_eq, oi_lt0, oi_le0, oi_0lt, oi_0le, oi_eq0, oi_eq1, bI_eq0, bI_ne0, bI_eq1, decide_eq_true_eq, decide_eq_false_iff_not, lc_lt, lc_gt, lc_eq, lc_ge, lc_le, ol_lt, ol_eq, ne_eq, Int.not_lt, Int.not_le, Bool.not_eq_true, Bool.not_eq_false, Decidable.not_not, not_true_eq_false, not_false_eq_true, Bool.true_eq_false, Bool.false_eq_true] at c3) <;> (first | (exfalso; omega) | ((fail_if_success with_reducible refine hJ _ _ _ _ ?_); conv => whnf) | skip)
      exact fin
  refine r_x_price hC (fun J hJ => ?_)
  have c18 : ¬ ((0 ≤ z ∧ z < h0 0) ∧ (0 ≤ y ∧ y ≤ 20)) → J 18 [.inr (.inr (1, 0)), .inl (Int32.ofInt z), .inl (Int32.ofInt y)] [] σ := by
    intro hbd
    refine hJ _ _ _ _ ?_
    conv => whnf
    refine s_refuse hC ?_
    conv => whnf
    exact ⟨Or.inl rfl, bad hbd⟩
  refine hJ _ _ _ _ ?_
  conv => whnf
  refine s_isTopic hC hn z1 z2 ?_
  conv => whnf
  refine ⟨fun c => ?_, fun c => ?_⟩ <;> (try simp (disch := omega) only [oi_le, oi_lt, oi_eq, oi_lt0, oi_le0, oi_0lt, oi_0le, oi_eq0, oi_eq1, bI_eq0, bI_ne0, bI_eq1, decide_eq_true_eq, decide_eq_false_iff_not, lc_lt, lc_gt, lc_eq, lc_ge, lc_le, ol_lt, ol_eq, ne_eq, Int.not_lt, Int.not_le, Bool.not_eq_true, Bool.not_eq_false, Decidable.not_not, not_true_eq_false, not_false_eq_true, Bool.true_eq_false, Bool.false_eq_true] at c) <;> (first | (exfalso; omega) | ((fail_if_success with_reducible refine hJ _ _ _ _ ?_); conv => whnf) | skip)
  · exact c18 (by omega)
  · obtain ⟨t, rfl⟩ : ∃ t : Nat, z = (t : Int) := ⟨z.toNat, by omega⟩
    have htw := hw.2.1 t c.2
    refine s_withinI hC (by omega) (by omega) (by omega) (by omega) (by omega) (by omega) ?_
    conv => whnf
    refine ⟨fun c2 => ?_, fun c2 => ?_⟩ <;> (try simp (disch := omega) only [oi_le, oi_lt, oi_eq, oi_lt0, oi_le0, oi_0lt, oi_0le, oi_eq0, oi_eq1, bI_eq0, bI_ne0, bI_eq1, decide_eq_true_eq, decide_eq_false_iff_not, lc_lt, lc_gt, lc_eq, lc_ge, lc_le, ol_lt, ol_eq, ne_eq, Int.not_lt, Int.not_le, Bool.not_eq_true, Bool.not_eq_false, Decidable.not_not, not_true_eq_false, not_false_eq_true, Bool.true_eq_false, Bool.false_eq_true] at c2) <;> (first | (exfalso; omega) | ((fail_if_success with_reducible refine hJ _ _ _ _ ?_); conv => whnf) | skip)
    · have uo : upOk h0 (12 + 2 * t) y := Or.inr (Or.inr (Or.inr (Or.inl ⟨t, c.2, rfl, c2.1, c2.2⟩)))
      have wk := WP.upd ⟨hw, hw67⟩ uo
      have u5 : up h0 (12 + 2 * t) y 5 = h0 5 := up_ne (by omega)
      refine hJ _ _ _ _ ?_
      conv => whnf
      rw [hnn]
      refine ⟨by omega, ?_⟩
      conv => whnf
      refine ⟨(oi_in (by omega) (by omega)).mpr ⟨by omega, by omega⟩, ?_⟩
      conv => whnf
      rw [oi_nat (by omega) (by omega), Int.toNat_natCast]
      refine s_agree hC ?_
      conv => whnf
      refine ⟨Or.inr rfl, ?_⟩
      have hm1 : M0 (wI (wI σ 25 n t (Int32.ofInt y)) 1 0 16 (Int32.ofInt 0)) h0 := M0.c (hm.fr (fun j _ => by rw [wI1, if_neg (by omega)]))
      refine r_m_price hC (fun J hJ => ?_)
      refine hJ _ _ _ _ ?_
      conv => whnf
      rw [oi_l (by omega) (by omega)]
      refine s_m_isTopic hC hm1 hw (by omega) (by omega) ?_
      conv => whnf
      refine ⟨fun c3 => ?_, fun c3 => ?_⟩ <;> (try simp (disch := omega) only [oi_le, oi_lt, oi_eq, oi_lt0, oi_le0, oi_0lt, oi_0le, oi_eq0, oi_eq1, bI_eq0, bI_ne0, bI_eq1, decide_eq_true_eq, decide_eq_false_iff_not, lc_lt, lc_gt, lc_eq, lc_ge, lc_le, ol_lt, ol_eq, ne_eq, Int.not_lt, Int.not_le, Bool.not_eq_true, Bool.not_eq_false, Decidable.not_not, not_true_eq_false, not_false_eq_true, Bool.true_eq_false, Bool.false_eq_true] at c3) <;> (first | (exfalso; omega) | ((with_reducible refine hJ _ _ _ _ ?_); conv => whnf) | (conv => whnf))
      rw [oi_l (by omega) (by omega)]
      refine s_m_isFrom hC (by omega) (by omega) (by omega) (by omega) (by omega) (by omega) ?_
      conv => whnf
      refine ⟨fun c4 => ?_, fun c4 => ?_⟩ <;> (try simp (disch := omega) only [oi_le, oi_lt, oi_eq, oi_lt0, oi_le0, oi_0lt, oi_0le, oi_eq0, oi_eq1, bI_eq0, bI_ne0, bI_eq1, decide_eq_true_eq, decide_eq_false_iff_not, lc_lt, lc_gt, lc_eq, lc_ge, lc_le, ol_lt, ol_eq, ne_eq, Int.not_lt, Int.not_le, Bool.not_eq_true, Bool.not_eq_false, Decidable.not_not, not_true_eq_false, not_false_eq_true, Bool.true_eq_false, Bool.false_eq_true] at c4) <;> (first | (exfalso; omega) | ((with_reducible refine hJ _ _ _ _ ?_); conv => whnf) | (conv => whnf))
      refine s_m_topicRow hC ?_
      conv => whnf
      refine ⟨(oi_in (by omega) (by omega)).mpr ⟨by omega, by omega⟩, ?_⟩
      conv => whnf
      rw [oi_nat (by omega) (by omega), show (12 + 2 * (t : Int)).toNat = 12 + 2 * t by omega]
      refine s_m_is hC (x := 0) (by omega) (by omega) ?_
      conv => whnf
      refine ⟨Or.inr rfl, ?_⟩
      have hr1 : HRep (wI σ 25 n t (Int32.ofInt y)) n (up h0 (12 + 2 * t) y) := HRep.upd (t := 25) (j := t) hr hw (Or.inr (Or.inr (Or.inr (Or.inl ⟨Or.inl rfl, c.2⟩)))) ⟨by show 12 + 2 * t ≠ 0; omega, by show 12 + 2 * t ≠ 1; omega, by show 12 + 2 * t ≠ 2; omega⟩
      exact h _ _ (Rel.edit2 ha hb hr1.c (M0.fd hm1.upd) wk (by omega) (hsy.cg (up_ne (by omega)) (fun m _ => up_ne (by omega))) (up_ne (by omega)) (up_ne (by omega)) (up_ne (by omega)) ((Ch.wI (cE_h (by omega) (by omega))).tr (Ch.wI cE_c)) ((Ch.wI (mE_a (by omega))).tr (Ch.wI mE_s)) wI_16 wI_16)
    · exact c18 (by omega)
theorem op_rule {CALL : CT} (hC : RuleAll CALL) {r : Nat} {σ : AM} {K : AV → AV → AM → Prop} (hR : Rel σ) {z y : Int} (z1 : -2147483648 ≤ z) (z2 : z < 2147483648) (y1 : -2147483648 ≤ y) (y2 : y < 2147483648) (h : ∀ v σ2, Rel σ2 → K v v σ2) : CALL (r + 20) n_x_rule [.inr (.inr (1, 0)), .inl (Int32.ofInt z), .inl (Int32.ofInt y)] σ (fun v σ1 => CALL (r + 20) n_m_rule [.inr (.inr (46, 0)), .inl (Int32.ofInt z), .inl (Int32.ofInt y)] σ1 (fun v' σ2 => K v v' σ2)) := by
  obtain ⟨⟨n, p, h0, ha⟩, hb, hst⟩ := id hR
  have hn := ha.nh
  obtain ⟨n45, hnn, hr, hm, ⟨hw, hw67⟩, h59⟩ := id hn
  have b := hw.1
  have hsy : SymE h0 := ha.2.2.2.2.2.2.2.2.2.2.1
  obtain ⟨q0, q1, q2, q3, q4, q5, q6, q7, q8, q9, qa, qt, qm, qe⟩ := id hr
  have mod : ∀ (τ : AM) (K' : AV → AM → Prop), (((z = 3 ∧ 1 ≤ y ∧ y ≤ 99) ∨ (z = 4 ∧ 0 ≤ y ∧ y ≤ 16)) → K' (.inl (Int32.ofInt 1)) (wI (wI τ 47 0 z.toNat (Int32.ofInt y)) 46 0 2 (Int32.ofInt 0))) → (¬ ((z = 3 ∧ 1 ≤ y ∧ y ≤ 99) ∨ (z = 4 ∧ 0 ≤ y ∧ y ≤ 16)) → K' (.inl (Int32.ofInt 0)) (wI τ 46 0 2 (Int32.ofInt 1))) → CALL (r + 20) n_m_rule [.inr (.inr (46, 0)), .inl (Int32.ofInt z), .inl (Int32.ofInt y)] τ K' := by
    intro τ K' k1 k2
    refine r_m_rule hC (fun J hJ => ?_)
    have fin : ¬ ((z = 3 ∧ 1 ≤ y ∧ y ≤ 99) ∨ (z = 4 ∧ 0 ≤ y ∧ y ≤ 16)) → J 42 [.inr (.inr (46, 0)), .inl (Int32.ofInt z), .inl (Int32.ofInt y)] [] τ := by
      intro hbd
      refine hJ _ _ _ _ ?_
      conv => whnf
      refine s_m_is hC (x := 1) (by omega) (by omega) ?_
      conv => whnf
      exact ⟨Or.inl rfl, k2 hbd⟩
    have fin2 : ∀ a c : Int, -1 ≤ a → a ≤ 100 → -1 ≤ c → c ≤ 100 → (3 ≤ z ∧ z ≤ 4) → (((z = 3 ∧ 1 ≤ y ∧ y ≤ 99) ∨ (z = 4 ∧ 0 ≤ y ∧ y ≤ 16)) ↔ (a ≤ y ∧ y ≤ c)) → J 36 [.inr (.inr (46, 0)), .inl (Int32.ofInt z), .inl (Int32.ofInt y)] [.inr (.inl (Int64.ofInt c)), .inr (.inl (Int64.ofInt a)), .inr (.inl (Int64.ofInt y))] τ := by
      intro a c a1 a2 c1 c2 hz hac
      refine hJ _ _ _ _ ?_
      conv => whnf
      refine s_m_isFrom hC (by omega) (by omega) (by omega) (by omega) (by omega) (by omega) ?_
      conv => whnf
      refine ⟨fun c3 => ?_, fun c3 => ?_⟩ <;> (try simp (disch := omega) only [oi_le, oi_lt, oi_eq, oi_lt0, oi_le0, oi_0lt, oi_0le, oi_eq0, oi_eq1, bI_eq0, bI_ne0, bI_eq1, decide_eq_true_eq, decide_eq_false_iff_not, lc_lt, lc_gt, lc_eq, lc_ge, lc_le, ol_lt, ol_eq, ne_eq, Int.not_lt, Int.not_le, Bool.not_eq_true, Bool.not_eq_false, Decidable.not_not, not_true_eq_false, not_false_eq_true, Bool.true_eq_false, Bool.false_eq_true] at c3) <;> (first | (exfalso; omega) | ((fail_if_success with_reducible refine hJ _ _ _ _ ?_); conv => whnf) | skip)
      · refine hJ _ _ _ _ ?_
        conv => whnf
        refine ⟨(oi_in (by omega) (by omega)).mpr ⟨by omega, by omega⟩, ?_⟩
        conv => whnf
        rw [oi_nat (by omega) (by omega)]
        refine s_m_is hC (x := 0) (by omega) (by omega) ?_
        conv => whnf
        exact ⟨Or.inr rfl, k1 (hac.mpr c3)⟩
      · exact fin (fun z => absurd (hac.mp z) c3)
    refine hJ _ _ _ _ ?_
    conv => whnf
    refine ⟨fun c => ?_, fun c => ?_⟩ <;> (try simp (disch := omega) only [oi_le, oi_lt, oi_eq, oi_lt0, oi_le0, oi_0lt, oi_0le, oi_eq0, oi_eq1, bI_eq0, bI_ne0, bI_eq1, decide_eq_true_eq, decide_eq_false_iff_not, lc_lt, lc_gt, lc_eq, lc_ge, lc_le, ol_lt, ol_eq, ne_eq, Int.not_lt, Int.not_le, Bool.not_eq_true, Bool.not_eq_false, Decidable.not_not, not_true_eq_false, not_false_eq_true, Bool.true_eq_false, Bool.false_eq_true] at c) <;> (first | (exfalso; omega) | ((fail_if_success with_reducible refine hJ _ _ _ _ ?_); conv => whnf) | skip)
    · exact fin (by omega)
    · refine ⟨fun c2 => ?_, fun c2 => ?_⟩ <;> (try simp (disch := omega) only [oi_le, oi_lt, oi_eq, oi_lt0, oi_le0, oi_0lt, oi_0le, oi_eq0, oi_eq1, bI_eq0, bI_ne0, bI_eq1, decide_eq_true_eq, decide_eq_false_iff_not, lc_lt, lc_gt, lc_eq, lc_ge, lc_le, ol_lt, ol_eq, ne_eq, Int.not_lt, Int.not_le, Bool.not_eq_true, Bool.not_eq_false, Decidable.not_not, not_true_eq_false, not_false_eq_true, Bool.true_eq_false, Bool.false_eq_true] at c2) <;> (first | (exfalso; omega) | ((fail_if_success with_reducible refine hJ _ _ _ _ ?_); conv => whnf) | skip)
      · exact fin (by omega)
      · rw [oi_l (by omega) (by omega)]
        refine ⟨fun c3 => ?_, fun c3 => ?_⟩ <;> (try simp (disch := omega) only [oi_le, oi_lt, oi_eq, oi_lt0, oi_le0, oi_0lt, oi_0le, oi_eq0, oi_eq1, bI_eq0, bI_ne0, bI_eq1, decide_eq_true_eq, decide_eq_false_iff_not, lc_lt, lc_gt, lc_eq, lc_ge, lc_le, ol_lt, ol_eq, ne_eq, Int.not_lt, Int.not_le, Bool.not_eq_true, Bool.not_eq_false, Decidable.not_not, not_true_eq_false, not_false_eq_true, Bool.true_eq_false, Bool.false_eq_true] at c3) <;> (first | (exfalso; omega) | ((with_reducible refine hJ _ _ _ _ ?_); conv => whnf) | (conv => whnf))
        · refine hJ _ _ _ _ ?_
          conv => whnf
          refine ⟨fun c4 => ?_, fun c4 => ?_⟩ <;> (try simp (disch := omega) only [oi_le, oi_lt, oi_eq, oi_lt0, oi_le0, oi_0lt, oi_0le, oi_eq0, oi_eq1, bI_eq0, bI_ne0, bI_eq1, decide_eq_true_eq, decide_eq_false_iff_not, lc_lt, lc_gt, lc_eq, lc_ge, lc_le, ol_lt, ol_eq, ne_eq, Int.not_lt, Int.not_le, Bool.not_eq_true, Bool.not_eq_false, Decidable.not_not, not_true_eq_false, not_false_eq_true, Bool.true_eq_false, Bool.false_eq_true] at c4) <;> (first | (exfalso; omega) | ((with_reducible refine hJ _ _ _ _ ?_); conv => whnf) | (conv => whnf))
          exact fin2 0 16 (by omega) (by omega) (by omega) (by omega) (by omega) (by omega)
        · refine hJ _ _ _ _ ?_
          conv => whnf
          refine ⟨fun c4 => ?_, fun c4 => ?_⟩ <;> (try simp (disch := omega) only [oi_le, oi_lt, oi_eq, oi_lt0, oi_le0, oi_0lt, oi_0le, oi_eq0, oi_eq1, bI_eq0, bI_ne0, bI_eq1, decide_eq_true_eq, decide_eq_false_iff_not, lc_lt, lc_gt, lc_eq, lc_ge, lc_le, ol_lt, ol_eq, ne_eq, Int.not_lt, Int.not_le, Bool.not_eq_true, Bool.not_eq_false, Decidable.not_not, not_true_eq_false, not_false_eq_true, Bool.true_eq_false, Bool.false_eq_true] at c4) <;> (first | (exfalso; omega) | ((with_reducible refine hJ _ _ _ _ ?_); conv => whnf) | (conv => whnf))
          exact fin2 1 99 (by omega) (by omega) (by omega) (by omega) (by omega) (by omega)
  refine r_x_rule hC (fun J hJ => ?_)
  have edit : ∀ i : Nat, (i = 3 ∨ i = 4) → z = (i : Int) → upOk h0 i y → ∀ τ : AM, τ = wI (wI σ 22 n (i + 2) (Int32.ofInt y)) 1 0 16 (Int32.ofInt 0) → K (.inl (Int32.ofInt 1)) (.inl (Int32.ofInt 1)) (wI (wI τ 47 0 z.toNat (Int32.ofInt y)) 46 0 2 (Int32.ofInt 0)) := by
    intro i hi hz uo τ hτ
    have hm1 : M0 τ h0 := by rw [hτ]; exact M0.c (hm.fr (fun j _ => by rw [wI1, if_neg (by omega)]))
    have ez : z.toNat = i := by omega
    have wk := WP.upd ⟨hw, hw67⟩ uo
    have u5 : up h0 i y 5 = h0 5 := up_ne (by omega)
    have hr1 : HRep (wI σ 22 n (i + 2) (Int32.ofInt y)) n (up h0 i y) := by
      have := HRep.upd (t := 22) (j := i + 2) (z := y) hr hw (Or.inl ⟨rfl, by omega, by omega⟩) ⟨by show i + 2 - 2 ≠ 0; omega, by show i + 2 - 2 ≠ 1; omega, by show i + 2 - 2 ≠ 2; omega⟩
      exact this
    have hr2 := hr1.c (x := Int32.ofInt 0)
    rw [← hτ] at hr2
    rw [ez]
    exact h _ _ (Rel.edit2 ha hb hr2 (M0.fd hm1.upd) wk (by omega) (hsy.cg (up_ne (by omega)) (fun m _ => up_ne (by omega))) (up_ne (by omega)) (up_ne (by omega)) (up_ne (by omega)) (by rw [hτ]; exact ((Ch.wI (cE_h (by omega) (by omega))).tr (Ch.wI cE_c))) ((Ch.wI (mE_a (by omega))).tr (Ch.wI mE_s)) (by rw [hτ]; exact wI_16) wI_16)
  have c56 : ¬ ((z = 3 ∧ 1 ≤ y ∧ y ≤ 99) ∨ (z = 4 ∧ 0 ≤ y ∧ y ≤ 16)) → J 56 [.inr (.inr (1, 0)), .inl (Int32.ofInt z), .inl (Int32.ofInt y)] [] σ := by
    intro hbd
    refine hJ _ _ _ _ ?_
    conv => whnf
    refine s_refuse hC ?_
    conv => whnf
    refine ⟨Or.inl rfl, ?_⟩
    refine mod _ _ (fun z => absurd z hbd) (fun _ => ?_)
    exact h _ _ (hR.sc done2.1 done2.2)
  have c28 : ¬ (z = 3 ∧ 1 ≤ y ∧ y ≤ 99) → J 28 [.inr (.inr (1, 0)), .inl (Int32.ofInt z), .inl (Int32.ofInt y)] [] σ := by
    intro hbd
    refine hJ _ _ _ _ ?_
    conv => whnf
    refine ⟨fun c => ?_, fun c => ?_⟩ <;> (try simp (disch := omega) only [oi_le, oi_lt, oi_eq, oi_lt0, oi_le0, oi_0lt, oi_0le, oi_eq0, oi_eq1, bI_eq0, bI_ne0, bI_eq1, decide_eq_true_eq, decide_eq_false_iff_not, lc_lt, lc_gt, lc_eq, lc_ge, lc_le, ol_lt, ol_eq, ne_eq, Int.not_lt, Int.not_le, Bool.not_eq_true, Bool.not_eq_false, Decidable.not_not, not_true_eq_false, not_false_eq_true, Bool.true_eq_false, Bool.false_eq_true] at c) <;> (first | (exfalso; omega) | ((fail_if_success with_reducible refine hJ _ _ _ _ ?_); conv => whnf) | skip)
    · exact c56 (by omega)
    · refine s_withinI hC (by omega) (by omega) (by omega) (by omega) (by omega) (by omega) ?_
      conv => whnf
      refine ⟨fun c2 => ?_, fun c2 => ?_⟩ <;> (try simp (disch := omega) only [oi_le, oi_lt, oi_eq, oi_lt0, oi_le0, oi_0lt, oi_0le, oi_eq0, oi_eq1, bI_eq0, bI_ne0, bI_eq1, decide_eq_true_eq, decide_eq_false_iff_not, lc_lt, lc_gt, lc_eq, lc_ge, lc_le, ol_lt, ol_eq, ne_eq, Int.not_lt, Int.not_le, Bool.not_eq_true, Bool.not_eq_false, Decidable.not_not, not_true_eq_false, not_false_eq_true, Bool.true_eq_false, Bool.false_eq_true] at c2) <;> (first | (exfalso; omega) | ((fail_if_success with_reducible refine hJ _ _ _ _ ?_); conv => whnf) | skip)
      · exact c56 (by omega)
      · rw [hnn]
        refine ⟨by omega, ?_⟩
        conv => whnf
        refine s_agree hC ?_
        conv => whnf
        refine ⟨Or.inr rfl, ?_⟩
        refine mod _ _ (fun _ => edit 4 (Or.inr rfl) (by omega) (Or.inr (Or.inl ⟨rfl, by omega, by omega⟩)) _ rfl) (fun z => absurd (Or.inr ⟨by omega, c2⟩) z)
  refine hJ _ _ _ _ ?_
  conv => whnf
  refine ⟨fun c => ?_, fun c => ?_⟩ <;> (try simp (disch := omega) only [oi_le, oi_lt, oi_eq, oi_lt0, oi_le0, oi_0lt, oi_0le, oi_eq0, oi_eq1, bI_eq0, bI_ne0, bI_eq1, decide_eq_true_eq, decide_eq_false_iff_not, lc_lt, lc_gt, lc_eq, lc_ge, lc_le, ol_lt, ol_eq, ne_eq, Int.not_lt, Int.not_le, Bool.not_eq_true, Bool.not_eq_false, Decidable.not_not, not_true_eq_false, not_false_eq_true, Bool.true_eq_false, Bool.false_eq_true] at c) <;> (first | (exfalso; omega) | ((fail_if_success with_reducible refine hJ _ _ _ _ ?_); conv => whnf) | skip)
  · exact c28 (by omega)
  · refine s_withinI hC (by omega) (by omega) (by omega) (by omega) (by omega) (by omega) ?_
    conv => whnf
    refine ⟨fun c2 => ?_, fun c2 => ?_⟩ <;> (try simp (disch := omega) only [oi_le, oi_lt, oi_eq, oi_lt0, oi_le0, oi_0lt, oi_0le, oi_eq0, oi_eq1, bI_eq0, bI_ne0, bI_eq1, decide_eq_true_eq, decide_eq_false_iff_not, lc_lt, lc_gt, lc_eq, lc_ge, lc_le, ol_lt, ol_eq, ne_eq, Int.not_lt, Int.not_le, Bool.not_eq_true, Bool.not_eq_false, Decidable.not_not, not_true_eq_false, not_false_eq_true, Bool.true_eq_false, Bool.false_eq_true] at c2) <;> (first | (exfalso; omega) | ((fail_if_success with_reducible refine hJ _ _ _ _ ?_); conv => whnf) | skip)
    · exact c28 (by omega)
    · rw [hnn]
      refine ⟨by omega, ?_⟩
      conv => whnf
      refine s_agree hC ?_
      conv => whnf
      refine ⟨Or.inr rfl, ?_⟩
      refine mod _ _ (fun _ => edit 3 (Or.inl rfl) (by omega) (Or.inl ⟨rfl, by omega, by omega⟩) _ rfl) (fun z => absurd (Or.inl ⟨by omega, c2⟩) z)
