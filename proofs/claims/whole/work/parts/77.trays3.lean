theorem s_lay {CALL : CT} (hC : RuleAll CALL) {r : Nat} {σ : AM} {K : AV → AM → Prop} {t : Nat} {x y : Int32} (h : K unset (wI (wI (wI (flL σ 45 t 60) 44 t 2 x) 44 t 3 y) 44 t 1 (Int32.ofInt 1))) : CALL (r + 2) n_Tray_lay [.inr (.inr (44, t)), .inl x, .inl y] σ K := by
  refine r_Tray_lay hC (fun J hJ => ?_)
  refine hJ _ _ _ _ ?_
  conv => whnf
  refine s_fill45 hC ?_
  conv => whnf
  exact ⟨Or.inr rfl, h⟩
/-- zeros from a place on -/
def flR (σ : AM) (a k : Nat) : AM := (σ.1, fun t i j => if t = 51 ∧ i = 0 ∧ a ≤ j ∧ j < a + k then Int64.ofInt 0 else σ.2.1 t i j, σ.2.2)
theorem flR_0 (σ : AM) (a : Nat) : flR σ a 0 = σ := by
  unfold flR
  congr 1
  congr 1
  funext t i j
  rw [if_neg (by omega)]
theorem flR_s (σ : AM) (a k : Nat) : wL (flR σ a k) 51 0 (a + k) (Int64.ofInt 0) = flR σ a (k + 1) := by
  unfold wL flR
  congr 1
  congr 1
  funext t i j
  show (if t = 51 ∧ i = 0 ∧ j = a + k then Int64.ofInt 0 else if t = 51 ∧ i = 0 ∧ a ≤ j ∧ j < a + k then Int64.ofInt 0 else σ.2.1 t i j) = _
  by_cases e : t = 51 ∧ i = 0 ∧ j = a + k
  · rw [if_pos e, if_pos (by omega)]
  · rw [if_neg e]
    by_cases e2 : t = 51 ∧ i = 0 ∧ a ≤ j ∧ j < a + k
    · rw [if_pos e2, if_pos (by omega)]
    · rw [if_neg e2, if_neg (by omega)]
theorem TyC.flR {σ : AM} {a k : Nat} : TyC σ (flR σ a k) := ⟨fun _ _ _ _ => rfl, fun t i j _ q => by show (if t = 51 ∧ _ then _ else _) = _; rw [if_neg (by omega)], rfl⟩
theorem TyC.flL {σ : AM} {t : Nat} : TyC σ (flL σ 45 t 60) := ⟨fun _ _ _ _ => rfl, fun a i j q _ => by show (if a = 45 ∧ _ then _ else _) = _; rw [if_neg (by omega)], rfl⟩
theorem op_tray {CALL : CT} (hC : RuleAll CALL) {r : Nat} {σ : AM} {K : AV → AV → AM → Prop} (hR : Rel σ) {z y w : Int} (z1 : -2147483648 ≤ z) (z2 : z < 2147483648) (y1 : -2147483648 ≤ y) (y2 : y < 2147483648) (w1 : -2147483648 ≤ w) (w2 : w < 2147483648) (h : ∀ v σ2, Rel σ2 → K v v σ2) : CALL (r + 20) n_x_tray [.inr (.inr (1, 0)), .inl (Int32.ofInt z), .inl (Int32.ofInt y), .inl (Int32.ofInt w)] σ (fun v σ1 => CALL (r + 20) n_m_tray [.inr (.inr (46, 0)), .inl (Int32.ofInt z), .inl (Int32.ofInt y), .inl (Int32.ofInt w)] σ1 (fun v' σ2 => K v v' σ2)) := by
  obtain ⟨⟨n, p, h0, ha⟩, hb, hst⟩ := id hR
  have hn := ha.nh
  obtain ⟨n45, hnn, hr, hm, ⟨hw, hw67⟩, h59⟩ := id hn
  have b := hw.1
  have hsy : SymE h0 := ha.2.2.2.2.2.2.2.2.2.2.1
  obtain ⟨q0, q1, q2, q3, q4, q5, q6, q7, q8, q9, qa, qt, qm, qe⟩ := id hr
  obtain ⟨M, S, ht⟩ := hb.2.1.tm
  have bad : ¬ ((0 ≤ z ∧ z ≤ 3) ∧ (0 ≤ y ∧ y ≤ 3) ∧ 0 ≤ w ∧ w ≤ 60) → CALL (r + 20) n_m_tray [.inr (.inr (46, 0)), .inl (Int32.ofInt z), .inl (Int32.ofInt y), .inl (Int32.ofInt w)] (wI σ 1 0 16 (Int32.ofInt 1)) (fun v' σ2 => K (.inl (Int32.ofInt 0)) v' σ2) := by
    intro hbd
    refine r_m_tray hC (fun J hJ => ?_)
    have fin : J 26 [.inr (.inr (46, 0)), .inl (Int32.ofInt z), .inl (Int32.ofInt y), .inl (Int32.ofInt w), unset] [] (wI σ 1 0 16 (Int32.ofInt 1)) := by
      refine hJ _ _ _ _ ?_
      conv => whnf
      refine s_m_is hC (x := 1) (by omega) (by omega) ?_
      conv => whnf
      refine ⟨Or.inl rfl, ?_⟩
      exact h _ _ (hR.sc done2.1 done2.2)
    refine hJ _ _ _ _ ?_
    conv => whnf
    refine s_m_isTray hC (by omega) (by omega) ?_
    conv => whnf
    refine ⟨fun c2 => ?_, fun c2 => ?_⟩ <;> (try simp (disch := omega) only [oi_le, oi_lt, oi_eq, oi_lt0, oi_le0, oi_0lt, oi_0le, oi_eq0, oi_eq1, bI_eq0, bI_ne0, bI_eq1, decide_eq_true_eq, decide_eq_false_iff_not, lc_lt, lc_gt, lc_eq, lc_ge, lc_le, ol_lt, ol_eq, ne_eq, Int.not_lt, Int.not_le, Bool.not_eq_true, Bool.not_eq_false, Decidable.not_not, not_true_eq_false, not_false_eq_true, Bool.true_eq_false, Bool.false_eq_true] at c2) <;> (first | (exfalso; omega) | ((fail_if_success with_reducible refine hJ _ _ _ _ ?_); conv => whnf) | skip)
    · exact fin
    · refine ⟨fun c3 => ?_, fun c3 => ?_⟩ <;> (try simp (disch := omega) only [oi_le, oi_lt, oi_eq, oi_lt0, oi_le0, oi_0lt, oi_0le, oi_eq0, oi_eq1, bI_eq0, bI_ne0, bI_eq1, decide_eq_true_eq, decide_eq_false_iff_not, lc_lt, lc_gt, lc_eq, lc_ge, lc_le, ol_lt, ol_eq, ne_eq, Int.not_lt, Int.not_le, Bool.not_eq_true, Bool.not_eq_false, Decidable.not_not, not_true_eq_false, not_false_eq_true, Bool.true_eq_false, Bool.false_eq_true] at c3) <;> (first | (exfalso; omega) | ((fail_if_success with_reducible refine hJ _ _ _ _ ?_); conv => whnf) | skip)
      · exact fin
      · refine ⟨fun c4 => ?_, fun c4 => ?_⟩ <;> (try simp (disch := omega) only [oi_le, oi_lt, oi_eq, oi_lt0, oi_le0, oi_0lt, oi_0le, oi_eq0, oi_eq1, bI_eq0, bI_ne0, bI_eq1, decide_eq_true_eq, decide_eq_false_iff_not, lc_lt, lc_gt, lc_eq, lc_ge, lc_le, ol_lt, ol_eq, ne_eq, Int.not_lt, Int.not_le, Bool.not_eq_true, Bool.not_eq_false, Decidable.not_not, not_true_eq_false, not_false_eq_true, Bool.true_eq_false, Bool.false_eq_true] at c4) <;> (first | (exfalso; omega) | ((fail_if_success with_reducible refine hJ _ _ _ _ ?_); conv => whnf) | skip)
        · exact fin
        · refine ⟨fun c5 => ?_, fun c5 => ?_⟩ <;> (try simp (disch := omega) only [oi_le, oi_lt, oi_eq, oi_lt0, oi_le0, oi_0lt, oi_0le, oi_eq0, oi_eq1, bI_eq0, bI_ne0, bI_eq1, decide_eq_true_eq, decide_eq_false_iff_not, lc_lt, lc_gt, lc_eq, lc_ge, lc_le, ol_lt, ol_eq, ne_eq, Int.not_lt, Int.not_le, Bool.not_eq_true, Bool.not_eq_false, Decidable.not_not, not_true_eq_false, not_false_eq_true, Bool.true_eq_false, Bool.false_eq_true] at c5) <;> (first | (exfalso; omega) | ((fail_if_success with_reducible refine hJ _ _ _ _ ?_); conv => whnf) | skip)
          · exact fin
          · refine ⟨fun c6 => ?_, fun c6 => ?_⟩ <;> (try simp (disch := omega) only [oi_le, oi_lt, oi_eq, oi_lt0, oi_le0, oi_0lt, oi_0le, oi_eq0, oi_eq1, bI_eq0, bI_ne0, bI_eq1, decide_eq_true_eq, decide_eq_false_iff_not, lc_lt, lc_gt, lc_eq, lc_ge, lc_le, ol_lt, ol_eq, ne_eq, Int.not_lt, Int.not_le, Bool.not_eq_true, Bool.not_eq_false, Decidable.not_not, not_true_eq_false, not_false_eq_true, Bool.true_eq_false, Bool.false_eq_true] at c6) <;> (first | (exfalso; omega) | ((fail_if_success with_reducible refine hJ _ _ _ _ ?_); conv => whnf) | skip)
            exact fin
  refine r_x_tray hC (fun J hJ => ?_)
  have c27 : ¬ ((0 ≤ z ∧ z ≤ 3) ∧ (0 ≤ y ∧ y ≤ 3) ∧ 0 ≤ w ∧ w ≤ 60) → J 27 [.inr (.inr (1, 0)), .inl (Int32.ofInt z), .inl (Int32.ofInt y), .inl (Int32.ofInt w)] [] σ := by
    intro hbd
    refine hJ _ _ _ _ ?_
    conv => whnf
    refine s_refuse hC ?_
    conv => whnf
    exact ⟨Or.inl rfl, bad hbd⟩
  refine hJ _ _ _ _ ?_
  conv => whnf
  refine s_isTray hC z1 z2 ?_
  conv => whnf
  refine ⟨fun c => ?_, fun c => ?_⟩ <;> (try simp (disch := omega) only [oi_le, oi_lt, oi_eq, oi_lt0, oi_le0, oi_0lt, oi_0le, oi_eq0, oi_eq1, bI_eq0, bI_ne0, bI_eq1, decide_eq_true_eq, decide_eq_false_iff_not, lc_lt, lc_gt, lc_eq, lc_ge, lc_le, ol_lt, ol_eq, ne_eq, Int.not_lt, Int.not_le, Bool.not_eq_true, Bool.not_eq_false, Decidable.not_not, not_true_eq_false, not_false_eq_true, Bool.true_eq_false, Bool.false_eq_true] at c) <;> (first | (exfalso; omega) | ((fail_if_success with_reducible refine hJ _ _ _ _ ?_); conv => whnf) | skip)
  · exact c27 (by omega)
  · refine s_withinI hC (by omega) (by omega) (by omega) (by omega) (by omega) (by omega) ?_
    conv => whnf
    refine ⟨fun c2 => ?_, fun c2 => ?_⟩ <;> (try simp (disch := omega) only [oi_le, oi_lt, oi_eq, oi_lt0, oi_le0, oi_0lt, oi_0le, oi_eq0, oi_eq1, bI_eq0, bI_ne0, bI_eq1, decide_eq_true_eq, decide_eq_false_iff_not, lc_lt, lc_gt, lc_eq, lc_ge, lc_le, ol_lt, ol_eq, ne_eq, Int.not_lt, Int.not_le, Bool.not_eq_true, Bool.not_eq_false, Decidable.not_not, not_true_eq_false, not_false_eq_true, Bool.true_eq_false, Bool.false_eq_true] at c2) <;> (first | (exfalso; omega) | ((fail_if_success with_reducible refine hJ _ _ _ _ ?_); conv => whnf) | skip)
    · exact c27 (by omega)
    · refine s_withinI hC (by omega) (by omega) (by omega) (by omega) (by omega) (by omega) ?_
      conv => whnf
      refine ⟨fun c3 => ?_, fun c3 => ?_⟩ <;> (try simp (disch := omega) only [oi_le, oi_lt, oi_eq, oi_lt0, oi_le0, oi_0lt, oi_0le, oi_eq0, oi_eq1, bI_eq0, bI_ne0, bI_eq1, decide_eq_true_eq, decide_eq_false_iff_not, lc_lt, lc_gt, lc_eq, lc_ge, lc_le, ol_lt, ol_eq, ne_eq, Int.not_lt, Int.not_le, Bool.not_eq_true, Bool.not_eq_false, Decidable.not_not, not_true_eq_false, not_false_eq_true, Bool.true_eq_false, Bool.false_eq_true] at c3) <;> (first | (exfalso; omega) | ((fail_if_success with_reducible refine hJ _ _ _ _ ?_); conv => whnf) | skip)
      · obtain ⟨t, rfl⟩ : ∃ t : Nat, z = (t : Int) := ⟨z.toNat, by omega⟩
        obtain ⟨k, rfl⟩ : ∃ k : Nat, w = (k : Int) := ⟨w.toNat, by omega⟩
        refine hJ _ _ _ _ ?_
        conv => whnf
        refine ⟨(oi_in (by omega) (by omega)).mpr ⟨by omega, by omega⟩, ?_⟩
        conv => whnf
        rw [oi_nat (by omega) (by omega), Int.toNat_natCast, Nat.zero_add]
        refine s_lay hC ?_
        conv => whnf
        refine s_agree hC ?_
        conv => whnf
        refine ⟨Or.inr rfl, ?_⟩
        generalize hτ : wI (wI (wI (wI (flL σ 45 t 60) 44 t 2 (Int32.ofInt y)) 44 t 3 (Int32.ofInt (k : Int))) 44 t 1 (Int32.ofInt 1)) 1 0 16 (Int32.ofInt 0) = τ
        have ty : TyC σ τ := by rw [← hτ]; exact (((TyC.flL.tr (TyC.wI (by omega))).tr (TyC.wI (by omega))).tr (TyC.wI (by omega))).tr (TyC.wI (by omega))
        have t44 : ∀ a j, τ.1 44 a j = if a = t ∧ j = 1 then Int32.ofInt 1 else if a = t ∧ j = 3 then Int32.ofInt (k : Int) else if a = t ∧ j = 2 then Int32.ofInt y else σ.1 44 a j := by
          intro a j
          rw [← hτ]
          simp only [wI1, true_and]
          rw [if_neg (by omega)]
          rfl
        have t45 : ∀ a j, τ.2.1 45 a j = if a = t ∧ j < 60 then Int64.ofInt 0 else σ.2.1 45 a j := by
          intro a j
          rw [← hτ]
          show (if 45 = 45 ∧ a = t ∧ j < 60 then Int64.ofInt 0 else σ.2.1 45 a j) = _
          simp only [true_and]
        have t16 : τ.1 1 0 16 = Int32.ofInt 0 := by rw [← hτ, wI_16]
        have t49 : ∀ a j, τ.1 49 a j = σ.1 49 a j := fun a j => by rw [← hτ]; simp only [wI1]; rw [if_neg (by omega), if_neg (by omega), if_neg (by omega), if_neg (by omega)]; rfl
        have t50 : ∀ a j, τ.1 50 a j = σ.1 50 a j := fun a j => by rw [← hτ]; simp only [wI1]; rw [if_neg (by omega), if_neg (by omega), if_neg (by omega), if_neg (by omega)]; rfl
        have t51 : ∀ a j, τ.2.1 51 a j = σ.2.1 51 a j := fun a j => by rw [← hτ]; show (if 51 = 45 ∧ a = t ∧ j < 60 then Int64.ofInt 0 else σ.2.1 51 a j) = _; rw [if_neg (by omega)]
        refine r_m_tray hC (fun J hJ => ?_)
        refine hJ _ _ _ _ ?_
        conv => whnf
        refine s_m_isTray hC (by omega) (by omega) ?_
        conv => whnf
        refine ⟨fun c4 => ?_, fun c4 => ?_⟩ <;> (try simp (disch := omega) only [oi_le, oi_lt, oi_eq, oi_lt0, oi_le0, oi_0lt, oi_0le, oi_eq0, oi_eq1, bI_eq0, bI_ne0, bI_eq1, decide_eq_true_eq, decide_eq_false_iff_not, lc_lt, lc_gt, lc_eq, lc_ge, lc_le, ol_lt, ol_eq, ne_eq, Int.not_lt, Int.not_le, Bool.not_eq_true, Bool.not_eq_false, Decidable.not_not, not_true_eq_false, not_false_eq_true, Bool.true_eq_false, Bool.false_eq_true] at c4) <;> (first | (exfalso; omega) | ((with_reducible refine hJ _ _ _ _ ?_); conv => whnf) | (conv => whnf))
        refine ⟨fun c5 => ?_, fun c5 => ?_⟩ <;> (try simp (disch := omega) only [oi_le, oi_lt, oi_eq, oi_lt0, oi_le0, oi_0lt, oi_0le, oi_eq0, oi_eq1, bI_eq0, bI_ne0, bI_eq1, decide_eq_true_eq, decide_eq_false_iff_not, lc_lt, lc_gt, lc_eq, lc_ge, lc_le, ol_lt, ol_eq, ne_eq, Int.not_lt, Int.not_le, Bool.not_eq_true, Bool.not_eq_false, Decidable.not_not, not_true_eq_false, not_false_eq_true, Bool.true_eq_false, Bool.false_eq_true] at c5) <;> (first | (exfalso; omega) | ((with_reducible refine hJ _ _ _ _ ?_); conv => whnf) | (conv => whnf))
        refine ⟨fun c6 => ?_, fun c6 => ?_⟩ <;> (try simp (disch := omega) only [oi_le, oi_lt, oi_eq, oi_lt0, oi_le0, oi_0lt, oi_0le, oi_eq0, oi_eq1, bI_eq0, bI_ne0, bI_eq1, decide_eq_true_eq, decide_eq_false_iff_not, lc_lt, lc_gt, lc_eq, lc_ge, lc_le, ol_lt, ol_eq, ne_eq, Int.not_lt, Int.not_le, Bool.not_eq_true, Bool.not_eq_false, Decidable.not_not, not_true_eq_false, not_false_eq_true, Bool.true_eq_false, Bool.false_eq_true] at c6) <;> (first | (exfalso; omega) | ((with_reducible refine hJ _ _ _ _ ?_); conv => whnf) | (conv => whnf))
        refine ⟨fun c7 => ?_, fun c7 => ?_⟩ <;> (try simp (disch := omega) only [oi_le, oi_lt, oi_eq, oi_lt0, oi_le0, oi_0lt, oi_0le, oi_eq0, oi_eq1, bI_eq0, bI_ne0, bI_eq1, decide_eq_true_eq, decide_eq_false_iff_not, lc_lt, lc_gt, lc_eq, lc_ge, lc_le, ol_lt, ol_eq, ne_eq, Int.not_lt, Int.not_le, Bool.not_eq_true, Bool.not_eq_false, Decidable.not_not, not_true_eq_false, not_false_eq_true, Bool.true_eq_false, Bool.false_eq_true] at c7) <;> (first | (exfalso; omega) | ((with_reducible refine hJ _ _ _ _ ?_); conv => whnf) | (conv => whnf))
        refine ⟨fun c8 => ?_, fun c8 => ?_⟩ <;> (try simp (disch := omega) only [oi_le, oi_lt, oi_eq, oi_lt0, oi_le0, oi_0lt, oi_0le, oi_eq0, oi_eq1, bI_eq0, bI_ne0, bI_eq1, decide_eq_true_eq, decide_eq_false_iff_not, lc_lt, lc_gt, lc_eq, lc_ge, lc_le, ol_lt, ol_eq, ne_eq, Int.not_lt, Int.not_le, Bool.not_eq_true, Bool.not_eq_false, Decidable.not_not, not_true_eq_false, not_false_eq_true, Bool.true_eq_false, Bool.false_eq_true] at c8) <;> (first | (exfalso; omega) | ((with_reducible refine hJ _ _ _ _ ?_); conv => whnf) | (conv => whnf))
        refine ⟨(oi_in (by omega) (by omega)).mpr ⟨by omega, by omega⟩, ?_⟩
        conv => whnf
        refine ⟨(oi_in (by omega) (by omega)).mpr ⟨by omega, by omega⟩, ?_⟩
        conv => whnf
        rw [oi_nat (by omega) (by omega), Int.toNat_natCast]
        have loop : ∀ (d i : Nat), i + d = k → J 49 [.inr (.inr (46, 0)), .inl (Int32.ofInt (t : Int)), .inl (Int32.ofInt y), .inl (Int32.ofInt (k : Int)), .inl (Int32.ofInt (i : Int))] [] (flR (wI (wI τ 49 0 t (Int32.ofInt y)) 50 0 t (Int32.ofInt (k : Int))) (60 * t) i) := by
          intro d
          induction d with
          | zero =>
            intro i hi
            have : i = k := by omega
            rw [this]
            refine hJ _ _ _ _ ?_
            conv => whnf
            refine ⟨fun c9 => ?_, fun c9 => ?_⟩ <;> (try simp (disch := omega) only [oi_le, oi_lt, oi_eq, oi_lt0, oi_le0, oi_0lt, oi_0le, oi_eq0, oi_eq1, bI_eq0, bI_ne0, bI_eq1, decide_eq_true_eq, decide_eq_false_iff_not, lc_lt, lc_gt, lc_eq, lc_ge, lc_le, ol_lt, ol_eq, ne_eq, Int.not_lt, Int.not_le, Bool.not_eq_true, Bool.not_eq_false, Decidable.not_not, not_true_eq_false, not_false_eq_true, Bool.true_eq_false, Bool.false_eq_true] at c9) <;> (first | (exfalso; omega) | ((with_reducible refine hJ _ _ _ _ ?_); conv => whnf) | (conv => whnf))
            refine s_m_is hC (x := 0) (by omega) (by omega) ?_
            conv => whnf
            refine ⟨Or.inr rfl, ?_⟩
            refine h _ _ (hR.tray (ty.tr ((((TyC.wI (by omega)).tr (TyC.wI (by omega))).tr TyC.flR).tr (TyC.wI (by omega)))) (TrM.tr (M := up M t (k : Int)) (S := up S t y) (fun a a4 => ?_)) ?_)
            · have n44 : ∀ j, (wI (flR (wI (wI τ 49 0 t (Int32.ofInt y)) 50 0 t (Int32.ofInt (k : Int))) (60 * t) k) 46 0 2 (Int32.ofInt 0)).1 44 a j = τ.1 44 a j := fun j => by
                rw [wI1, if_neg (by omega)]
                show (wI (wI τ 49 0 t (Int32.ofInt y)) 50 0 t (Int32.ofInt (k : Int))).1 44 a j = _
                rw [wI1, if_neg (by omega), wI1, if_neg (by omega)]
              have n49 : (wI (flR (wI (wI τ 49 0 t (Int32.ofInt y)) 50 0 t (Int32.ofInt (k : Int))) (60 * t) k) 46 0 2 (Int32.ofInt 0)).1 49 0 a = if a = t then Int32.ofInt y else σ.1 49 0 a := by
                rw [wI1, if_neg (by omega)]
                show (wI (wI τ 49 0 t (Int32.ofInt y)) 50 0 t (Int32.ofInt (k : Int))).1 49 0 a = _
                rw [wI1, if_neg (by omega), wI1, t49]
                simp only [true_and]
              have n50 : (wI (flR (wI (wI τ 49 0 t (Int32.ofInt y)) 50 0 t (Int32.ofInt (k : Int))) (60 * t) k) 46 0 2 (Int32.ofInt 0)).1 50 0 a = if a = t then Int32.ofInt (k : Int) else σ.1 50 0 a := by
                rw [wI1, if_neg (by omega)]
                show (wI (wI τ 49 0 t (Int32.ofInt y)) 50 0 t (Int32.ofInt (k : Int))).1 50 0 a = _
                rw [wI1, wI1, if_neg (by omega : ¬ (50 = 49 ∧ _ ∧ _)), t50]
                simp only [true_and]
              have n45 : ∀ j, (wI (flR (wI (wI τ 49 0 t (Int32.ofInt y)) 50 0 t (Int32.ofInt (k : Int))) (60 * t) k) 46 0 2 (Int32.ofInt 0)).2.1 45 a j = τ.2.1 45 a j := fun j => by
                show (if 45 = 51 ∧ a = 0 ∧ 60 * t ≤ j ∧ j < 60 * t + k then Int64.ofInt 0 else τ.2.1 45 a j) = _
                rw [if_neg (by omega)]
              have n51 : ∀ j, (wI (flR (wI (wI τ 49 0 t (Int32.ofInt y)) 50 0 t (Int32.ofInt (k : Int))) (60 * t) k) 46 0 2 (Int32.ofInt 0)).2.1 51 0 j = if 60 * t ≤ j ∧ j < 60 * t + k then Int64.ofInt 0 else σ.2.1 51 0 j := fun j => by
                show (if 51 = 51 ∧ 0 = 0 ∧ 60 * t ≤ j ∧ j < 60 * t + k then _ else τ.2.1 51 0 j) = _
                rw [t51]
                simp only [true_and]
              rw [n44, n44, n44, n49, n50]
              simp only [n45, n51]
              by_cases e : a = t
              · subst e
                rw [up_eq, up_eq, if_pos rfl, if_pos rfl]
                refine ⟨rfl, Or.inr ⟨by omega, by omega, by omega, by omega, ?_, ?_, rfl, ?_, fun j hj => ?_⟩⟩
                · rw [t44, if_pos ⟨rfl, rfl⟩]
                · rw [t44, if_neg (by omega), if_neg (by omega), if_pos ⟨rfl, rfl⟩]
                · rw [t44, if_neg (by omega), if_pos ⟨rfl, rfl⟩]
                · rw [t45, if_pos ⟨rfl, by omega⟩, if_pos (by omega)]
              · rw [up_ne e, up_ne e, if_neg e, if_neg e, t44, t44, t44, if_neg (by omega), if_neg (by omega), if_neg (by omega), if_neg (by omega), if_neg (by omega), if_neg (by omega), if_neg (by omega), if_neg (by omega), if_neg (by omega)]
                have g := ht a a4
                have bd := ht.bd a4
                refine ⟨g.1, ?_⟩
                rcases g.2 with g2 | ⟨g1, g2, g3, g4, g5, g6, g7, g8, g9⟩
                · exact Or.inl g2
                · refine Or.inr ⟨g1, g2, g3, g4, g5, g6, g7, g8, fun j hj => ?_⟩
                  rw [t45, if_neg (by omega), if_neg (by omega)]
                  exact g9 j hj
            · rw [wI1, if_neg (by omega), wI_16]
              show (wI (wI τ 49 0 t (Int32.ofInt y)) 50 0 t (Int32.ofInt (k : Int))).1 1 0 16 = _
              rw [wI1, if_neg (by omega), wI1, if_neg (by omega), t16]
          | succ d ih =>
            intro i hi
            refine hJ _ _ _ _ ?_
            conv => whnf
            refine ⟨fun c9 => ?_, fun c9 => ?_⟩ <;> (try simp (disch := omega) only [oi_le, oi_lt, oi_eq, oi_lt0, oi_le0, oi_0lt, oi_0le, oi_eq0, oi_eq1, bI_eq0, bI_ne0, bI_eq1, decide_eq_true_eq, decide_eq_false_iff_not, lc_lt, lc_gt, lc_eq, lc_ge, lc_le, ol_lt, ol_eq, ne_eq, Int.not_lt, Int.not_le, Bool.not_eq_true, Bool.not_eq_false, Decidable.not_not, not_true_eq_false, not_false_eq_true, Bool.true_eq_false, Bool.false_eq_true] at c9) <;> (first | (exfalso; omega) | ((with_reducible refine hJ _ _ _ _ ?_); conv => whnf) | (conv => whnf))
            rw [oi_mul, oi_add]
            refine ⟨(oi_in (by omega) (by omega)).mpr ⟨by omega, by omega⟩, ?_⟩
            conv => whnf
            rw [oi_nat (by omega) (by omega), show (60 * (t : Int) + (i : Int)).toNat = 60 * t + i by omega, oi_succ]
            have := ih (i + 1) (by omega)
            rw [← flR_s] at this
            exact this
        have := loop k 0 (by omega)
        rw [flR_0] at this
        exact this
      · exact c27 (by omega)
theorem s_holds {CALL : CT} (hC : RuleAll CALL) {r : Nat} {σ : AM} {K : AV → AM → Prop} {t : Nat} {m y w : Int} (hm : σ.1 44 t 3 = Int32.ofInt m) (m1 : 0 ≤ m) (m2 : m ≤ 60) (y1 : 0 ≤ y) (y2 : y < 2147483648) (w1 : 0 ≤ w) (w2 : w < 2147483648) (h : K (.inl (bI (decide (w ≤ m - y ∧ y ≤ m)))) σ) : CALL (r + 1) n_Tray_holds [.inr (.inr (44, t)), .inl (Int32.ofInt y), .inl (Int32.ofInt w)] σ K := by
  refine r_Tray_holds hC (fun J hJ => ?_)
  refine hJ _ _ _ _ ?_
  conv => whnf
  rw [hm]
  refine ⟨fun c => ?_, fun c => ?_⟩ <;> (try simp (disch := omega) only [oi_le, oi_lt, oi_eq, oi_lt0, oi_le0, oi_0lt, oi_0le, oi_eq0, oi_eq1, bI_eq0, bI_ne0, bI_eq1, decide_eq_true_eq, decide_eq_false_iff_not, lc_lt, lc_gt, lc_eq, lc_ge, lc_le, ol_lt, ol_eq, ne_eq, Int.not_lt, Int.not_le, Bool.not_eq_true, Bool.not_eq_false, Decidable.not_not, not_true_eq_false, not_false_eq_true, Bool.true_eq_false, Bool.false_eq_true] at c) <;> (first | (exfalso; omega) | ((with_reducible refine hJ _ _ _ _ ?_); conv => whnf) | (conv => whnf))
  · refine hJ _ _ _ _ ?_
    conv => whnf
    rw [show decide (w ≤ m - y ∧ y ≤ m) = false from decide_eq_false (by omega)] at h
    exact ⟨Or.inl rfl, h⟩
  · rw [hm, oi_sub]
    refine ⟨fun c2 => ?_, fun c2 => ?_⟩ <;> (try simp (disch := omega) only [oi_le, oi_lt, oi_eq, oi_lt0, oi_le0, oi_0lt, oi_0le, oi_eq0, oi_eq1, bI_eq0, bI_ne0, bI_eq1, decide_eq_true_eq, decide_eq_false_iff_not, lc_lt, lc_gt, lc_eq, lc_ge, lc_le, ol_lt, ol_eq, ne_eq, Int.not_lt, Int.not_le, Bool.not_eq_true, Bool.not_eq_false, Decidable.not_not, not_true_eq_false, not_false_eq_true, Bool.true_eq_false, Bool.false_eq_true] at c2) <;> (first | (exfalso; omega) | ((with_reducible refine hJ _ _ _ _ ?_); conv => whnf) | (conv => whnf))
    · refine hJ _ _ _ _ ?_
      conv => whnf
      rw [show decide (w ≤ m - y ∧ y ≤ m) = false from decide_eq_false (by omega)] at h
      exact ⟨Or.inl rfl, h⟩
    · refine hJ _ _ _ _ ?_
      conv => whnf
      rw [show decide (w ≤ m - y ∧ y ≤ m) = true from decide_eq_true (by omega)] at h
      exact ⟨Or.inr rfl, h⟩
