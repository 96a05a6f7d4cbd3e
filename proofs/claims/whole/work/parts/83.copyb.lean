theorem op_copyBreath {CALL : CT} (hC : RuleAll CALL) {r : Nat} {σ : AM} {K : AV → AV → AM → Prop} (hR : Rel σ) {z : Int} (z1 : -2147483648 ≤ z) (z2 : z < 2147483648) (h : ∀ v σ2, Rel σ2 → K v v σ2) : CALL (r + 20) n_x_copyBreath [.inr (.inr (1, 0)), .inl (Int32.ofInt z)] σ (fun v σ1 => CALL (r + 20) n_m_copyBreath [.inr (.inr (46, 0)), .inl (Int32.ofInt z)] σ1 (fun v' σ2 => K v v' σ2)) := by
  obtain ⟨⟨n, p, h0, ha⟩, hb, hst⟩ := id hR
  have hn := ha.nh
  obtain ⟨n45, hnn, hr, hm, ⟨hw, hw67⟩, h59⟩ := id hn
  have b := hw.1
  have hsy : SymE h0 := ha.2.2.2.2.2.2.2.2.2.2.1
  obtain ⟨q0, q1, q2, q3, q4, q5, q6, q7, q8, q9, qa, qt, qm, qe⟩ := id hr
  obtain ⟨M, S, ht⟩ := hb.2.1.tm
  have mod : ∀ (τ : AM) (K' : AV → AM → Prop), TmM τ M S → M0 τ h0 → (¬ (0 ≤ z ∧ z ≤ 3) → K' (.inl (Int32.ofInt (-1))) (wI τ 46 0 2 (Int32.ofInt 1))) → ((0 ≤ z ∧ z ≤ 3) → M z.toNat = -1 → K' (.inl (Int32.ofInt (-1))) (wI τ 46 0 2 (Int32.ofInt 2))) → ((0 ≤ z ∧ z ≤ 3) → M z.toNat ≠ -1 → M z.toNat < h0 1 → K' (.inl (Int32.ofInt (-1))) (wI τ 46 0 2 (Int32.ofInt 3))) → ((0 ≤ z ∧ z ≤ 3) → M z.toNat ≠ -1 → h0 1 ≤ M z.toNat → ∀ τ' : AM, τ'.1 = τ.1 → τ'.2.2 = τ.2.2 → (∀ t i j, τ'.2.1 t i j = if t = 51 ∧ i = 0 ∧ 60 * z.toNat ≤ j ∧ (j : Int) < 60 * z.toNat + h0 1 then cutS (S z.toNat) (Int32.ofInt (h0 (24 + 7 * (j - 60 * z.toNat)))).toInt64 else τ.2.1 t i j) → K' (.inl (Int32.ofInt (h0 1))) (wI τ' 46 0 2 (Int32.ofInt 0))) → CALL (r + 20) n_m_copyBreath [.inr (.inr (46, 0)), .inl (Int32.ofInt z)] τ K' := by
    intro τ K' hτ hmt m1 m2 m3 m4
    refine r_m_copyBreath hC (fun J hJ => ?_)
    refine hJ _ _ _ _ ?_
    conv => whnf
    refine s_m_isTray hC (by omega) (by omega) ?_
    conv => whnf
    refine ⟨fun e1 => ?_, fun e1 => ?_⟩ <;> (try simp (disch := omega) only [oi_le, oi_lt, oi_eq, oi_lt0, oi_le0, oi_0lt, oi_0le, oi_eq0, oi_eq1, bI_eq0, bI_ne0, bI_eq1, decide_eq_true_eq, decide_eq_false_iff_not, lc_lt, lc_gt, lc_eq, lc_ge, lc_le, ol_lt, ol_eq, ne_eq, Int.not_lt, Int.not_le, Bool.not_eq_true, Bool.not_eq_false, Decidable.not_not, not_true_eq_false, not_false_eq_true, Bool.true_eq_false, Bool.false_eq_true] at e1) <;> (first | (exfalso; omega) | ((with_reducible refine hJ _ _ _ _ ?_); conv => whnf) | (conv => whnf))
    · obtain ⟨t, rfl⟩ : ∃ t : Nat, z = (t : Int) := ⟨z.toNat, by omega⟩
      rw [Int.toNat_natCast] at m2 m3 m4
      obtain ⟨tf1, tf2, tf3, tf4⟩ := hτ t (by omega)
      refine ⟨(oi_in (by omega) (by omega)).mpr ⟨by omega, by omega⟩, ?_⟩
      conv => whnf
      rw [oi_nat (by omega) (by omega), Int.toNat_natCast, tf1]
      refine ⟨fun e2 => ?_, fun e2 => ?_⟩ <;> (try simp (disch := omega) only [oi_le, oi_lt, oi_eq, oi_lt0, oi_le0, oi_0lt, oi_0le, oi_eq0, oi_eq1, bI_eq0, bI_ne0, bI_eq1, decide_eq_true_eq, decide_eq_false_iff_not, lc_lt, lc_gt, lc_eq, lc_ge, lc_le, ol_lt, ol_eq, ne_eq, Int.not_lt, Int.not_le, Bool.not_eq_true, Bool.not_eq_false, Decidable.not_not, not_true_eq_false, not_false_eq_true, Bool.true_eq_false, Bool.false_eq_true] at e2) <;> (first | (exfalso; omega) | ((with_reducible refine hJ _ _ _ _ ?_); conv => whnf) | (conv => whnf))
      · obtain ⟨u1, u2, u3⟩ := tf4 e2
        refine ⟨(oi_in (by omega) (by omega)).mpr ⟨by omega, by omega⟩, ?_⟩
        conv => whnf
        refine ⟨(oi_in (by omega) (by omega)).mpr ⟨by omega, by omega⟩, ?_⟩
        conv => whnf
        rw [show (Int32.ofInt 1).toNatClampNeg = 1 from rfl, hmt 1 (by omega)]
        rw [oi_nat (by omega) (by omega), Int.toNat_natCast, tf1]
        refine ⟨fun e3 => ?_, fun e3 => ?_⟩ <;> (try simp (disch := omega) only [oi_le, oi_lt, oi_eq, oi_lt0, oi_le0, oi_0lt, oi_0le, oi_eq0, oi_eq1, bI_eq0, bI_ne0, bI_eq1, decide_eq_true_eq, decide_eq_false_iff_not, lc_lt, lc_gt, lc_eq, lc_ge, lc_le, ol_lt, ol_eq, ne_eq, Int.not_lt, Int.not_le, Bool.not_eq_true, Bool.not_eq_false, Decidable.not_not, not_true_eq_false, not_false_eq_true, Bool.true_eq_false, Bool.false_eq_true] at e3) <;> (first | (exfalso; omega) | ((with_reducible refine hJ _ _ _ _ ?_); conv => whnf) | (conv => whnf))
        · have loop : ∀ (c i : Nat) (τi : AM), (i : Int) + c = h0 1 → τi.1 = τ.1 → τi.2.2 = τ.2.2 → (∀ t' i' j, τi.2.1 t' i' j = if t' = 51 ∧ i' = 0 ∧ 60 * t ≤ j ∧ j < 60 * t + i then cutS (S t) (Int32.ofInt (h0 (24 + 7 * (j - 60 * t)))).toInt64 else τ.2.1 t' i' j) → J 52 [.inr (.inr (46, 0)), .inl (Int32.ofInt (t : Int)), .inl (Int32.ofInt (i : Int))] [] τi := by
            intro c
            induction c with
            | zero =>
              intro i τi hi t1 t2 t3
              have hmi : M0 τi h0 := hmt.i1 t1
              refine hJ _ _ _ _ ?_
              conv => whnf
              refine ⟨(oi_in (by omega) (by omega)).mpr ⟨by omega, by omega⟩, ?_⟩
              conv => whnf
              rw [show (Int32.ofInt 1).toNatClampNeg = 1 from rfl, hmi 1 (by omega)]
              refine ⟨fun e4 => ?_, fun e4 => ?_⟩ <;> (try simp (disch := omega) only [oi_le, oi_lt, oi_eq, oi_lt0, oi_le0, oi_0lt, oi_0le, oi_eq0, oi_eq1, bI_eq0, bI_ne0, bI_eq1, decide_eq_true_eq, decide_eq_false_iff_not, lc_lt, lc_gt, lc_eq, lc_ge, lc_le, ol_lt, ol_eq, ne_eq, Int.not_lt, Int.not_le, Bool.not_eq_true, Bool.not_eq_false, Decidable.not_not, not_true_eq_false, not_false_eq_true, Bool.true_eq_false, Bool.false_eq_true] at e4) <;> (first | (exfalso; omega) | ((with_reducible refine hJ _ _ _ _ ?_); conv => whnf) | (conv => whnf))
              refine ⟨(oi_in (by omega) (by omega)).mpr ⟨by omega, by omega⟩, ?_⟩
              conv => whnf
              rw [show (Int32.ofInt 1).toNatClampNeg = 1 from rfl, hmi 1 (by omega)]
              refine s_m_gives hC ?_
              conv => whnf
              refine m4 e1 e2 e3 τi t1 t2 (fun t' i' j => ?_)
              rw [t3]
              by_cases e5 : t' = 51 ∧ i' = 0 ∧ 60 * t ≤ j ∧ j < 60 * t + i
              · rw [if_pos e5, if_pos (by omega)]
              · rw [if_neg e5, if_neg (by omega)]
            | succ c ih =>
              intro i τi hi t1 t2 t3
              have hmi : M0 τi h0 := hmt.i1 t1
              refine hJ _ _ _ _ ?_
              conv => whnf
              refine ⟨(oi_in (by omega) (by omega)).mpr ⟨by omega, by omega⟩, ?_⟩
              conv => whnf
              rw [show (Int32.ofInt 1).toNatClampNeg = 1 from rfl, hmi 1 (by omega)]
              refine ⟨fun e4 => ?_, fun e4 => ?_⟩ <;> (try simp (disch := omega) only [oi_le, oi_lt, oi_eq, oi_lt0, oi_le0, oi_0lt, oi_0le, oi_eq0, oi_eq1, bI_eq0, bI_ne0, bI_eq1, decide_eq_true_eq, decide_eq_false_iff_not, lc_lt, lc_gt, lc_eq, lc_ge, lc_le, ol_lt, ol_eq, ne_eq, Int.not_lt, Int.not_le, Bool.not_eq_true, Bool.not_eq_false, Decidable.not_not, not_true_eq_false, not_false_eq_true, Bool.true_eq_false, Bool.false_eq_true] at e4) <;> (first | (exfalso; omega) | ((with_reducible refine hJ _ _ _ _ ?_); conv => whnf) | (conv => whnf))
              rw [oi_mul, oi_add]
              refine s_m_monkOf hC (w := 0) hmi (by omega) (by omega) ?_
              conv => whnf
              rw [show 24 + 7 * i + 0 = 24 + 7 * i by omega]
              refine ⟨(oi_in (by omega) (by omega)).mpr ⟨by omega, by omega⟩, ?_⟩
              conv => whnf
              rw [oi_nat (by omega) (by omega), Int.toNat_natCast, t1, u1]
              refine s_m_cut hC u2 u3 ?_
              conv => whnf
              refine ⟨(oi_in (by omega) (by omega)).mpr ⟨by omega, by omega⟩, ?_⟩
              conv => whnf
              rw [oi_nat (by omega) (by omega), show (60 * (t : Int) + (i : Int)).toNat = 60 * t + i by omega, oi_succ]
              refine ih (i + 1) _ (by omega) t1 t2 (fun t' i' j => ?_)
              rw [wL1, t3]
              by_cases e5 : t' = 51 ∧ i' = 0 ∧ j = 60 * t + i
              · rw [if_pos e5, if_pos (by omega), show j - 60 * t = i by omega]
              · rw [if_neg e5]
                by_cases e6 : t' = 51 ∧ i' = 0 ∧ 60 * t ≤ j ∧ j < 60 * t + i
                · rw [if_pos e6, if_pos (by omega)]
                · rw [if_neg e6, if_neg (by omega)]
          exact loop (h0 1).toNat 0 τ (by omega) rfl rfl (fun t' i' j => by rw [if_neg (by omega)])
        · refine s_m_refuse hC ?_
          conv => whnf
          exact m3 e1 e2 e3
      · refine s_m_refuse hC ?_
        conv => whnf
        exact m2 e1 e2
    · refine s_m_refuse hC ?_
      conv => whnf
      exact m1 e1
  refine r_x_copyBreath hC (fun J hJ => ?_)
  refine hJ _ _ _ _ ?_
  conv => whnf
  refine s_isTray hC z1 z2 ?_
  conv => whnf
  refine ⟨fun c => ?_, fun c => ?_⟩ <;> (try simp (disch := omega) only [oi_le, oi_lt, oi_eq, oi_lt0, oi_le0, oi_0lt, oi_0le, oi_eq0, oi_eq1, bI_eq0, bI_ne0, bI_eq1, decide_eq_true_eq, decide_eq_false_iff_not, lc_lt, lc_gt, lc_eq, lc_ge, lc_le, ol_lt, ol_eq, ne_eq, Int.not_lt, Int.not_le, Bool.not_eq_true, Bool.not_eq_false, Decidable.not_not, not_true_eq_false, not_false_eq_true, Bool.true_eq_false, Bool.false_eq_true] at c) <;> (first | (exfalso; omega) | ((with_reducible refine hJ _ _ _ _ ?_); conv => whnf) | (conv => whnf))
  · have ez : z = ((z.toNat : Nat) : Int) := by omega
    have zt : z.toNat < 4 := by omega
    rw [ez]
    refine ⟨(oi_in (by omega) (by omega)).mpr ⟨by omega, by omega⟩, ?_⟩
    conv => whnf
    rw [oi_nat (by omega) (by omega), Int.toNat_natCast, Nat.zero_add]
    by_cases mz : M z.toNat = -1
    · rcases (ht z.toNat (by omega)).2 with ⟨g1, g2⟩ | ⟨g1, g2⟩
      · rw [g2]
        refine ⟨fun c2 => ?_, fun c2 => ?_⟩ <;> (try simp (disch := omega) only [oi_le, oi_lt, oi_eq, oi_lt0, oi_le0, oi_0lt, oi_0le, oi_eq0, oi_eq1, bI_eq0, bI_ne0, bI_eq1, decide_eq_true_eq, decide_eq_false_iff_not, lc_lt, lc_gt, lc_eq, lc_ge, lc_le, ol_lt, ol_eq, ne_eq, Int.not_lt, Int.not_le, Bool.not_eq_true, Bool.not_eq_false, Decidable.not_not, not_true_eq_false, not_false_eq_true, Bool.true_eq_false, Bool.false_eq_true] at c2) <;> (first | (exfalso; omega) | ((with_reducible refine hJ _ _ _ _ ?_); conv => whnf) | (conv => whnf))
        refine s_none hC ?_
        conv => whnf
        rw [← ez]
        refine mod _ _ ht.m.c hm.c (fun p => absurd c p) (fun _ _ => ?_) (fun _ p => absurd mz p) (fun _ p => absurd mz p)
        exact h _ _ (hR.sc done2.1 done2.2)
      · omega
    · obtain ⟨p1, p2, p3, p4, p5, p6, p7, p8⟩ := ht.is (t := z.toNat) (by omega) mz
      rw [p5]
      refine ⟨fun c2 => ?_, fun c2 => ?_⟩ <;> (try simp (disch := omega) only [oi_le, oi_lt, oi_eq, oi_lt0, oi_le0, oi_0lt, oi_0le, oi_eq0, oi_eq1, bI_eq0, bI_ne0, bI_eq1, decide_eq_true_eq, decide_eq_false_iff_not, lc_lt, lc_gt, lc_eq, lc_ge, lc_le, ol_lt, ol_eq, ne_eq, Int.not_lt, Int.not_le, Bool.not_eq_true, Bool.not_eq_false, Decidable.not_not, not_true_eq_false, not_false_eq_true, Bool.true_eq_false, Bool.false_eq_true] at c2) <;> (first | (exfalso; omega) | ((with_reducible refine hJ _ _ _ _ ?_); conv => whnf) | (conv => whnf))
      refine ⟨(oi_in (by omega) (by omega)).mpr ⟨by omega, by omega⟩, ?_⟩
      conv => whnf
      rw [oi_nat (by omega) (by omega), Int.toNat_natCast, Nat.zero_add]
      rw [hnn]
      refine ⟨by omega, ?_⟩
      conv => whnf
      rw [q1]
      refine s_holds hC p8 p1 p2 (by omega) (by omega) (by omega) (by omega) ?_
      conv => whnf
      refine ⟨fun c3 => ?_, fun c3 => ?_⟩ <;> (try simp (disch := omega) only [oi_le, oi_lt, oi_eq, oi_lt0, oi_le0, oi_0lt, oi_0le, oi_eq0, oi_eq1, bI_eq0, bI_ne0, bI_eq1, decide_eq_true_eq, decide_eq_false_iff_not, lc_lt, lc_gt, lc_eq, lc_ge, lc_le, ol_lt, ol_eq, ne_eq, Int.not_lt, Int.not_le, Bool.not_eq_true, Bool.not_eq_false, Decidable.not_not, not_true_eq_false, not_false_eq_true, Bool.true_eq_false, Bool.false_eq_true] at c3) <;> (first | (exfalso; omega) | ((with_reducible refine hJ _ _ _ _ ?_); conv => whnf) | (conv => whnf))
      · have loop : ∀ (d i : Nat) (σi : AM), (i : Int) + d = h0 1 → σi.1 = σ.1 → σi.2.2 = σ.2.2 → (∀ t' i' j, σi.2.1 t' i' j = if t' = 45 ∧ i' = z.toNat ∧ j < i then cutS (S z.toNat) (Int32.ofInt (h0 (24 + 7 * j))).toInt64 else σ.2.1 t' i' j) → J 63 [.inr (.inr (1, 0)), .inl (Int32.ofInt ((z.toNat : Nat) : Int)), .inl (Int32.ofInt (i : Int))] [] σi := by
          intro d
          induction d with
          | zero =>
            intro i σi hi t1 t2 t3
            refine hJ _ _ _ _ ?_
            conv => whnf
            rw [t2, hnn]
            refine ⟨by omega, ?_⟩
            conv => whnf
            rw [t1, q1]
            refine ⟨fun c4 => ?_, fun c4 => ?_⟩ <;> (try simp (disch := omega) only [oi_le, oi_lt, oi_eq, oi_lt0, oi_le0, oi_0lt, oi_0le, oi_eq0, oi_eq1, bI_eq0, bI_ne0, bI_eq1, decide_eq_true_eq, decide_eq_false_iff_not, lc_lt, lc_gt, lc_eq, lc_ge, lc_le, ol_lt, ol_eq, ne_eq, Int.not_lt, Int.not_le, Bool.not_eq_true, Bool.not_eq_false, Decidable.not_not, not_true_eq_false, not_false_eq_true, Bool.true_eq_false, Bool.false_eq_true] at c4) <;> (first | (exfalso; omega) | ((with_reducible refine hJ _ _ _ _ ?_); conv => whnf) | (conv => whnf))
            rw [t2, hnn]
            refine ⟨by omega, ?_⟩
            conv => whnf
            rw [t1, q1]
            refine s_give hC ?_
            conv => whnf
            have e49 : ∀ t i j, t ≠ 1 → (wI σi 1 0 16 (Int32.ofInt 0)).1 t i j = σ.1 t i j := fun t i j q => by rw [wI1, if_neg (by omega), t1]
            have htm : TmM (wI σi 1 0 16 (Int32.ofInt 0)) M S := ht.m.cg (fun j => e49 _ _ _ (by omega)) (fun j => e49 _ _ _ (by omega))
            have hm1 : M0 (wI σi 1 0 16 (Int32.ofInt 0)) h0 := hm.fr (fun j _ => e49 _ _ _ (by omega))
            refine mod _ _ htm hm1 (fun p => absurd c p) (fun _ p => absurd p mz) (fun _ _ p => by omega) (fun _ _ _ τ' f1 f2 f3 => ?_)
            have i1 : ∀ t i j, ¬ (t = 1 ∧ i = 0 ∧ j = 16) → ¬ (t = 46 ∧ i = 0 ∧ j = 2) → (wI τ' 46 0 2 (Int32.ofInt 0)).1 t i j = σ.1 t i j := by
              intro t i j n1 n2
              rw [wI1, if_neg n2, f1, wI1, if_neg n1, t1]
            refine h _ _ (hR.tray ⟨fun t i j n1 => i1 t i j (by omega) (by omega), fun t i j n1 n2 => ?_, ?_⟩ (TrM.tr (ht.w (fun t i j n1 => i1 t i j (by omega) (by omega)) (fun t j t4 hj => ?_))) ?_)
            · show τ'.2.1 t i j = _
              rw [f3, if_neg (by omega)]
              show σi.2.1 t i j = _
              rw [t3, if_neg (by omega)]
            · show τ'.2.2 = _
              rw [f2]
              exact t2
            · have bt := ht.bd t4
              show τ'.2.1 45 t j = τ'.2.1 51 0 (60 * t + j)
              rw [f3, f3, if_neg (by omega)]
              show σi.2.1 45 t j = if _ then _ else σi.2.1 51 0 (60 * t + j)
              rw [t3, t3, if_neg (by omega : ¬ (51 = 45 ∧ 0 = z.toNat ∧ 60 * t + j < i))]
              by_cases e1 : t = z.toNat ∧ j < i
              · rw [if_pos ⟨rfl, e1⟩, if_pos (by omega), show 60 * t + j - 60 * z.toNat = j by omega]
              · rw [if_neg (by omega), if_neg (by omega)]
                exact ht.old t4 hj
            · rw [wI_16, wI1, if_neg (by omega), f1, wI_16]
          | succ d ih =>
            intro i σi hi t1 t2 t3
            refine hJ _ _ _ _ ?_
            conv => whnf
            rw [t2, hnn]
            refine ⟨by omega, ?_⟩
            conv => whnf
            rw [t1, q1]
            refine ⟨fun c4 => ?_, fun c4 => ?_⟩ <;> (try simp (disch := omega) only [oi_le, oi_lt, oi_eq, oi_lt0, oi_le0, oi_0lt, oi_0le, oi_eq0, oi_eq1, bI_eq0, bI_ne0, bI_eq1, decide_eq_true_eq, decide_eq_false_iff_not, lc_lt, lc_gt, lc_eq, lc_ge, lc_le, ol_lt, ol_eq, ne_eq, Int.not_lt, Int.not_le, Bool.not_eq_true, Bool.not_eq_false, Decidable.not_not, not_true_eq_false, not_false_eq_true, Bool.true_eq_false, Bool.false_eq_true] at c4) <;> (first | (exfalso; omega) | ((with_reducible refine hJ _ _ _ _ ?_); conv => whnf) | (conv => whnf))
            refine ⟨(oi_in (by omega) (by omega)).mpr ⟨by omega, by omega⟩, ?_⟩
            conv => whnf
            rw [oi_nat (by omega) (by omega), Int.toNat_natCast, Nat.zero_add, t2, hnn]
            refine ⟨by omega, ?_⟩
            conv => whnf
            refine ⟨(oi_in (by omega) (by omega)).mpr ⟨by omega, by omega⟩, ?_⟩
            conv => whnf
            rw [oi_nat (by omega) (by omega), Int.toNat_natCast, t1, (qm i (by omega)).1]
            refine s_put hC (s := S z.toNat) (by rw [t1, p6]) p3 p4 (by omega) ?_
            conv => whnf
            rw [oi_succ]
            refine ih (i + 1) _ (by omega) t1 t2 (fun t' i' j => ?_)
            rw [wL1, t3]
            by_cases e5 : t' = 45 ∧ i' = z.toNat ∧ j = i
            · rw [if_pos e5, if_pos (by omega), e5.2.2]
            · rw [if_neg e5]
              by_cases e6 : t' = 45 ∧ i' = z.toNat ∧ j < i
              · rw [if_pos e6, if_pos (by omega)]
              · rw [if_neg e6, if_neg (by omega)]
        exact loop (h0 1).toNat 0 σ (by omega) rfl rfl (fun t' i' j => by rw [if_neg (by omega)])
      · refine s_none hC ?_
        conv => whnf
        refine mod _ _ ht.m.c hm.c (fun p => absurd c p) (fun _ p => absurd p mz) (fun _ _ _ => ?_) (fun _ _ p => by omega)
        exact h _ _ (hR.sc done2.1 done2.2)
  · refine s_none hC ?_
    conv => whnf
    refine mod _ _ ht.m.c hm.c (fun _ => ?_) (fun p => absurd p c) (fun p => absurd p c) (fun p => absurd p c)
    exact h _ _ (hR.sc done2.1 done2.2)
