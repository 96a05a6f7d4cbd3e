theorem fr_fin {t1 t2 : Nat} {σ σ1 σ3 : AM} {x y : Int64} (f1 : ChL 21 σ σ1) (f3 : ChL 63 (wI (frS σ1 1 17 x y) 1 0 16 (Int32.ofInt 0)) σ3) : FrE σ (wI (frS σ3 46 3 x y) 46 0 2 (Int32.ofInt 0)) ∧ (wI (frS σ3 46 3 x y) 46 0 2 (Int32.ofInt 0)).1 1 0 16 = (wI (frS σ3 46 3 x y) 46 0 2 (Int32.ofInt 0)).1 46 0 2 := by
  have e1 : ∀ t i j, ¬ (t = 46 ∧ i = 0 ∧ j = 2) → (wI (frS σ3 46 3 x y) 46 0 2 (Int32.ofInt 0)).1 t i j = σ3.1 t i j := fun t i j q => by rw [wI1, if_neg q]; rfl
  have e2 : ∀ t i j, t ≠ 46 → t ≠ 63 → (wI (frS σ3 46 3 x y) 46 0 2 (Int32.ofInt 0)).2.1 t i j = (frS σ1 1 17 x y).2.1 t i j := fun t i j q q2 => by
    show (wL (wL σ3 46 0 3 x) 46 0 (3 + 1) y).2.1 t i j = _
    rw [wL1, if_neg (fun z => q z.1), wL1, if_neg (fun z => q z.1), f3.2.2 t i j (fun z => q2 z.1)]
    rfl
  have e3 : ∀ j, (frS σ1 1 17 x y).2.1 1 0 j = if j = 18 then y else if j = 17 then x else σ1.2.1 1 0 j := fun j => by
    show (wL (wL σ1 1 0 17 x) 1 0 (17 + 1) y).2.1 1 0 j = _
    rw [wL1, wL1]
    simp
  refine ⟨⟨fun t i j k => ?_, fun t i j k n1 n46 => ?_, fun j _ _ => ?_, Or.inl ⟨?_, ?_⟩⟩, ?_⟩
  · rw [e1 t i j (fun z => nk_status (by rw [← z.1, ← z.2.1, ← z.2.2]; exact k)), f3.1, wI1, if_neg (fun z => nk_code (by rw [← z.1, ← z.2.1, ← z.2.2]; exact k))]
    exact congrFun (congrFun (congrFun f1.1 t) i) j
  · have h63 : t ≠ 63 := by unfold keepL at k; omega
    have h21 : t ≠ 21 := by unfold keepL at k; omega
    rw [e2 t i j n46 h63]
    show (wL (wL σ1 1 0 17 x) 1 0 (17 + 1) y).2.1 t i j = _
    rw [wL1, if_neg (fun z => n1 z.1), wL1, if_neg (fun z => n1 z.1), f1.2.2 t i j (fun z => h21 z.1)]
  · show σ3.2.2 1 0 j = _
    rw [f3.2.1]
    show σ1.2.2 1 0 j = _
    rw [f1.2.1]
  · rw [e2 1 0 17 (by omega) (by omega), e3, if_neg (by omega), if_pos rfl]
    show x = (wL (wL σ3 46 0 3 x) 46 0 (3 + 1) y).2.1 46 0 3
    rw [wL1, if_neg (by omega), wL1, if_pos ⟨rfl, rfl, rfl⟩]
  · rw [e2 1 0 18 (by omega) (by omega), e3, if_pos rfl]
    show y = (wL (wL σ3 46 0 3 x) 46 0 (3 + 1) y).2.1 46 0 4
    rw [wL1, if_pos ⟨rfl, rfl, rfl⟩]
  · rw [e1 1 0 16 (by omega), f3.1, wI1, if_pos ⟨rfl, rfl, rfl⟩, wI1, if_pos ⟨rfl, rfl, rfl⟩]
theorem SC.fre {σ σ' : AM} (h : SC σ σ') : FrE σ σ' := ⟨h.1, fun t i j k _ _ => h.2.1 t i j k, h.2.2, Or.inr h⟩
theorem sm_from (f : Nat → Nat) (k : Nat) : ∀ i, k ≤ i → sm (fun j => if k ≤ j then f j else 0) i + sm f k = sm f i
  | 0, h => by
    have : k = 0 := by omega
    subst this
    rfl
  | i + 1, h => by
    by_cases e : k = i + 1
    · subst e
      have : ∀ q, q ≤ i + 1 → sm (fun j => if i + 1 ≤ j then f j else 0) q = 0 := by
        intro q
        induction q with
        | zero => intro _; rfl
        | succ q ih => intro hq; rw [sm, ih (by omega), if_neg (by omega)]
      rw [this _ (by omega)]
      omega
    · have ih := sm_from f k i (by omega)
      rw [sm, sm, if_pos (by omega)]
      omega
theorem pow16 {n : Nat} (h : n ≤ 6) : 0 < 16 ^ n ∧ 16 ^ n ≤ 16777216 := by
  have : ∀ n : Fin 7, 0 < 16 ^ n.val ∧ 16 ^ n.val ≤ 16777216 := by decide
  exact this ⟨n, by omega⟩
theorem op_coughs {CALL : CT} (hC : RuleAll CALL) {r : Nat} {σ : AM} {K : AV → AV → AM → Prop} {n : Nat} {h0 : Nat → Int} (hn : NH σ n h0) {z : Int} (z1 : -2147483648 ≤ z) (z2 : z < 2147483648) (h : ∀ v σ2, FrE σ σ2 → σ2.1 1 0 16 = σ2.1 46 0 2 → K v v σ2) : CALL (r + 20) n_x_coughs [.inr (.inr (1, 0)), .inl (Int32.ofInt z)] σ (fun v σ1 => CALL (r + 20) n_m_coughs [.inr (.inr (46, 0)), .inl (Int32.ofInt z)] σ1 (fun v' σ2 => K v v' σ2)) := by
  obtain ⟨n45, hnn, hr, hm, ⟨hw, hw67⟩, h59⟩ := id hn
  have b := hw.1
  obtain ⟨q0, q1, q2, q3, q4, q5, q6, q7, q8, q9, qa, qt, qm, qe⟩ := id hr
  have o4 : (h0 4).toNat ≤ 16 := by omega
  have ml := mayC_le hw
  have p16 := pow16 ml
  have al := cw_all o4 (n := mayC h0) (by omega)
  refine r_x_coughs hC (fun J hJ => ?_)
  refine hJ _ _ _ _ ?_
  conv => whnf
  refine s_withinI hC (by omega) (by omega) (by omega) (by omega) (by omega) (by omega) ?_
  conv => whnf
  refine ⟨fun c => ?_, fun c => ?_⟩ <;> (try simp (disch := omega) only [oi_le, oi_lt, oi_eq, oi_lt0, oi_le0, oi_0lt, oi_0le, oi_eq0, oi_eq1, bI_eq0, bI_ne0, bI_eq1, decide_eq_true_eq, decide_eq_false_iff_not, lc_lt, lc_gt, lc_eq, lc_ge, lc_le, ol_lt, ol_eq, ne_eq, Int.not_lt, Int.not_le, Bool.not_eq_true, Bool.not_eq_false, Decidable.not_not, not_true_eq_false, not_false_eq_true, Bool.true_eq_false, Bool.false_eq_true] at c) <;> (first | (exfalso; omega) | ((with_reducible refine hJ _ _ _ _ ?_); conv => whnf) | (conv => whnf))
  · obtain ⟨k, rfl⟩ : ∃ k : Nat, z = (k : Int) := ⟨z.toNat, by omega⟩
    refine s_weighCoughs hC hn ?_
    intro σ1 f1 f2
    conv => whnf
    have sb : ∀ i, i ≤ 8 → sm (cw (h0 4).toNat (mayC h0)) i ≤ sm (cw (h0 4).toNat (mayC h0)) 8 := by
      intro i hi
      have : ∀ d, sm (cw (h0 4).toNat (mayC h0)) i ≤ sm (cw (h0 4).toNat (mayC h0)) (i + d) := by
        intro d
        induction d with
        | zero => exact Nat.le_refl _
        | succ d ih => show _ ≤ sm _ (i + d) + _; omega
      have := this (8 - i)
      rw [show i + (8 - i) = 8 by omega] at this
      exact this
    have fin : ∀ (x : AV), J 73 [.inr (.inr (1, 0)), .inl (Int32.ofInt (k : Int)), .inr (.inl (Int64.ofInt (sm (cw (h0 4).toNat (mayC h0)) 8 : Nat))), unset, .inr (.inl (Int64.ofInt (sm (fun j => if k ≤ j then cw (h0 4).toNat (mayC h0) j else 0) 8 : Nat))), unset, x] [] σ1 := by
      intro x
      have sf := sm_from (cw (h0 4).toNat (mayC h0)) k 8 (by omega)
      generalize he : sm (fun j => if k ≤ j then cw (h0 4).toNat (mayC h0) j else 0) 8 = en at sf ⊢
      refine hJ _ _ _ _ ?_
      conv => whnf
      refine s_tellFraction hC (by omega) (by omega) (by omega) ?_
      conv => whnf
      refine s_agree hC ?_
      conv => whnf
      refine ⟨Or.inr rfl, ?_⟩
      have hm2 : M0 (wI (frS σ1 1 17 (Int64.ofInt (en / Nat.gcd en (sm (cw (h0 4).toNat (mayC h0)) 8) : Nat)) (Int64.ofInt (sm (cw (h0 4).toNat (mayC h0)) 8 / Nat.gcd en (sm (cw (h0 4).toNat (mayC h0)) 8) : Nat))) 1 0 16 (Int32.ofInt 0)) h0 := M0.c (hm.i1 (σ' := frS σ1 1 17 _ _) f1.1)
      have ff := fun σ3 => fr_fin (σ3 := σ3) (x := Int64.ofInt (en / Nat.gcd en (sm (cw (h0 4).toNat (mayC h0)) 8) : Nat)) (y := Int64.ofInt (sm (cw (h0 4).toNat (mayC h0)) 8 / Nat.gcd en (sm (cw (h0 4).toNat (mayC h0)) 8) : Nat)) (t1 := 0) (t2 := 0) f1
      generalize wI (frS σ1 1 17 (Int64.ofInt (en / Nat.gcd en (sm (cw (h0 4).toNat (mayC h0)) 8) : Nat)) (Int64.ofInt (sm (cw (h0 4).toNat (mayC h0)) 8 / Nat.gcd en (sm (cw (h0 4).toNat (mayC h0)) 8) : Nat))) 1 0 16 (Int32.ofInt 0) = τ at hm2 ff ⊢
      refine r_m_coughs hC (fun J hJ => ?_)
      refine hJ _ _ _ _ ?_
      conv => whnf
      rw [oi_l (by omega) (by omega)]
      refine s_m_isFrom hC (by omega) (by omega) (by omega) (by omega) (by omega) (by omega) ?_
      conv => whnf
      refine ⟨fun c2 => ?_, fun c2 => ?_⟩ <;> (try simp (disch := omega) only [oi_le, oi_lt, oi_eq, oi_lt0, oi_le0, oi_0lt, oi_0le, oi_eq0, oi_eq1, bI_eq0, bI_ne0, bI_eq1, decide_eq_true_eq, decide_eq_false_iff_not, lc_lt, lc_gt, lc_eq, lc_ge, lc_le, ol_lt, ol_eq, ne_eq, Int.not_lt, Int.not_le, Bool.not_eq_true, Bool.not_eq_false, Decidable.not_not, not_true_eq_false, not_false_eq_true, Bool.true_eq_false, Bool.false_eq_true] at c2) <;> (first | (exfalso; omega) | ((with_reducible refine hJ _ _ _ _ ?_); conv => whnf) | (conv => whnf))
      refine s_m_awake hC hm2 hw ?_
      conv => whnf
      refine ⟨(oi_in (by omega) (by omega)).mpr ⟨by omega, by omega⟩, ?_⟩
      conv => whnf
      rw [show (Int32.ofInt 8).toNatClampNeg = 8 from rfl, hm2 8 (by omega)]
      have q8 : h0 8 = (((h0 8).toNat : Nat) : Int) := by omega
      rw [q8, oi_clr (awS_lt h0) (by omega)]
      refine s_m_bits hC (a := rem (awS h0) (h0 8).toNat) (rem_lt (awS_lt h0) (by omega)) ?_
      conv => whnf
      rw [mayC_cnt hw]
      -- at last the sum
      have last : ∀ (σ3 : AM) (x5 x6 : AV), ChL 63 τ σ3 → WR σ3 63 (cw (h0 4).toNat (mayC h0)) → J 161 [.inr (.inr (46, 0)), .inl (Int32.ofInt (k : Int)), .inl (Int32.ofInt (mayC h0 : Nat)), .inr (.inl (Int64.ofInt (16 ^ mayC h0 : Nat))), unset, x5, x6, unset] [] σ3 := by
        intro σ3 x5 x6 g1 g2
        have lp : ∀ (q i : Nat), i + q = 8 → k ≤ i → J 167 [.inr (.inr (46, 0)), .inl (Int32.ofInt (k : Int)), .inl (Int32.ofInt (mayC h0 : Nat)), .inr (.inl (Int64.ofInt (16 ^ mayC h0 : Nat))), unset, .inr (.inl (Int64.ofInt (sm (fun j => if k ≤ j then cw (h0 4).toNat (mayC h0) j else 0) i : Nat))), unset, .inl (Int32.ofInt (i : Int))] [] σ3 := by
          intro q
          induction q with
          | zero =>
            intro i hi hk
            have : i = 8 := by omega
            subst this
            refine hJ _ _ _ _ ?_
            conv => whnf
            refine ⟨fun c3 => ?_, fun c3 => ?_⟩ <;> (try simp (disch := omega) only [oi_le, oi_lt, oi_eq, oi_lt0, oi_le0, oi_0lt, oi_0le, oi_eq0, oi_eq1, bI_eq0, bI_ne0, bI_eq1, decide_eq_true_eq, decide_eq_false_iff_not, lc_lt, lc_gt, lc_eq, lc_ge, lc_le, ol_lt, ol_eq, ne_eq, Int.not_lt, Int.not_le, Bool.not_eq_true, Bool.not_eq_false, Decidable.not_not, not_true_eq_false, not_false_eq_true, Bool.true_eq_false, Bool.false_eq_true] at c3) <;> (first | (exfalso; omega) | ((with_reducible refine hJ _ _ _ _ ?_); conv => whnf) | (conv => whnf))
            rw [he]
            refine s_m_tellsBy hC (by omega) (by omega) (by omega) ?_
            conv => whnf
            refine ⟨Or.inr rfl, ?_⟩
            rw [← al]
            exact h _ _ (ff σ3 g1).1 (ff σ3 g1).2
          | succ q ih =>
            intro i hi hk
            have nx := ih (i + 1) (by omega) (by omega)
            rw [sm, if_pos (by omega)] at nx
            refine hJ _ _ _ _ ?_
            conv => whnf
            refine ⟨fun c3 => ?_, fun c3 => ?_⟩ <;> (try simp (disch := omega) only [oi_le, oi_lt, oi_eq, oi_lt0, oi_le0, oi_0lt, oi_0le, oi_eq0, oi_eq1, bI_eq0, bI_ne0, bI_eq1, decide_eq_true_eq, decide_eq_false_iff_not, lc_lt, lc_gt, lc_eq, lc_ge, lc_le, ol_lt, ol_eq, ne_eq, Int.not_lt, Int.not_le, Bool.not_eq_true, Bool.not_eq_false, Decidable.not_not, not_true_eq_false, not_false_eq_true, Bool.true_eq_false, Bool.false_eq_true] at c3) <;> (first | (exfalso; omega) | ((with_reducible refine hJ _ _ _ _ ?_); conv => whnf) | (conv => whnf))
            refine ⟨(oi_in (by omega) (by omega)).mpr ⟨by omega, by omega⟩, ?_⟩
            conv => whnf
            rw [oi_nat (by omega) (by omega), Int.toNat_natCast, g2 i (by omega), ol_add, oi_succ, ← Int.natCast_add]
            exact nx
        refine hJ _ _ _ _ ?_
        conv => whnf
        have z0 : ∀ q, q ≤ k → sm (fun j => if k ≤ j then cw (h0 4).toNat (mayC h0) j else 0) q = 0 := by
          intro q
          induction q with
          | zero => intro _; rfl
          | succ q ih => intro hq; rw [sm, ih (by omega), if_neg (by omega)]
        have st := lp (8 - k) k (by omega) (Nat.le_refl k)
        rw [z0 k (Nat.le_refl k)] at st
        exact st
      have rounds : ∀ (q m : Nat) (σ3 : AM) (x6 : AV), m + q = mayC h0 → ChL 63 τ σ3 → WR σ3 63 (cw (h0 4).toNat m) → J 76 [.inr (.inr (46, 0)), .inl (Int32.ofInt (k : Int)), .inl (Int32.ofInt (mayC h0 : Nat)), .inr (.inl (Int64.ofInt (16 ^ m : Nat))), unset, .inl (Int32.ofInt (m : Int)), x6, unset] [] σ3 := by
        intro q
        induction q with
        | zero =>
          intro m σ3 x6 hi g1 g2
          have : m = mayC h0 := by omega
          subst this
          refine hJ _ _ _ _ ?_
          conv => whnf
          refine ⟨fun c3 => ?_, fun c3 => ?_⟩ <;> (try simp (disch := omega) only [oi_le, oi_lt, oi_eq, oi_lt0, oi_le0, oi_0lt, oi_0le, oi_eq0, oi_eq1, bI_eq0, bI_ne0, bI_eq1, decide_eq_true_eq, decide_eq_false_iff_not, lc_lt, lc_gt, lc_eq, lc_ge, lc_le, ol_lt, ol_eq, ne_eq, Int.not_lt, Int.not_le, Bool.not_eq_true, Bool.not_eq_false, Decidable.not_not, not_true_eq_false, not_false_eq_true, Bool.true_eq_false, Bool.false_eq_true] at c3) <;> (first | (exfalso; omega) | ((fail_if_success with_reducible refine hJ _ _ _ _ ?_); conv => whnf) | skip)
          exact last σ3 _ _ g1 g2
        | succ q ih =>
          intro m σ3 x6 hi g1 g2
          have down : ∀ (i : Nat) (σ4 : AM), i ≤ 8 → ChL 63 τ σ4 → WR σ4 63 (fun j => if i ≤ j then cw (h0 4).toNat (m + 1) j else cw (h0 4).toNat m j) → J 86 [.inr (.inr (46, 0)), .inl (Int32.ofInt (k : Int)), .inl (Int32.ofInt (mayC h0 : Nat)), .inr (.inl (Int64.ofInt (16 ^ m : Nat))), unset, .inl (Int32.ofInt (m : Int)), .inl (Int32.ofInt ((i : Int) - 1)), unset] [] σ4 := by
            intro i
            induction i with
            | zero =>
              intro σ4 hi4 k1 k2
              refine hJ _ _ _ _ ?_
              conv => whnf
              refine ⟨fun c4 => ?_, fun c4 => ?_⟩ <;> (try simp (disch := omega) only [oi_le, oi_lt, oi_eq, oi_lt0, oi_le0, oi_0lt, oi_0le, oi_eq0, oi_eq1, bI_eq0, bI_ne0, bI_eq1, decide_eq_true_eq, decide_eq_false_iff_not, lc_lt, lc_gt, lc_eq, lc_ge, lc_le, ol_lt, ol_eq, ne_eq, Int.not_lt, Int.not_le, Bool.not_eq_true, Bool.not_eq_false, Decidable.not_not, not_true_eq_false, not_false_eq_true, Bool.true_eq_false, Bool.false_eq_true] at c4) <;> (first | (exfalso; omega) | ((with_reducible refine hJ _ _ _ _ ?_); conv => whnf) | (conv => whnf))
              rw [ol_mul, oi_succ]
              have nx := ih (m + 1) σ4 (.inl (Int32.ofInt (((0 : Nat) : Int) - 1))) (by omega) k1 (fun j hj => by
                have := k2 j hj
                dsimp only at this
                rw [if_pos (by omega)] at this
                exact this)
              rw [Nat.pow_succ, Int.natCast_mul] at nx
              exact nx
            | succ i ih4 =>
              intro σ4 hi4 k1 k2
              have hm4 : M0 σ4 h0 := hm2.i1 k1.1
              have w1 := k2 i (by omega)
              dsimp only at w1
              rw [if_neg (by omega)] at w1
              have nx := fun v hv => ih4 _ (by omega) (k1.tr ChL.w) (upW (σ := σ4) (t := 63) (o := (h0 4).toNat) (n := m) (i := i) (by omega) (fun j hj => by
                have := k2 j hj
                dsimp only at this ⊢
                exact this) (v := v) hv)
              rw [show ((((i + 1 : Nat)) : Int) - 1) = (i : Int) by omega]
              refine hJ _ _ _ _ ?_
              conv => whnf
              refine ⟨fun c4 => ?_, fun c4 => ?_⟩ <;> (try simp (disch := omega) only [oi_le, oi_lt, oi_eq, oi_lt0, oi_le0, oi_0lt, oi_0le, oi_eq0, oi_eq1, bI_eq0, bI_ne0, bI_eq1, decide_eq_true_eq, decide_eq_false_iff_not, lc_lt, lc_gt, lc_eq, lc_ge, lc_le, ol_lt, ol_eq, ne_eq, Int.not_lt, Int.not_le, Bool.not_eq_true, Bool.not_eq_false, Decidable.not_not, not_true_eq_false, not_false_eq_true, Bool.true_eq_false, Bool.false_eq_true] at c4) <;> (first | (exfalso; omega) | ((with_reducible refine hJ _ _ _ _ ?_); conv => whnf) | (conv => whnf))
              refine ⟨(oi_in (by omega) (by omega)).mpr ⟨by omega, by omega⟩, ?_⟩
              conv => whnf
              refine ⟨(oi_in (by omega) (by omega)).mpr ⟨by omega, by omega⟩, ?_⟩
              conv => whnf
              rw [show (Int32.ofInt 4).toNatClampNeg = 4 from rfl, hm4 4 (by omega)]
              rw [oi_nat (by omega) (by omega), Int.toNat_natCast, w1, oi_sub, oi_l (by omega) (by omega), ol_mul]
              have e16 : (16 : Int) - h0 4 = ((16 - (h0 4).toNat : Nat) : Int) := by omega
              rw [e16]
              by_cases e0 : i = 0
              · subst e0
                refine ⟨fun c5 => ?_, fun c5 => ?_⟩ <;> (try simp (disch := omega) only [oi_le, oi_lt, oi_eq, oi_lt0, oi_le0, oi_0lt, oi_0le, oi_eq0, oi_eq1, bI_eq0, bI_ne0, bI_eq1, decide_eq_true_eq, decide_eq_false_iff_not, lc_lt, lc_gt, lc_eq, lc_ge, lc_le, ol_lt, ol_eq, ne_eq, Int.not_lt, Int.not_le, Bool.not_eq_true, Bool.not_eq_false, Decidable.not_not, not_true_eq_false, not_false_eq_true, Bool.true_eq_false, Bool.false_eq_true] at c5) <;> (first | (exfalso; omega) | ((with_reducible refine hJ _ _ _ _ ?_); conv => whnf) | (conv => whnf))
                refine hJ _ _ _ _ ?_
                conv => whnf
                rw [ol_add]
                refine ⟨(oi_in (by omega) (by omega)).mpr ⟨by omega, by omega⟩, ?_⟩
                conv => whnf
                rw [show (Int32.ofInt ((0 : Nat) : Int)).toNatClampNeg = 0 from rfl, oi_add]
                refine nx _ ?_
                rw [cw, if_pos rfl, Int.natCast_add, Int.natCast_mul]
                rfl
              · have w0 := k2 (i - 1) (by omega)
                dsimp only at w0
                rw [if_neg (by omega)] at w0
                refine ⟨fun c5 => ?_, fun c5 => ?_⟩ <;> (try simp (disch := omega) only [oi_le, oi_lt, oi_eq, oi_lt0, oi_le0, oi_0lt, oi_0le, oi_eq0, oi_eq1, bI_eq0, bI_ne0, bI_eq1, decide_eq_true_eq, decide_eq_false_iff_not, lc_lt, lc_gt, lc_eq, lc_ge, lc_le, ol_lt, ol_eq, ne_eq, Int.not_lt, Int.not_le, Bool.not_eq_true, Bool.not_eq_false, Decidable.not_not, not_true_eq_false, not_false_eq_true, Bool.true_eq_false, Bool.false_eq_true] at c5) <;> (first | (exfalso; omega) | ((with_reducible refine hJ _ _ _ _ ?_); conv => whnf) | (conv => whnf))
                rw [oi_sub]
                refine ⟨(oi_in (by omega) (by omega)).mpr ⟨by omega, by omega⟩, ?_⟩
                conv => whnf
                refine ⟨(oi_in (by omega) (by omega)).mpr ⟨by omega, by omega⟩, ?_⟩
                conv => whnf
                rw [show (Int32.ofInt 4).toNatClampNeg = 4 from rfl, hm4 4 (by omega)]
                rw [oi_nat (by omega) (by omega), show ((i : Int) - 1).toNat = i - 1 by omega, w0, oi_l (by omega) (by omega), ol_mul]
                refine hJ _ _ _ _ ?_
                conv => whnf
                rw [ol_add]
                refine ⟨(oi_in (by omega) (by omega)).mpr ⟨by omega, by omega⟩, ?_⟩
                conv => whnf
                rw [oi_nat (by omega) (by omega), Int.toNat_natCast, oi_add]
                refine nx _ ?_
                rw [cw, if_neg e0, Int.natCast_add, Int.natCast_mul, Int.natCast_mul, show (((h0 4).toNat : Nat) : Int) = h0 4 by omega]
          refine hJ _ _ _ _ ?_
          conv => whnf
          refine ⟨fun c3 => ?_, fun c3 => ?_⟩ <;> (try simp (disch := omega) only [oi_le, oi_lt, oi_eq, oi_lt0, oi_le0, oi_0lt, oi_0le, oi_eq0, oi_eq1, bI_eq0, bI_ne0, bI_eq1, decide_eq_true_eq, decide_eq_false_iff_not, lc_lt, lc_gt, lc_eq, lc_ge, lc_le, ol_lt, ol_eq, ne_eq, Int.not_lt, Int.not_le, Bool.not_eq_true, Bool.not_eq_false, Decidable.not_not, not_true_eq_false, not_false_eq_true, Bool.true_eq_false, Bool.false_eq_true] at c3) <;> (first | (exfalso; omega) | ((with_reducible refine hJ _ _ _ _ ?_); conv => whnf) | (conv => whnf))
          exact down 8 σ3 (by omega) g1 (fun j hj => by
            rw [g2 j hj]
            dsimp only
            rw [if_neg (by omega)])
      have fill : ∀ (q i : Nat) (σ3 : AM), i + q = 8 → ChL 63 τ σ3 → (∀ j, j < i → σ3.2.1 63 0 j = Int64.ofInt (cw (h0 4).toNat 0 j : Nat)) → J 43 [.inr (.inr (46, 0)), .inl (Int32.ofInt (k : Int)), .inl (Int32.ofInt (mayC h0 : Nat)), .inr (.inl (Int64.ofInt 1)), unset, .inl (Int32.ofInt (i : Int)), unset, unset] [] σ3 := by
        intro q
        induction q with
        | zero =>
          intro i σ3 hi g1 g2
          have : i = 8 := by omega
          subst this
          refine hJ _ _ _ _ ?_
          conv => whnf
          refine ⟨fun c3 => ?_, fun c3 => ?_⟩ <;> (try simp (disch := omega) only [oi_le, oi_lt, oi_eq, oi_lt0, oi_le0, oi_0lt, oi_0le, oi_eq0, oi_eq1, bI_eq0, bI_ne0, bI_eq1, decide_eq_true_eq, decide_eq_false_iff_not, lc_lt, lc_gt, lc_eq, lc_ge, lc_le, ol_lt, ol_eq, ne_eq, Int.not_lt, Int.not_le, Bool.not_eq_true, Bool.not_eq_false, Decidable.not_not, not_true_eq_false, not_false_eq_true, Bool.true_eq_false, Bool.false_eq_true] at c3) <;> (first | (exfalso; omega) | ((with_reducible refine hJ _ _ _ _ ?_); conv => whnf) | (conv => whnf))
          exact rounds (mayC h0) 0 σ3 _ (by omega) g1 g2
        | succ q ih =>
          intro i σ3 hi g1 g2
          have nx : ∀ v : Int64, v = Int64.ofInt (cw (h0 4).toNat 0 i : Nat) → J 43 [.inr (.inr (46, 0)), .inl (Int32.ofInt (k : Int)), .inl (Int32.ofInt (mayC h0 : Nat)), .inr (.inl (Int64.ofInt 1)), unset, .inl (Int32.ofInt ((i + 1 : Nat) : Int)), unset, unset] [] (wL σ3 63 0 i v) := fun v hv => ih (i + 1) _ (by omega) (g1.tr ChL.w) (fun j hj => by
            rw [wL1]
            by_cases e : j = i
            · subst e
              rw [if_pos ⟨rfl, rfl, rfl⟩, hv]
            · rw [if_neg (by omega)]
              exact g2 j (by omega))
          refine hJ _ _ _ _ ?_
          conv => whnf
          refine ⟨fun c3 => ?_, fun c3 => ?_⟩ <;> (try simp (disch := omega) only [oi_le, oi_lt, oi_eq, oi_lt0, oi_le0, oi_0lt, oi_0le, oi_eq0, oi_eq1, bI_eq0, bI_ne0, bI_eq1, decide_eq_true_eq, decide_eq_false_iff_not, lc_lt, lc_gt, lc_eq, lc_ge, lc_le, ol_lt, ol_eq, ne_eq, Int.not_lt, Int.not_le, Bool.not_eq_true, Bool.not_eq_false, Decidable.not_not, not_true_eq_false, not_false_eq_true, Bool.true_eq_false, Bool.false_eq_true] at c3) <;> (first | (exfalso; omega) | ((with_reducible refine hJ _ _ _ _ ?_); conv => whnf) | (conv => whnf))
          refine ⟨fun c4 => ?_, fun c4 => ?_⟩ <;> (try simp (disch := omega) only [oi_le, oi_lt, oi_eq, oi_lt0, oi_le0, oi_0lt, oi_0le, oi_eq0, oi_eq1, bI_eq0, bI_ne0, bI_eq1, decide_eq_true_eq, decide_eq_false_iff_not, lc_lt, lc_gt, lc_eq, lc_ge, lc_le, ol_lt, ol_eq, ne_eq, Int.not_lt, Int.not_le, Bool.not_eq_true, Bool.not_eq_false, Decidable.not_not, not_true_eq_false, not_false_eq_true, Bool.true_eq_false, Bool.false_eq_true] at c4) <;> (first | (exfalso; omega) | ((with_reducible refine hJ _ _ _ _ ?_); conv => whnf) | (conv => whnf))
          · refine hJ _ _ _ _ ?_
            conv => whnf
            refine ⟨(oi_in (by omega) (by omega)).mpr ⟨by omega, by omega⟩, ?_⟩
            conv => whnf
            rw [oi_nat (by omega) (by omega), Int.toNat_natCast, oi_succ]
            refine nx _ ?_
            rw [cw, if_neg (by omega)]
            rfl
          · refine hJ _ _ _ _ ?_
            conv => whnf
            refine ⟨(oi_in (by omega) (by omega)).mpr ⟨by omega, by omega⟩, ?_⟩
            conv => whnf
            rw [oi_nat (by omega) (by omega), Int.toNat_natCast, oi_succ]
            refine nx _ ?_
            rw [cw, if_pos (by omega)]
            rfl
      exact fill 8 0 τ (by omega) ChL.rf (fun j hj => by omega)
    have loop : ∀ (q i : Nat), i + q = 8 → J 28 [.inr (.inr (1, 0)), .inl (Int32.ofInt (k : Int)), .inr (.inl (Int64.ofInt (sm (cw (h0 4).toNat (mayC h0)) i : Nat))), unset, .inr (.inl (Int64.ofInt (sm (fun j => if k ≤ j then cw (h0 4).toNat (mayC h0) j else 0) i : Nat))), unset, .inl (Int32.ofInt (i : Int))] [] σ1 := by
      intro q
      induction q with
      | zero =>
        intro i hi
        have : i = 8 := by omega
        subst this
        refine hJ _ _ _ _ ?_
        conv => whnf
        refine ⟨fun c2 => ?_, fun c2 => ?_⟩ <;> (try simp (disch := omega) only [oi_le, oi_lt, oi_eq, oi_lt0, oi_le0, oi_0lt, oi_0le, oi_eq0, oi_eq1, bI_eq0, bI_ne0, bI_eq1, decide_eq_true_eq, decide_eq_false_iff_not, lc_lt, lc_gt, lc_eq, lc_ge, lc_le, ol_lt, ol_eq, ne_eq, Int.not_lt, Int.not_le, Bool.not_eq_true, Bool.not_eq_false, Decidable.not_not, not_true_eq_false, not_false_eq_true, Bool.true_eq_false, Bool.false_eq_true] at c2) <;> (first | (exfalso; omega) | ((fail_if_success with_reducible refine hJ _ _ _ _ ?_); conv => whnf) | skip)
        exact fin _
      | succ q ih =>
        intro i hi
        have nx := ih (i + 1) (by omega)
        rw [sm, sm] at nx
        refine hJ _ _ _ _ ?_
        conv => whnf
        refine ⟨fun c2 => ?_, fun c2 => ?_⟩ <;> (try simp (disch := omega) only [oi_le, oi_lt, oi_eq, oi_lt0, oi_le0, oi_0lt, oi_0le, oi_eq0, oi_eq1, bI_eq0, bI_ne0, bI_eq1, decide_eq_true_eq, decide_eq_false_iff_not, lc_lt, lc_gt, lc_eq, lc_ge, lc_le, ol_lt, ol_eq, ne_eq, Int.not_lt, Int.not_le, Bool.not_eq_true, Bool.not_eq_false, Decidable.not_not, not_true_eq_false, not_false_eq_true, Bool.true_eq_false, Bool.false_eq_true] at c2) <;> (first | (exfalso; omega) | ((with_reducible refine hJ _ _ _ _ ?_); conv => whnf) | (conv => whnf))
        refine ⟨(oi_in (by omega) (by omega)).mpr ⟨by omega, by omega⟩, ?_⟩
        conv => whnf
        rw [oi_nat (by omega) (by omega), Int.toNat_natCast, f2 i (by omega), ol_add]
        refine ⟨fun c3 => ?_, fun c3 => ?_⟩ <;> (try simp (disch := omega) only [oi_le, oi_lt, oi_eq, oi_lt0, oi_le0, oi_0lt, oi_0le, oi_eq0, oi_eq1, bI_eq0, bI_ne0, bI_eq1, decide_eq_true_eq, decide_eq_false_iff_not, lc_lt, lc_gt, lc_eq, lc_ge, lc_le, ol_lt, ol_eq, ne_eq, Int.not_lt, Int.not_le, Bool.not_eq_true, Bool.not_eq_false, Decidable.not_not, not_true_eq_false, not_false_eq_true, Bool.true_eq_false, Bool.false_eq_true] at c3) <;> (first | (exfalso; omega) | ((with_reducible refine hJ _ _ _ _ ?_); conv => whnf) | (conv => whnf))
        · refine hJ _ _ _ _ ?_
          conv => whnf
          rw [ol_add, oi_succ]
          rw [if_neg (by omega), Int.natCast_add, Int.natCast_add] at nx
          exact nx
        · refine ⟨(oi_in (by omega) (by omega)).mpr ⟨by omega, by omega⟩, ?_⟩
          conv => whnf
          rw [oi_nat (by omega) (by omega), Int.toNat_natCast, f2 i (by omega)]
          refine hJ _ _ _ _ ?_
          conv => whnf
          rw [ol_add, oi_succ]
          rw [if_pos (by omega), Int.natCast_add, Int.natCast_add] at nx
          exact nx
    exact loop 8 0 (by omega)
  · refine s_refuse hC ?_
    conv => whnf
    refine ⟨Or.inl rfl, ?_⟩
    refine r_m_coughs hC (fun J hJ => ?_)
    refine hJ _ _ _ _ ?_
    conv => whnf
    rw [oi_l (by omega) (by omega)]
    refine s_m_isFrom hC (by omega) (by omega) (by omega) (by omega) (by omega) (by omega) ?_
    conv => whnf
    refine ⟨fun c2 => ?_, fun c2 => ?_⟩ <;> (try simp (disch := omega) only [oi_le, oi_lt, oi_eq, oi_lt0, oi_le0, oi_0lt, oi_0le, oi_eq0, oi_eq1, bI_eq0, bI_ne0, bI_eq1, decide_eq_true_eq, decide_eq_false_iff_not, lc_lt, lc_gt, lc_eq, lc_ge, lc_le, ol_lt, ol_eq, ne_eq, Int.not_lt, Int.not_le, Bool.not_eq_true, Bool.not_eq_false, Decidable.not_not, not_true_eq_false, not_false_eq_true, Bool.true_eq_false, Bool.false_eq_true] at c2) <;> (first | (exfalso; omega) | ((with_reducible refine hJ _ _ _ _ ?_); conv => whnf) | (conv => whnf))
    refine s_m_is hC (x := 1) (by omega) (by omega) ?_
    conv => whnf
    refine ⟨Or.inl rfl, ?_⟩
    exact h _ _ done2.1.fre done2.2
