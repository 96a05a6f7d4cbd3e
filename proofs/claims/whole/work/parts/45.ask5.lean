theorem s_minI {CALL : CT} (hC : RuleAll CALL) {r : Nat} {σ : AM} {K : AV → AM → Prop} {a b : Int} (a1 : -2147483648 ≤ a) (a2 : a < 2147483648) (b1 : -2147483648 ≤ b) (b2 : b < 2147483648) (h : K (.inl (Int32.ofInt (min a b))) σ) : CALL (r + 1) n_Math_min [.inl (Int32.ofInt a), .inl (Int32.ofInt b)] σ K := by
  refine s_min hC ?_
  by_cases c : b < a
  · rw [if_pos ((oi_lt b1 b2 a1 a2).mpr c)]
    rw [show min a b = b by omega] at h
    exact h
  · rw [if_neg (fun z => c ((oi_lt b1 b2 a1 a2).mp z))]
    rw [show min a b = a by omega] at h
    exact h
theorem s_maxI {CALL : CT} (hC : RuleAll CALL) {r : Nat} {σ : AM} {K : AV → AM → Prop} {a b : Int} (a1 : -2147483648 ≤ a) (a2 : a < 2147483648) (b1 : -2147483648 ≤ b) (b2 : b < 2147483648) (h : K (.inl (Int32.ofInt (max a b))) σ) : CALL (r + 1) n_Math_max [.inl (Int32.ofInt a), .inl (Int32.ofInt b)] σ K := by
  refine s_max hC ?_
  by_cases c : a < b
  · rw [if_pos ((oi_lt a1 a2 b1 b2).mpr c)]
    rw [show max a b = b by omega] at h
    exact h
  · rw [if_neg (fun z => c ((oi_lt a1 a2 b1 b2).mp z))]
    rw [show max a b = a by omega] at h
    exact h
def mxF (f : Nat → Int) : Nat → Int
  | 0 => 0
  | i + 1 => max (mxF f i) (f i)
def mnF (c : Int) (f : Nat → Int) : Nat → Int
  | 0 => c
  | i + 1 => min (mnF c f i) (f i)
theorem mxF_bd {f : Nat → Int} {M : Int} (hM : 0 ≤ M) : ∀ (i : Nat), (∀ k, k < i → 0 ≤ f k ∧ f k ≤ M) → 0 ≤ mxF f i ∧ mxF f i ≤ M
  | 0, _ => ⟨Int.le_refl 0, hM⟩
  | i + 1, h => by
    have h1 := mxF_bd hM i (fun k hk => h k (by omega))
    have h2 := h i (by omega)
    rw [mxF]
    omega
theorem mnF_bd {f : Nat → Int} {M c : Int} (hM : 0 ≤ c) : ∀ (i : Nat), (∀ k, k < i → 0 ≤ f k ∧ f k ≤ M) → 0 ≤ mnF c f i ∧ mnF c f i ≤ c
  | 0, _ => ⟨hM, Int.le_refl c⟩
  | i + 1, h => by
    have h1 := mnF_bd hM i (fun k hk => h k (by omega))
    have h2 := h i (by omega)
    rw [mnF]
    omega
def apartS (h : Nat → Int) : Int := mxF (fun m => h (29 + 7 * m)) (h 1).toNat - (if h 1 = 0 then 0 else mnF 1000000 (fun m => h (29 + 7 * m)) (h 1).toNat)
theorem s_keptApart {CALL : CT} (hC : RuleAll CALL) {r : Nat} {σ : AM} {K : AV → AM → Prop} {n : Nat} {h0 : Nat → Int} (hr : HRep σ n h0) (hw : WF h0) (h : K (.inl (Int32.ofInt (apartS h0))) σ) : CALL (r + 2) n_Monks_keptApart [.inr (.inr (27, n))] σ K := by
  refine r_Monks_keptApart hC (fun J hJ => ?_)
  refine hJ _ _ _ _ ?_
  conv => whnf
  have b := hw.1
  obtain ⟨e0, e1, e2, e3, e4, e5, e6, e7, e8, e9, ea, et, em, ee⟩ := id hr
  have hk : ∀ m : Nat, (m : Int) < h0 1 → 0 ≤ h0 (29 + 7 * m) ∧ h0 (29 + 7 * m) ≤ 20000 := fun m hm => by have := hw.2.2.1 m hm; omega
  rw [e1]
  refine ⟨fun c => ?_, fun c => ?_⟩ <;> (try simp (disch := omega) only [oi_le, oi_lt, oi_eq, oi_lt0, oi_le0, oi_0lt, oi_0le, oi_eq0, oi_eq1, bI_eq0, bI_ne0, bI_eq1, decide_eq_true_eq, decide_eq_false_iff_not, lc_lt, lc_gt, lc_eq, lc_ge, lc_le, ol_lt, ol_eq, ne_eq, Int.not_lt, Int.not_le, Bool.not_eq_true, Bool.not_eq_false, Decidable.not_not, not_true_eq_false, not_false_eq_true, Bool.true_eq_false, Bool.false_eq_true] at c) <;> (first | (exfalso; omega) | ((with_reducible refine hJ _ _ _ _ ?_); conv => whnf) | (conv => whnf))
  · have k0 := hk 0 (by omega)
    refine ⟨(oi_in (by omega) (by omega)).mpr ⟨by omega, by omega⟩, ?_⟩
    conv => whnf
    refine ⟨(oi_in (by omega) (by omega)).mpr ⟨by omega, by omega⟩, ?_⟩
    conv => whnf
    rw [show (Int32.ofInt 0).toNatClampNeg = 0 from rfl, (em 0 (by omega)).2.2.2.2.1]
    have loop : ∀ (k i : Nat), i + k = (h0 1).toNat → 1 ≤ i → J 25 [.inr (.inr (27, n)), .inl (Int32.ofInt (mnF 1000000 (fun m => h0 (29 + 7 * m)) i)), .inl (Int32.ofInt (mxF (fun m => h0 (29 + 7 * m)) i)), .inl (Int32.ofInt (i : Int))] [] σ := by
      intro k
      induction k with
      | zero =>
        intro i hi hi1
        have : i = (h0 1).toNat := by omega
        subst this
        refine hJ _ _ _ _ ?_
        conv => whnf
        rw [e1]
        refine ⟨fun c2 => ?_, fun c2 => ?_⟩ <;> (try simp (disch := omega) only [oi_le, oi_lt, oi_eq, oi_lt0, oi_le0, oi_0lt, oi_0le, oi_eq0, oi_eq1, bI_eq0, bI_ne0, bI_eq1, decide_eq_true_eq, decide_eq_false_iff_not, lc_lt, lc_gt, lc_eq, lc_ge, lc_le, ol_lt, ol_eq, ne_eq, Int.not_lt, Int.not_le, Bool.not_eq_true, Bool.not_eq_false, Decidable.not_not, not_true_eq_false, not_false_eq_true, Bool.true_eq_false, Bool.false_eq_true] at c2) <;> (first | (exfalso; omega) | ((with_reducible refine hJ _ _ _ _ ?_); conv => whnf) | (conv => whnf))
        rw [oi_sub]
        unfold apartS at h
        rw [if_neg c] at h
        exact h
      | succ k ih =>
        intro i hi hi1
        have hti : (i : Int) < h0 1 := by omega
        have bi := hk i hti
        have b1 := mxF_bd (f := fun m => h0 (29 + 7 * m)) (M := 20000) (by omega) i (fun k hk2 => hk k (by omega))
        have b2 := mnF_bd (f := fun m => h0 (29 + 7 * m)) (M := 20000) (c := 1000000) (by omega) i (fun k hk2 => hk k (by omega))
        have nx := ih (i + 1) (by omega) (by omega)
        rw [mnF, mxF] at nx
        refine hJ _ _ _ _ ?_
        conv => whnf
        rw [e1]
        refine ⟨fun c2 => ?_, fun c2 => ?_⟩ <;> (try simp (disch := omega) only [oi_le, oi_lt, oi_eq, oi_lt0, oi_le0, oi_0lt, oi_0le, oi_eq0, oi_eq1, bI_eq0, bI_ne0, bI_eq1, decide_eq_true_eq, decide_eq_false_iff_not, lc_lt, lc_gt, lc_eq, lc_ge, lc_le, ol_lt, ol_eq, ne_eq, Int.not_lt, Int.not_le, Bool.not_eq_true, Bool.not_eq_false, Decidable.not_not, not_true_eq_false, not_false_eq_true, Bool.true_eq_false, Bool.false_eq_true] at c2) <;> (first | (exfalso; omega) | ((with_reducible refine hJ _ _ _ _ ?_); conv => whnf) | (conv => whnf))
        refine ⟨(oi_in (by omega) (by omega)).mpr ⟨by omega, by omega⟩, ?_⟩
        conv => whnf
        rw [oi_nat (by omega) (by omega), Int.toNat_natCast, (em i hti).2.2.2.2.1]
        refine s_minI hC (by omega) (by omega) (by omega) (by omega) ?_
        conv => whnf
        refine ⟨(oi_in (by omega) (by omega)).mpr ⟨by omega, by omega⟩, ?_⟩
        conv => whnf
        rw [oi_nat (by omega) (by omega), Int.toNat_natCast, (em i hti).2.2.2.2.1]
        refine s_maxI hC (by omega) (by omega) (by omega) (by omega) ?_
        conv => whnf
        rw [oi_succ]
        exact nx
    have st := loop ((h0 1).toNat - 1) 1 (by omega) (by omega)
    rw [mnF, mxF, mnF, mxF, show min 1000000 (h0 (29 + 7 * 0)) = h0 (29 + 7 * 0) by omega, show max 0 (h0 (29 + 7 * 0)) = h0 (29 + 7 * 0) by omega] at st
    exact st
  · have e : apartS h0 = 0 := by
      unfold apartS
      rw [if_pos c, c]
      rfl
    rw [e] at h
    exact h
theorem op_unfair {CALL : CT} (hC : RuleAll CALL) {r : Nat} {σ : AM} {K : AV → AV → AM → Prop} {n : Nat} {h0 : Nat → Int} (hn : NH σ n h0) (h : ∀ v σ2, SC σ σ2 → σ2.1 1 0 16 = σ2.1 46 0 2 → K v v σ2) : CALL (r + 20) n_x_unfair [.inr (.inr (1, 0))] σ (fun v σ1 => CALL (r + 20) n_m_unfair [.inr (.inr (46, 0))] σ1 (fun v' σ2 => K v v' σ2)) := by
  obtain ⟨n45, hnn, hr, hm, ⟨hw, hw67⟩, h59⟩ := id hn
  have b := hw.1
  obtain ⟨q0, q1, q2, q3, q4, q5, q6, q7, q8, q9, qa, qt, qm, qe⟩ := id hr
  have hk : ∀ m : Nat, (m : Int) < h0 1 → 0 ≤ h0 (29 + 7 * m) ∧ h0 (29 + 7 * m) ≤ 20000 := fun m hm => by have := hw.2.2.1 m hm; omega
  refine r_x_unfair hC (fun J hJ => ?_)
  refine hJ _ _ _ _ ?_
  conv => whnf
  rw [hnn]
  refine ⟨by omega, ?_⟩
  conv => whnf
  refine s_keptApart hC hr hw ?_
  conv => whnf
  refine s_give hC ?_
  conv => whnf
  refine r_m_unfair hC (fun J hJ => ?_)
  have loop : ∀ (c : Int), 0 ≤ c → c ≤ 1000000 → c = (if h0 1 = 0 then 0 else 1000000) → ∀ (k i : Nat), i + k = (h0 1).toNat → J 21 [.inr (.inr (46, 0)), .inl (Int32.ofInt (mxF (fun m => h0 (29 + 7 * m)) i)), .inl (Int32.ofInt (mnF c (fun m => h0 (29 + 7 * m)) i)), .inl (Int32.ofInt (i : Int))] [] (wI σ 1 0 16 (Int32.ofInt 0)) := by
    intro c hc0 hc1 hc k
    induction k with
    | zero =>
      intro i hi
      have : i = (h0 1).toNat := by omega
      subst this
      refine hJ _ _ _ _ ?_
      conv => whnf
      refine ⟨(oi_in (by omega) (by omega)).mpr ⟨by omega, by omega⟩, ?_⟩
      conv => whnf
      rw [show (Int32.ofInt 1).toNatClampNeg = 1 from rfl, hm.c 1 (by omega)]
      refine ⟨fun c2 => ?_, fun c2 => ?_⟩ <;> (try simp (disch := omega) only [oi_le, oi_lt, oi_eq, oi_lt0, oi_le0, oi_0lt, oi_0le, oi_eq0, oi_eq1, bI_eq0, bI_ne0, bI_eq1, decide_eq_true_eq, decide_eq_false_iff_not, lc_lt, lc_gt, lc_eq, lc_ge, lc_le, ol_lt, ol_eq, ne_eq, Int.not_lt, Int.not_le, Bool.not_eq_true, Bool.not_eq_false, Decidable.not_not, not_true_eq_false, not_false_eq_true, Bool.true_eq_false, Bool.false_eq_true] at c2) <;> (first | (exfalso; omega) | ((with_reducible refine hJ _ _ _ _ ?_); conv => whnf) | (conv => whnf))
      rw [oi_sub]
      refine s_m_gives hC ?_
      conv => whnf
      have e : apartS h0 = mxF (fun m => h0 (29 + 7 * m)) (h0 1).toNat - mnF c (fun m => h0 (29 + 7 * m)) (h0 1).toNat := by
        unfold apartS
        by_cases q : h0 1 = 0
        · rw [if_pos q] at hc ⊢
          rw [q, hc]
          rfl
        · rw [if_neg q] at hc ⊢
          rw [hc]
      rw [e]
      exact h _ _ done2.1 done2.2
    | succ k ih =>
      intro i hi
      have hti : (i : Int) < h0 1 := by omega
      have bi := hk i hti
      have b1 := mxF_bd (f := fun m => h0 (29 + 7 * m)) (M := 20000) (by omega) i (fun k hk2 => hk k (by omega))
      have b2 := mnF_bd (f := fun m => h0 (29 + 7 * m)) (M := 20000) (c := c) (by omega) i (fun k hk2 => hk k (by omega))
      have nx := ih (i + 1) (by omega)
      rw [mnF, mxF] at nx
      refine hJ _ _ _ _ ?_
      conv => whnf
      refine ⟨(oi_in (by omega) (by omega)).mpr ⟨by omega, by omega⟩, ?_⟩
      conv => whnf
      rw [show (Int32.ofInt 1).toNatClampNeg = 1 from rfl, hm.c 1 (by omega)]
      refine ⟨fun c2 => ?_, fun c2 => ?_⟩ <;> (try simp (disch := omega) only [oi_le, oi_lt, oi_eq, oi_lt0, oi_le0, oi_0lt, oi_0le, oi_eq0, oi_eq1, bI_eq0, bI_ne0, bI_eq1, decide_eq_true_eq, decide_eq_false_iff_not, lc_lt, lc_gt, lc_eq, lc_ge, lc_le, ol_lt, ol_eq, ne_eq, Int.not_lt, Int.not_le, Bool.not_eq_true, Bool.not_eq_false, Decidable.not_not, not_true_eq_false, not_false_eq_true, Bool.true_eq_false, Bool.false_eq_true] at c2) <;> (first | (exfalso; omega) | ((with_reducible refine hJ _ _ _ _ ?_); conv => whnf) | (conv => whnf))
      refine s_m_monkOf hC (w := 5) hm.c (by omega) (by omega) ?_
      conv => whnf
      rw [show 24 + 7 * i + 5 = 29 + 7 * i by omega]
      refine s_maxI hC (by omega) (by omega) (by omega) (by omega) ?_
      conv => whnf
      refine s_m_monkOf hC (w := 5) hm.c (by omega) (by omega) ?_
      conv => whnf
      rw [show 24 + 7 * i + 5 = 29 + 7 * i by omega]
      refine s_minI hC (by omega) (by omega) (by omega) (by omega) ?_
      conv => whnf
      rw [oi_succ]
      exact nx
  refine hJ _ _ _ _ ?_
  conv => whnf
  refine ⟨(oi_in (by omega) (by omega)).mpr ⟨by omega, by omega⟩, ?_⟩
  conv => whnf
  rw [show (Int32.ofInt 1).toNatClampNeg = 1 from rfl, hm.c 1 (by omega)]
  refine ⟨fun c => ?_, fun c => ?_⟩ <;> (try simp (disch := omega) only [oi_le, oi_lt, oi_eq, oi_lt0, oi_le0, oi_0lt, oi_0le, oi_eq0, oi_eq1, bI_eq0, bI_ne0, bI_eq1, decide_eq_true_eq, decide_eq_false_iff_not, lc_lt, lc_gt, lc_eq, lc_ge, lc_le, ol_lt, ol_eq, ne_eq, Int.not_lt, Int.not_le, Bool.not_eq_true, Bool.not_eq_false, Decidable.not_not, not_true_eq_false, not_false_eq_true, Bool.true_eq_false, Bool.false_eq_true] at c) <;> (first | (exfalso; omega) | ((with_reducible refine hJ _ _ _ _ ?_); conv => whnf) | (conv => whnf))
  · refine hJ _ _ _ _ ?_
    conv => whnf
    exact loop 1000000 (by omega) (by omega) (by rw [if_neg c]) (h0 1).toNat 0 (by omega)
  · refine hJ _ _ _ _ ?_
    conv => whnf
    exact loop 0 (by omega) (by omega) (by rw [if_pos c]) (h0 1).toNat 0 (by omega)
/-! how long until a monk is silent -/
theorem fm_key : ∀ y a b : Fin 8, (0 < y.val ∧ a.val < y.val ∧ b.val < y.val) → (if ((Int32.ofInt ((a.val : Int) - (b.val : Int)) ^^^ Int32.ofInt (y.val : Int)) < 0 ∧ Int32.ofInt ((a.val : Int) - (b.val : Int)) % Int32.ofInt (y.val : Int) ≠ 0) then Int32.ofInt ((a.val : Int) - (b.val : Int)) % Int32.ofInt (y.val : Int) + Int32.ofInt (y.val : Int) else Int32.ofInt ((a.val : Int) - (b.val : Int)) % Int32.ofInt (y.val : Int)) = Int32.ofInt (((a.val + y.val - b.val) % y.val : Nat) : Int) := by decide +kernel
theorem s_floorMod {CALL : CT} (hC : RuleAll CALL) {r : Nat} {σ : AM} {K : AV → AM → Prop} {a b y : Nat} (hy : y < 8) (hy0 : 0 < y) (ha : a < y) (hb : b < y) (h : K (.inl (Int32.ofInt (((a + y - b) % y : Nat) : Int))) σ) : CALL (r + 1) n_Math_floorMod [.inl (Int32.ofInt ((a : Int) - (b : Int))), .inl (Int32.ofInt (y : Int))] σ K := by
  refine r_Math_floorMod hC (fun J hJ => ?_)
  refine hJ _ _ _ _ ?_
  conv => whnf
  have key := fm_key ⟨y, hy⟩ ⟨a, by omega⟩ ⟨b, by omega⟩ ⟨hy0, ha, hb⟩
  simp only at key
  rw [← key] at h
  refine ⟨(by simp (disch := omega) only [oi_eq0, oi_eq, ne_eq]; omega), ?_⟩
  conv => whnf
  refine ⟨fun c => ?_, fun c => ?_⟩
  · refine hJ _ _ _ _ ?_
    conv => whnf
    rw [if_neg (fun z => Int32.not_le.mpr z.1 c)] at h
    exact h
  · conv => whnf
    refine ⟨fun c2 => ?_, fun c2 => ?_⟩
    · refine hJ _ _ _ _ ?_
      conv => whnf
      rw [if_neg (fun z => z.2 c2)] at h
      exact h
    · conv => whnf
      rw [if_pos ⟨Int32.not_le.mp c, c2⟩] at h
      exact h
def turnS (h : Nat → Int) (m : Nat) : Int := if (m : Int) = h 8 then 0 else h 3 - h 5 % h 3 + (((((m + (h 1).toNat - (h 8).toNat) % (h 1).toNat : Nat) : Int)) - 1) * h 3
theorem s_untilSilent {CALL : CT} (hC : RuleAll CALL) {r : Nat} {σ : AM} {K : AV → AM → Prop} {n m : Nat} {h0 : Nat → Int} (hr : HRep σ n h0) (hw : WF h0) (hm : (m : Int) < h0 1) (h : K (.inl (Int32.ofInt (turnS h0 m))) σ) : CALL (r + 2) n_House_untilSilent [.inr (.inr (22, n)), .inl (Int32.ofInt m)] σ K := by
  refine r_House_untilSilent hC (fun J hJ => ?_)
  refine hJ _ _ _ _ ?_
  conv => whnf
  have b := hw.1
  obtain ⟨e0, e1, e2, e3, e4, e5, e6, e7, e8, e9, ea, et, em, ee⟩ := id hr
  rw [e1]
  refine ⟨fun c => ?_, fun c => ?_⟩ <;> (try simp (disch := omega) only [oi_le, oi_lt, oi_eq, oi_lt0, oi_le0, oi_0lt, oi_0le, oi_eq0, oi_eq1, bI_eq0, bI_ne0, bI_eq1, decide_eq_true_eq, decide_eq_false_iff_not, lc_lt, lc_gt, lc_eq, lc_ge, lc_le, ol_lt, ol_eq, ne_eq, Int.not_lt, Int.not_le, Bool.not_eq_true, Bool.not_eq_false, Decidable.not_not, not_true_eq_false, not_false_eq_true, Bool.true_eq_false, Bool.false_eq_true] at c) <;> (first | (exfalso; omega) | ((with_reducible refine hJ _ _ _ _ ?_); conv => whnf) | (conv => whnf))
  rw [e3]
  refine ⟨fun c2 => ?_, fun c2 => ?_⟩ <;> (try simp (disch := omega) only [oi_le, oi_lt, oi_eq, oi_lt0, oi_le0, oi_0lt, oi_0le, oi_eq0, oi_eq1, bI_eq0, bI_ne0, bI_eq1, decide_eq_true_eq, decide_eq_false_iff_not, lc_lt, lc_gt, lc_eq, lc_ge, lc_le, ol_lt, ol_eq, ne_eq, Int.not_lt, Int.not_le, Bool.not_eq_true, Bool.not_eq_false, Decidable.not_not, not_true_eq_false, not_false_eq_true, Bool.true_eq_false, Bool.false_eq_true] at c2) <;> (first | (exfalso; omega) | ((with_reducible refine hJ _ _ _ _ ?_); conv => whnf) | (conv => whnf))
  rw [e8]
  refine ⟨fun c3 => ?_, fun c3 => ?_⟩ <;> (try simp (disch := omega) only [oi_le, oi_lt, oi_eq, oi_lt0, oi_le0, oi_0lt, oi_0le, oi_eq0, oi_eq1, bI_eq0, bI_ne0, bI_eq1, decide_eq_true_eq, decide_eq_false_iff_not, lc_lt, lc_gt, lc_eq, lc_ge, lc_le, ol_lt, ol_eq, ne_eq, Int.not_lt, Int.not_le, Bool.not_eq_true, Bool.not_eq_false, Decidable.not_not, not_true_eq_false, not_false_eq_true, Bool.true_eq_false, Bool.false_eq_true] at c3) <;> (first | (exfalso; omega) | ((with_reducible refine hJ _ _ _ _ ?_); conv => whnf) | (conv => whnf))
  · obtain ⟨q, hq⟩ : ∃ q : Nat, h0 8 = (q : Int) := ⟨(h0 8).toNat, by omega⟩
    obtain ⟨y, hy⟩ : ∃ y : Nat, h0 1 = (y : Int) := ⟨(h0 1).toNat, by omega⟩
    have e : turnS h0 m = h0 3 - h0 5 % h0 3 + ((((m + y - q) % y : Nat) : Int) - 1) * h0 3 := by
      unfold turnS
      rw [if_neg c3, hq, hy, Int.toNat_natCast, Int.toNat_natCast]
    rw [e] at h
    rw [e8, hq, oi_sub, e1, hy]
    refine s_floorMod hC (by omega) (by omega) (by omega) (by omega) ?_
    conv => whnf
    rw [e3, e5]
    refine ⟨(by simp (disch := omega) only [oi_eq0, oi_eq, ne_eq]; omega), ?_⟩
    conv => whnf
    rw [oi_mod (by omega) (by omega) (by omega) (by omega), oi_sub, oi_sub, e3, oi_mul, oi_add]
    exact h
  · refine hJ _ _ _ _ ?_
    conv => whnf
    have e : turnS h0 m = 0 := by
      unfold turnS
      rw [if_pos c3]
    rw [e] at h
    exact h
theorem turn_mod {y m q b : Nat} (hy : 0 < y) (hm : m < y) (hq : q < y) (hne : m ≠ q) (hb : b ≤ (m + y - q) % y) : ((q + b) % y = m ↔ b = (m + y - q) % y) ∧ 0 < (m + y - q) % y := by
  by_cases c : q < m
  · have e : (m + y - q) % y = m - q := by
      rw [show m + y - q = (m - q) + y by omega, Nat.add_mod_right, Nat.mod_eq_of_lt (by omega)]
    rw [e] at hb ⊢
    rw [Nat.mod_eq_of_lt (by omega)]
    omega
  · have e : (m + y - q) % y = m + y - q := Nat.mod_eq_of_lt (by omega)
    rw [e] at hb ⊢
    by_cases c2 : q + b < y
    · rw [Nat.mod_eq_of_lt c2]
      omega
    · rw [show q + b = (q + b - y) + y by omega, Nat.add_mod_right, Nat.mod_eq_of_lt (by omega)]
      omega
theorem op_turnIn {CALL : CT} (hC : RuleAll CALL) {r : Nat} {σ : AM} {K : AV → AV → AM → Prop} {n : Nat} {h0 : Nat → Int} (hn : NH σ n h0) {z : Int} (z1 : -2147483648 ≤ z) (z2 : z < 2147483648) (h : ∀ v σ2, SC σ σ2 → σ2.1 1 0 16 = σ2.1 46 0 2 → K v v σ2) : CALL (r + 20) n_x_turnIn [.inr (.inr (1, 0)), .inl (Int32.ofInt z)] σ (fun v σ1 => CALL (r + 20) n_m_turnIn [.inr (.inr (46, 0)), .inl (Int32.ofInt z)] σ1 (fun v' σ2 => K v v' σ2)) := by
  obtain ⟨n45, hnn, hr, hm, ⟨hw, hw67⟩, h59⟩ := id hn
  have b := hw.1
  obtain ⟨q0, q1, q2, q3, q4, q5, q6, q7, q8, q9, qa, qt, qm, qe⟩ := id hr
  refine r_x_turnIn hC (fun J hJ => ?_)
  refine hJ _ _ _ _ ?_
  conv => whnf
  refine s_isMonk hC hn z1 z2 ?_
  conv => whnf
  refine ⟨fun c => ?_, fun c => ?_⟩ <;> (try simp (disch := omega) only [oi_le, oi_lt, oi_eq, oi_lt0, oi_le0, oi_0lt, oi_0le, oi_eq0, oi_eq1, bI_eq0, bI_ne0, bI_eq1, decide_eq_true_eq, decide_eq_false_iff_not, lc_lt, lc_gt, lc_eq, lc_ge, lc_le, ol_lt, ol_eq, ne_eq, Int.not_lt, Int.not_le, Bool.not_eq_true, Bool.not_eq_false, Decidable.not_not, not_true_eq_false, not_false_eq_true, Bool.true_eq_false, Bool.false_eq_true] at c) <;> (first | (exfalso; omega) | ((with_reducible refine hJ _ _ _ _ ?_); conv => whnf) | (conv => whnf))
  · refine s_none hC ?_
    conv => whnf
    refine hJ _ _ _ _ ?_
    conv => whnf
    refine r_m_turnIn hC (fun J hJ => ?_)
    refine hJ _ _ _ _ ?_
    conv => whnf
    refine s_m_isMonk hC hm.c hw z1 z2 ?_
    conv => whnf
    refine ⟨fun c2 => ?_, fun c2 => ?_⟩ <;> (try simp (disch := omega) only [oi_le, oi_lt, oi_eq, oi_lt0, oi_le0, oi_0lt, oi_0le, oi_eq0, oi_eq1, bI_eq0, bI_ne0, bI_eq1, decide_eq_true_eq, decide_eq_false_iff_not, lc_lt, lc_gt, lc_eq, lc_ge, lc_le, ol_lt, ol_eq, ne_eq, Int.not_lt, Int.not_le, Bool.not_eq_true, Bool.not_eq_false, Decidable.not_not, not_true_eq_false, not_false_eq_true, Bool.true_eq_false, Bool.false_eq_true] at c2) <;> (first | (exfalso; omega) | ((with_reducible refine hJ _ _ _ _ ?_); conv => whnf) | (conv => whnf))
    refine s_m_refuse hC ?_
    conv => whnf
    exact h _ _ done2.1 done2.2
  · rw [hnn]
    refine ⟨by omega, ?_⟩
    conv => whnf
    obtain ⟨m, rfl⟩ : ∃ m : Nat, z = (m : Int) := ⟨z.toNat, by omega⟩
    refine s_untilSilent hC hr hw c.2 ?_
    conv => whnf
    refine s_give hC ?_
    conv => whnf
    refine hJ _ _ _ _ ?_
    conv => whnf
    refine r_m_turnIn hC (fun J hJ => ?_)
    refine hJ _ _ _ _ ?_
    conv => whnf
    refine s_m_isMonk hC hm.c hw z1 z2 ?_
    conv => whnf
    refine ⟨fun c2 => ?_, fun c2 => ?_⟩ <;> (try simp (disch := omega) only [oi_le, oi_lt, oi_eq, oi_lt0, oi_le0, oi_0lt, oi_0le, oi_eq0, oi_eq1, bI_eq0, bI_ne0, bI_eq1, decide_eq_true_eq, decide_eq_false_iff_not, lc_lt, lc_gt, lc_eq, lc_ge, lc_le, ol_lt, ol_eq, ne_eq, Int.not_lt, Int.not_le, Bool.not_eq_true, Bool.not_eq_false, Decidable.not_not, not_true_eq_false, not_false_eq_true, Bool.true_eq_false, Bool.false_eq_true] at c2) <;> (first | (exfalso; omega) | ((with_reducible refine hJ _ _ _ _ ?_); conv => whnf) | (conv => whnf))
    refine ⟨(oi_in (by omega) (by omega)).mpr ⟨by omega, by omega⟩, ?_⟩
    conv => whnf
    rw [show (Int32.ofInt 8).toNatClampNeg = 8 from rfl, hm.c 8 (by omega)]
    obtain ⟨q, hq⟩ : ∃ q : Nat, h0 8 = (q : Int) := ⟨(h0 8).toNat, by omega⟩
    obtain ⟨y, hy⟩ : ∃ y : Nat, h0 1 = (y : Int) := ⟨(h0 1).toNat, by omega⟩
    have fin : ∀ A : Int, A = turnS h0 m → J 64 [.inr (.inr (46, 0)), .inl (Int32.ofInt (m : Int)), .inl (Int32.ofInt (m : Int)), .inl (Int32.ofInt A)] [] (wI σ 1 0 16 (Int32.ofInt 0)) := by
      intro A hA
      refine hJ _ _ _ _ ?_
      conv => whnf
      refine s_m_gives hC ?_
      conv => whnf
      rw [hA]
      exact h _ _ done2.1 done2.2
    by_cases hmq : m = q
    · refine hJ _ _ _ _ ?_
      conv => whnf
      rw [hq, ← hmq]
      refine ⟨fun c3 => ?_, fun c3 => ?_⟩ <;> (try simp (disch := omega) only [oi_le, oi_lt, oi_eq, oi_lt0, oi_le0, oi_0lt, oi_0le, oi_eq0, oi_eq1, bI_eq0, bI_ne0, bI_eq1, decide_eq_true_eq, decide_eq_false_iff_not, lc_lt, lc_gt, lc_eq, lc_ge, lc_le, ol_lt, ol_eq, ne_eq, Int.not_lt, Int.not_le, Bool.not_eq_true, Bool.not_eq_false, Decidable.not_not, not_true_eq_false, not_false_eq_true, Bool.true_eq_false, Bool.false_eq_true] at c3) <;> (first | (exfalso; omega) | ((with_reducible refine hJ _ _ _ _ ?_); conv => whnf) | (conv => whnf))
      rw [show turnS h0 m = 0 by unfold turnS; rw [if_pos (by omega)]]
      refine s_m_gives hC ?_
      conv => whnf
      exact h _ _ done2.1 done2.2
    · have e : turnS h0 m = h0 3 - h0 5 % h0 3 + ((((m + y - q) % y : Nat) : Int) - 1) * h0 3 := by
        unfold turnS
        rw [if_neg (by omega), hq, hy, Int.toNat_natCast, Int.toNat_natCast]
      generalize hta : (m + y - q) % y = ta at e
      have hta7 : ta < 7 := by have := Nat.mod_lt (m + y - q) (show 0 < y by omega); omega
      have hdm := Int.mul_ediv_add_emod (h0 5) (h0 3)
      have hs0 := Int.emod_nonneg (h0 5) (show h0 3 ≠ 0 by omega)
      have hs1 := Int.emod_lt_of_pos (h0 5) (show 0 < h0 3 by omega)
      generalize h0 5 % h0 3 = s at e hdm hs0 hs1
      generalize h0 5 / h0 3 = dq at hdm
      have outer : ∀ (eb b : Nat), b + eb = ta → ∀ (g : Nat) (s' B : Int), s' + g = h0 3 → 0 ≤ s' → s' < h0 3 → B = (b : Int) * h0 3 → (eb = 0 → s' = 0) → s ≤ B + s' → J 24 [.inr (.inr (46, 0)), .inl (Int32.ofInt (m : Int)), .inl (Int32.ofInt (((q + b) % y : Nat) : Int)), .inl (Int32.ofInt (B + s' - s))] [] (wI σ 1 0 16 (Int32.ofInt 0)) := by
        intro eb
        induction eb with
        | zero =>
          intro b hb g s' B hg hs0' hs1' hB h0' hsB
          have tm := turn_mod (y := y) (m := m) (q := q) (b := b) (by omega) (by omega) (by omega) hmq (by omega)
          have := tm.1.mpr (by omega)
          refine hJ _ _ _ _ ?_
          conv => whnf
          rw [this]
          refine ⟨fun c3 => ?_, fun c3 => ?_⟩ <;> (try simp (disch := omega) only [oi_le, oi_lt, oi_eq, oi_lt0, oi_le0, oi_0lt, oi_0le, oi_eq0, oi_eq1, bI_eq0, bI_ne0, bI_eq1, decide_eq_true_eq, decide_eq_false_iff_not, lc_lt, lc_gt, lc_eq, lc_ge, lc_le, ol_lt, ol_eq, ne_eq, Int.not_lt, Int.not_le, Bool.not_eq_true, Bool.not_eq_false, Decidable.not_not, not_true_eq_false, not_false_eq_true, Bool.true_eq_false, Bool.false_eq_true] at c3) <;> (first | (exfalso; omega) | ((with_reducible refine hJ _ _ _ _ ?_); conv => whnf) | (conv => whnf))
          refine s_m_gives hC ?_
          conv => whnf
          have e5 : turnS h0 m = B + s' - s := by
            rw [e, hB, h0' rfl, Int.sub_mul, show (b : Int) = (ta : Int) by omega]
            omega
          rw [e5]
          exact h _ _ done2.1 done2.2
        | succ eb ih =>
          intro b hb g
          induction g with
          | zero => intro s' B hg hs0' hs1'; omega
          | succ g ihg =>
            intro s' B hg hs0' hs1' hB h0' hsB
            have tm := turn_mod (y := y) (m := m) (q := q) (b := b) (by omega) (by omega) (by omega) hmq (by omega)
            have hne : (q + b) % y ≠ m := fun z => by have := tm.1.mp z; omega
            have hlt := Nat.mod_lt (q + b) (show 0 < y by omega)
            have hB2 : B ≤ 7 * 99 := by
              rw [hB]
              exact Int.mul_le_mul (by omega) (by omega) (by omega) (by omega)
            have hB0 : 0 ≤ B := by rw [hB]; exact Int.mul_nonneg (by omega) (by omega)
            refine hJ _ _ _ _ ?_
            conv => whnf
            refine ⟨fun c3 => ?_, fun c3 => ?_⟩ <;> (try simp (disch := omega) only [oi_le, oi_lt, oi_eq, oi_lt0, oi_le0, oi_0lt, oi_0le, oi_eq0, oi_eq1, bI_eq0, bI_ne0, bI_eq1, decide_eq_true_eq, decide_eq_false_iff_not, lc_lt, lc_gt, lc_eq, lc_ge, lc_le, ol_lt, ol_eq, ne_eq, Int.not_lt, Int.not_le, Bool.not_eq_true, Bool.not_eq_false, Decidable.not_not, not_true_eq_false, not_false_eq_true, Bool.true_eq_false, Bool.false_eq_true] at c3) <;> (first | (exfalso; omega) | ((with_reducible refine hJ _ _ _ _ ?_); conv => whnf) | (conv => whnf))
            refine ⟨(oi_in (by omega) (by omega)).mpr ⟨by omega, by omega⟩, ?_⟩
            conv => whnf
            rw [show (Int32.ofInt 5).toNatClampNeg = 5 from rfl, hm.c 5 (by omega)]
            refine ⟨(oi_in (by omega) (by omega)).mpr ⟨by omega, by omega⟩, ?_⟩
            conv => whnf
            rw [show (Int32.ofInt 3).toNatClampNeg = 3 from rfl, hm.c 3 (by omega)]
            rw [oi_add, oi_add]
            refine ⟨(by simp (disch := omega) only [oi_eq0, oi_eq, ne_eq]; omega), ?_⟩
            conv => whnf
            rw [oi_mod (by omega) (by omega) (by omega) (by omega)]
            have em2 : (h0 5 + (B + s' - s + 1)) % h0 3 = (s' + 1) % h0 3 := by
              rw [show h0 5 + (B + s' - s + 1) = (s' + 1) + h0 3 * (dq + b) by rw [Int.mul_add, Int.mul_comm (h0 3) (b : Int), ← hB]; omega, Int.add_mul_emod_self_left]
            rw [em2]
            by_cases cs : s' + 1 = h0 3
            · rw [cs, Int.emod_self]
              refine ⟨fun c4 => ?_, fun c4 => ?_⟩
              · exact absurd rfl c4
              · conv => whnf
                refine ⟨(oi_in (by omega) (by omega)).mpr ⟨by omega, by omega⟩, ?_⟩
                conv => whnf
                rw [show (Int32.ofInt 1).toNatClampNeg = 1 from rfl, hm.c 1 (by omega)]
                rw [oi_add, hy]
                refine ⟨(by simp (disch := omega) only [oi_eq0, oi_eq, ne_eq]; omega), ?_⟩
                conv => whnf
                rw [oi_mod (by omega) (by omega) (by omega) (by omega)]
                have e7 : ((((q + b) % y : Nat) : Int) + 1) % (y : Int) = (((q + (b + 1)) % y : Nat) : Int) := by
                  rw [show ((((q + b) % y : Nat) : Int) + 1) = ((((q + b) % y + 1 : Nat)) : Int) by omega, ← Int.natCast_emod, Nat.mod_add_mod, Nat.add_assoc]
                have hB3 : B + h0 3 = ((b + 1 : Nat) : Int) * h0 3 := by
                  rw [show ((b + 1 : Nat) : Int) = (b : Int) + 1 by omega, Int.add_mul, hB]
                  omega
                have nx := ih (b + 1) (by omega) (h0 3).toNat 0 (B + h0 3) (by omega) (by omega) (by omega) hB3 (fun _ => rfl) (by omega)
                rw [e7, show B + s' - s + 1 = B + h0 3 + 0 - s by omega]
                exact nx
            · rw [Int.emod_eq_of_lt (by omega) (by omega)]
              refine ⟨fun c4 => ?_, fun c4 => ?_⟩ <;> (try simp (disch := omega) only [oi_le, oi_lt, oi_eq, oi_lt0, oi_le0, oi_0lt, oi_0le, oi_eq0, oi_eq1, bI_eq0, bI_ne0, bI_eq1, decide_eq_true_eq, decide_eq_false_iff_not, lc_lt, lc_gt, lc_eq, lc_ge, lc_le, ol_lt, ol_eq, ne_eq, Int.not_lt, Int.not_le, Bool.not_eq_true, Bool.not_eq_false, Decidable.not_not, not_true_eq_false, not_false_eq_true, Bool.true_eq_false, Bool.false_eq_true] at c4) <;> (first | (exfalso; omega) | ((fail_if_success with_reducible refine hJ _ _ _ _ ?_); conv => whnf) | skip)
              have nx := ihg (s' + 1) B (by omega) (by omega) (by omega) hB (by omega) (by omega)
              rw [show B + s' - s + 1 = B + (s' + 1) - s by omega]
              exact nx
      have hbd : ∀ b : Nat, True := fun _ => trivial
      have st := outer ta 0 (by omega) (h0 3 - s).toNat s 0 (by omega) hs0 hs1 (by simp) (by have := (turn_mod (y := y) (m := m) (q := q) (b := 0) (by omega) (by omega) (by omega) hmq (by omega)).2; omega) (by omega)
      rw [Nat.add_zero, Nat.mod_eq_of_lt (by omega), show (0 : Int) + s - s = 0 by omega] at st
      rw [hq]
      exact st
