/-! what changes: ints alone, of such cells -/
def Ch (S : Nat → Nat → Nat → Prop) (σ σ' : AM) : Prop := (∀ t i j, ¬ S t i j → σ'.1 t i j = σ.1 t i j) ∧ σ'.2 = σ.2
theorem Ch.rf {S : Nat → Nat → Nat → Prop} {σ : AM} : Ch S σ σ := ⟨fun _ _ _ _ => rfl, rfl⟩
theorem Ch.tr {S : Nat → Nat → Nat → Prop} {σ σ' σ'' : AM} (h : Ch S σ σ') (h2 : Ch S σ' σ'') : Ch S σ σ'' := ⟨fun t i j q => (h2.1 t i j q).trans (h.1 t i j q), h2.2.trans h.2⟩
theorem Ch.mo {S S' : Nat → Nat → Nat → Prop} {σ σ' : AM} (h : Ch S σ σ') (hs : ∀ t i j, S t i j → S' t i j) : Ch S' σ σ' := ⟨fun t i j q => h.1 t i j (fun z => q (hs t i j z)), h.2⟩
theorem Ch.wI {S : Nat → Nat → Nat → Prop} {σ : AM} {t i j : Nat} {x : Int32} (h : S t i j) : Ch S σ (wI σ t i j x) := ⟨fun t' i' j' q => by rw [wI1, if_neg (fun z => q (by rw [z.1, z.2.1, z.2.2]; exact h))], rfl⟩
theorem Ch.sc {S : Nat → Nat → Nat → Prop} {σ σ' : AM} (h : Ch S σ σ') (hs : ∀ t i j, S t i j → ¬ keepI t i j) : SC σ σ' := ⟨fun t i j k => h.1 t i j (fun z => hs t i j z k), fun t i j _ => by rw [h.2], fun j _ _ => by rw [h.2]⟩
/-- a minute of the reference's, and what it lays -/
def mS (t i j : Nat) : Prop := i = 0 ∧ ((t = 47 ∧ j < 97) ∨ (t = 46 ∧ (j = 24 ∨ j = 25 ∨ j = 26)))
theorem MF.ch {σ σ' : AM} (h : MF σ σ') : Ch mS σ σ' := by
  refine ⟨fun t i j q => ?_, h.2.1⟩
  by_cases hs : (t = 46 ∨ t = 47) ∧ i = 0
  · obtain ⟨ht, hi⟩ := hs
    subst hi
    unfold mS at q
    rcases ht with ht | ht
    · subst ht
      exact h.2.2.2 j (by omega) (by omega) (by omega)
    · subst ht
      exact h.2.2.1 j (by omega)
  · exact congrFun (h.1 t i hs).1 j
theorem cpI_0 (σ : AM) (t0 i0 t1 i1 sp dp : Nat) : cpI σ t0 i0 t1 i1 sp dp 0 = σ := by
  refine Prod.ext ?_ rfl
  funext t i j
  rw [cpI1, if_neg (by omega)]
theorem cpI_s (σ : AM) (t0 i0 t1 i1 sp dp n : Nat) : wI (cpI σ t0 i0 t1 i1 sp dp n) t1 i1 (dp + n) (σ.1 t0 i0 (sp + n)) = cpI σ t0 i0 t1 i1 sp dp (n + 1) := by
  refine Prod.ext ?_ rfl
  funext t i j
  rw [wI1, cpI1, cpI1]
  by_cases c : t = t1 ∧ i = i1 ∧ j = dp + n
  · obtain ⟨rfl, rfl, rfl⟩ := c
    rw [if_pos ⟨rfl, rfl, rfl⟩, if_pos ⟨rfl, rfl, by omega, by omega⟩, show sp + (dp + n - dp) = sp + n by omega]
  · rw [if_neg c]
    by_cases c2 : t = t1 ∧ i = i1 ∧ dp ≤ j ∧ j < dp + n
    · rw [if_pos c2, if_pos ⟨c2.1, c2.2.1, by omega, by omega⟩]
    · rw [if_neg c2, if_neg (fun z => c2 ⟨z.1, z.2.1, z.2.2.1, by have : j ≠ dp + n := fun q => c ⟨z.1, z.2.1, q⟩; omega⟩)]
theorem s_m_keeps {CALL : CT} (hC : RuleAll CALL) {r : Nat} {σ : AM} {K : AV → AM → Prop} {to : Nat} (h1 : 97 ≤ to) (h2 : to + 97 ≤ 3372) (h : K unset (cpI σ 47 0 47 0 0 to 97)) : CALL (r + 1) n_m_keeps [.inr (.inr (46, 0)), .inl (Int32.ofInt to)] σ K := by
  refine r_m_keeps hC (fun J hJ => ?_)
  refine hJ _ _ _ _ ?_
  conv => whnf
  have loop : ∀ (k i : Nat), i + k = 97 → J 2 [.inr (.inr (46, 0)), .inl (Int32.ofInt (to : Int)), .inl (Int32.ofInt (i : Int))] [] (cpI σ 47 0 47 0 0 to i) := by
    intro k
    induction k with
    | zero =>
      intro i hi
      have : i = 97 := by omega
      subst this
      refine hJ _ _ _ _ ?_
      conv => whnf
      refine ⟨fun c => ?_, fun c => ?_⟩ <;> (try simp (disch := omega) only [oi_le, oi_lt, oi_eq, oi_lt0, oi_le0, oi_0lt, oi_0le, oi_eq0, oi_eq1, bI_eq0, bI_ne0, bI_eq1, decide_eq_true_eq, decide_eq_false_iff_not, lc_lt, lc_gt, lc_eq, lc_ge, lc_le, ol_lt, ol_eq, ne_eq, Int.not_lt, Int.not_le, Bool.not_eq_true, Bool.not_eq_false, Decidable.not_not, not_true_eq_false, not_false_eq_true, Bool.true_eq_false, Bool.false_eq_true] at c) <;> (first | (exfalso; omega) | ((with_reducible refine hJ _ _ _ _ ?_); conv => whnf) | (conv => whnf))
      exact h
    | succ k ih =>
      intro i hi
      have nx := ih (i + 1) (by omega)
      rw [← cpI_s] at nx
      refine hJ _ _ _ _ ?_
      conv => whnf
      refine ⟨fun c => ?_, fun c => ?_⟩ <;> (try simp (disch := omega) only [oi_le, oi_lt, oi_eq, oi_lt0, oi_le0, oi_0lt, oi_0le, oi_eq0, oi_eq1, bI_eq0, bI_ne0, bI_eq1, decide_eq_true_eq, decide_eq_false_iff_not, lc_lt, lc_gt, lc_eq, lc_ge, lc_le, ol_lt, ol_eq, ne_eq, Int.not_lt, Int.not_le, Bool.not_eq_true, Bool.not_eq_false, Decidable.not_not, not_true_eq_false, not_false_eq_true, Bool.true_eq_false, Bool.false_eq_true] at c) <;> (first | (exfalso; omega) | ((with_reducible refine hJ _ _ _ _ ?_); conv => whnf) | (conv => whnf))
      refine ⟨(oi_in (by omega) (by omega)).mpr ⟨by omega, by omega⟩, ?_⟩
      conv => whnf
      rw [oi_add]
      refine ⟨(oi_in (by omega) (by omega)).mpr ⟨by omega, by omega⟩, ?_⟩
      conv => whnf
      rw [oi_nat (by omega) (by omega), oi_nat (by omega) (by omega), show ((to : Int) + (i : Int)).toNat = to + i by omega, Int.toNat_natCast, cpI1, if_neg (by omega), oi_succ]
      rw [Nat.zero_add] at nx
      exact nx
  have st := loop 97 0 (by omega)
  rw [cpI_0] at st
  exact st
theorem s_m_restores {CALL : CT} (hC : RuleAll CALL) {r : Nat} {σ : AM} {K : AV → AM → Prop} {to : Nat} (h1 : 97 ≤ to) (h2 : to + 97 ≤ 3372) (h : K unset (cpI σ 47 0 47 0 to 0 97)) : CALL (r + 1) n_m_restores [.inr (.inr (46, 0)), .inl (Int32.ofInt to)] σ K := by
  refine r_m_restores hC (fun J hJ => ?_)
  refine hJ _ _ _ _ ?_
  conv => whnf
  have loop : ∀ (k i : Nat), i + k = 97 → J 2 [.inr (.inr (46, 0)), .inl (Int32.ofInt (to : Int)), .inl (Int32.ofInt (i : Int))] [] (cpI σ 47 0 47 0 to 0 i) := by
    intro k
    induction k with
    | zero =>
      intro i hi
      have : i = 97 := by omega
      subst this
      refine hJ _ _ _ _ ?_
      conv => whnf
      refine ⟨fun c => ?_, fun c => ?_⟩ <;> (try simp (disch := omega) only [oi_le, oi_lt, oi_eq, oi_lt0, oi_le0, oi_0lt, oi_0le, oi_eq0, oi_eq1, bI_eq0, bI_ne0, bI_eq1, decide_eq_true_eq, decide_eq_false_iff_not, lc_lt, lc_gt, lc_eq, lc_ge, lc_le, ol_lt, ol_eq, ne_eq, Int.not_lt, Int.not_le, Bool.not_eq_true, Bool.not_eq_false, Decidable.not_not, not_true_eq_false, not_false_eq_true, Bool.true_eq_false, Bool.false_eq_true] at c) <;> (first | (exfalso; omega) | ((with_reducible refine hJ _ _ _ _ ?_); conv => whnf) | (conv => whnf))
      exact h
    | succ k ih =>
      intro i hi
      have nx := ih (i + 1) (by omega)
      rw [← cpI_s] at nx
      refine hJ _ _ _ _ ?_
      conv => whnf
      refine ⟨fun c => ?_, fun c => ?_⟩ <;> (try simp (disch := omega) only [oi_le, oi_lt, oi_eq, oi_lt0, oi_le0, oi_0lt, oi_0le, oi_eq0, oi_eq1, bI_eq0, bI_ne0, bI_eq1, decide_eq_true_eq, decide_eq_false_iff_not, lc_lt, lc_gt, lc_eq, lc_ge, lc_le, ol_lt, ol_eq, ne_eq, Int.not_lt, Int.not_le, Bool.not_eq_true, Bool.not_eq_false, Decidable.not_not, not_true_eq_false, not_false_eq_true, Bool.true_eq_false, Bool.false_eq_true] at c) <;> (first | (exfalso; omega) | ((with_reducible refine hJ _ _ _ _ ?_); conv => whnf) | (conv => whnf))
      rw [oi_add]
      refine ⟨(oi_in (by omega) (by omega)).mpr ⟨by omega, by omega⟩, ?_⟩
      conv => whnf
      refine ⟨(oi_in (by omega) (by omega)).mpr ⟨by omega, by omega⟩, ?_⟩
      conv => whnf
      rw [oi_nat (by omega) (by omega), oi_nat (by omega) (by omega), show ((to : Int) + (i : Int)).toNat = to + i by omega, Int.toNat_natCast, cpI1, if_neg (by omega), oi_succ]
      rw [Nat.zero_add] at nx
      exact nx
  have st := loop 97 0 (by omega)
  rw [cpI_0] at st
  exact st
/-- taken aside, changed, and taken back -/
theorem kept {σ σ1 σ2 : AM} {b : Nat} {S : Nat → Nat → Nat → Prop} (h1 : 97 ≤ b) (h2 : b + 97 ≤ 3372) (hs1 : σ1 = cpI σ 47 0 47 0 0 b 97) (hc : Ch S σ1 σ2) (hS : ∀ j, b ≤ j → j < b + 97 → ¬ S 47 0 j) : Ch (fun t i j => (S t i j ∧ ¬ (t = 47 ∧ i = 0 ∧ j < 97)) ∨ (t = 47 ∧ i = 0 ∧ b ≤ j ∧ j < b + 97)) σ (cpI σ2 47 0 47 0 b 0 97) := by
  subst hs1
  refine ⟨fun t i j q => ?_, by rw [cpI2, hc.2, cpI2]⟩
  rw [cpI1]
  by_cases c : t = 47 ∧ i = 0 ∧ j < 97
  · obtain ⟨rfl, rfl, c⟩ := c
    rw [if_pos ⟨rfl, rfl, by omega, by omega⟩, hc.1 _ _ _ (hS (b + (j - 0)) (by omega) (by omega)), cpI1, if_pos ⟨rfl, rfl, by omega, by omega⟩, show 0 + (b + (j - 0) - b) = j by omega]
  · rw [if_neg (by omega)]
    by_cases c2 : S t i j
    · exact absurd (Or.inl ⟨c2, c⟩) q
    · rw [hc.1 t i j c2, cpI1, if_neg (fun z => q (Or.inr z))]
theorem M0.cp {σ : AM} {h : Nat → Int} {b : Nat} (hm : M0 σ h) (hb : 97 ≤ b) : M0 (cpI σ 47 0 47 0 0 b 97) h := hm.fr (fun j hj => by rw [cpI1, if_neg (by omega)])
theorem M0.ch {σ σ' : AM} {h : Nat → Int} {S : Nat → Nat → Nat → Prop} (hm : M0 σ h) (hc : Ch S σ σ') (hs : ∀ j, j < 97 → ¬ S 47 0 j) : M0 σ' h := hm.fr (fun j hj => hc.1 47 0 j (hs j hj))
theorem s_m_isFrom {CALL : CT} (hC : RuleAll CALL) {r : Nat} {σ : AM} {K : AV → AM → Prop} {v a b : Int} (v1 : -9223372036854775808 ≤ v) (v2 : v < 9223372036854775808) (a1 : -9223372036854775808 ≤ a) (a2 : a < 9223372036854775808) (b1 : -9223372036854775808 ≤ b) (b2 : b < 9223372036854775808) (h : K (.inl (bI (decide (a ≤ v ∧ v ≤ b)))) σ) : CALL (r + 1) n_m_isFrom [.inr (.inl (Int64.ofInt v)), .inr (.inl (Int64.ofInt a)), .inr (.inl (Int64.ofInt b))] σ K := by
  refine r_m_isFrom hC (fun J hJ => ?_)
  refine hJ _ _ _ _ ?_
  conv => whnf
  refine ⟨fun c => ?_, fun c => ?_⟩ <;> (try simp (disch := omega) only [oi_le, oi_lt, oi_eq, oi_lt0, oi_le0, oi_0lt, oi_0le, oi_eq0, oi_eq1, bI_eq0, bI_ne0, bI_eq1, decide_eq_true_eq, decide_eq_false_iff_not, lc_lt, lc_gt, lc_eq, lc_ge, lc_le, ol_lt, ol_eq, ne_eq, Int.not_lt, Int.not_le, Bool.not_eq_true, Bool.not_eq_false, Decidable.not_not, not_true_eq_false, not_false_eq_true, Bool.true_eq_false, Bool.false_eq_true] at c) <;> (first | (exfalso; omega) | ((with_reducible refine hJ _ _ _ _ ?_); conv => whnf) | (conv => whnf))
  · refine hJ _ _ _ _ ?_
    conv => whnf
    rw [show decide (a ≤ v ∧ v ≤ b) = false from decide_eq_false (by omega)] at h
    exact ⟨Or.inl rfl, h⟩
  · refine ⟨fun c2 => ?_, fun c2 => ?_⟩ <;> (try simp (disch := omega) only [oi_le, oi_lt, oi_eq, oi_lt0, oi_le0, oi_0lt, oi_0le, oi_eq0, oi_eq1, bI_eq0, bI_ne0, bI_eq1, decide_eq_true_eq, decide_eq_false_iff_not, lc_lt, lc_gt, lc_eq, lc_ge, lc_le, ol_lt, ol_eq, ne_eq, Int.not_lt, Int.not_le, Bool.not_eq_true, Bool.not_eq_false, Decidable.not_not, not_true_eq_false, not_false_eq_true, Bool.true_eq_false, Bool.false_eq_true] at c2) <;> (first | (exfalso; omega) | ((with_reducible refine hJ _ _ _ _ ?_); conv => whnf) | (conv => whnf))
    · refine hJ _ _ _ _ ?_
      conv => whnf
      rw [show decide (a ≤ v ∧ v ≤ b) = false from decide_eq_false (by omega)] at h
      exact ⟨Or.inl rfl, h⟩
    · refine hJ _ _ _ _ ?_
      conv => whnf
      rw [show decide (a ≤ v ∧ v ≤ b) = true from decide_eq_true (by omega)] at h
      exact ⟨Or.inr rfl, h⟩
theorem s_m_isSpan {CALL : CT} (hC : RuleAll CALL) {r : Nat} {σ : AM} {K : AV → AM → Prop} {v : Int} (v1 : -2147483648 ≤ v) (v2 : v < 2147483648) (h : K (.inl (bI (decide (0 ≤ v ∧ v ≤ 300)))) σ) : CALL (r + 2) n_m_isSpan [.inl (Int32.ofInt v)] σ K := by
  refine r_m_isSpan hC (fun J hJ => ?_)
  refine hJ _ _ _ _ ?_
  conv => whnf
  rw [oi_l v1 v2]
  refine s_m_isFrom hC (by omega) (by omega) (by omega) (by omega) (by omega) (by omega) ?_
  conv => whnf
  exact ⟨bI_01 _, h⟩
theorem s_m_isShort {CALL : CT} (hC : RuleAll CALL) {r : Nat} {σ : AM} {K : AV → AM → Prop} {v : Int} (v1 : -2147483648 ≤ v) (v2 : v < 2147483648) (h : K (.inl (bI (decide (0 ≤ v ∧ v ≤ 60)))) σ) : CALL (r + 2) n_m_isShort [.inl (Int32.ofInt v)] σ K := by
  refine r_m_isShort hC (fun J hJ => ?_)
  refine hJ _ _ _ _ ?_
  conv => whnf
  rw [oi_l v1 v2]
  refine s_m_isFrom hC (by omega) (by omega) (by omega) (by omega) (by omega) (by omega) ?_
  conv => whnf
  exact ⟨bI_01 _, h⟩
