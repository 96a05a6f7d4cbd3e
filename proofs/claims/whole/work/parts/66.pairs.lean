/-! couples -/
def rem (s k : Nat) : Nat := setW s k false
theorem rem_key : ∀ (s : Fin 128) (k j : Fin 7), rem s.val k.val < 128 ∧ (rem s.val k.val).testBit j.val = (s.val.testBit j.val && decide (j.val ≠ k.val)) ∧ rem s.val k.val ≤ s.val ∧ (s.val.testBit k.val = true → cnt s.val = cnt (rem s.val k.val) + 1 ∧ rem s.val k.val < s.val) := by decide +kernel
theorem rem_lt {s k : Nat} (hs : s < 128) (hk : k < 7) : rem s k < 128 := (rem_key ⟨s, hs⟩ ⟨k, hk⟩ ⟨0, by omega⟩).1
theorem rem_bit {s k j : Nat} (hs : s < 128) (hk : k < 7) (hj : j < 7) : (rem s k).testBit j = (s.testBit j && decide (j ≠ k)) := (rem_key ⟨s, hs⟩ ⟨k, hk⟩ ⟨j, hj⟩).2.1
theorem rem_le {s k : Nat} (hs : s < 128) (hk : k < 7) : rem s k ≤ s := (rem_key ⟨s, hs⟩ ⟨k, hk⟩ ⟨0, by omega⟩).2.2.1
theorem rem_cnt {s k : Nat} (hs : s < 128) (hk : k < 7) (hb : s.testBit k = true) : cnt s = cnt (rem s k) + 1 ∧ rem s k < s := (rem_key ⟨s, hs⟩ ⟨k, hk⟩ ⟨0, by omega⟩).2.2.2 hb
theorem ext7 {a b : Nat} (ha : a < 128) (hb : b < 128) (h : ∀ j, j < 7 → a.testBit j = b.testBit j) : a = b := by
  apply Nat.eq_of_testBit_eq
  intro j
  by_cases hj : j < 7
  · exact h j hj
  · have h2 : (2 : Nat) ^ 7 ≤ 2 ^ j := Nat.pow_le_pow_right (by omega) (by omega)
    rw [Nat.testBit_lt_two_pow (by omega), Nat.testBit_lt_two_pow (by omega)]
theorem rem_comm {s a b : Nat} (hs : s < 128) (ha : a < 7) (hb : b < 7) : rem (rem s a) b = rem (rem s b) a := by
  refine ext7 (rem_lt (rem_lt hs ha) hb) (rem_lt (rem_lt hs hb) ha) (fun j hj => ?_)
  rw [rem_bit (rem_lt hs ha) hb hj, rem_bit hs ha hj, rem_bit (rem_lt hs hb) ha hj, rem_bit hs hb hj, Bool.and_assoc, Bool.and_assoc, Bool.and_comm (decide (j ≠ a))]
def lst (s : Nat) : Option Nat := firstF (fun k => s.testBit k) 7 0
theorem lst_some {s a : Nat} : lst s = some a ↔ a < 7 ∧ s.testBit a = true ∧ ∀ j, j < a → s.testBit j = false := by
  constructor
  · intro h
    have := firstF_ge h
    exact ⟨by omega, this.2.2.1, fun j hj => this.2.2.2 j (by omega) hj⟩
  · rintro ⟨h1, h2, h3⟩
    cases hf : lst s with
    | none =>
      unfold lst at hf
      rw [firstF_no] at hf
      have := hf a (by omega) (by omega)
      rw [h2] at this
      cases this
    | some b =>
      have hb := firstF_ge hf
      congr 1
      by_cases e1 : b < a
      · have := h3 b e1
        rw [hb.2.2.1] at this
        cases this
      · by_cases e2 : a < b
        · have := hb.2.2.2 a (by omega) e2
          rw [h2] at this
          cases this
        · omega
theorem lst_none {s : Nat} (hs : s < 128) (h : lst s = none) : s = 0 := by
  refine ext7 hs (by omega) (fun j hj => ?_)
  unfold lst at h
  rw [firstF_no] at h
  rw [h j (by omega) (by omega), Nat.zero_testBit]
def pS (E : Nat → Nat → Bool) (M : Nat → Nat) (s a i : Nat) : Nat := if a < i ∧ s.testBit i = true ∧ E a i = true then 1 + M (rem (rem s a) i) else 0
theorem pS_yes {E : Nat → Nat → Bool} {M : Nat → Nat} {s a i : Nat} (h : a < i ∧ s.testBit i = true ∧ E a i = true) : pS E M s a i = 1 + M (rem (rem s a) i) := if_pos h
theorem pS_no {E : Nat → Nat → Bool} {M : Nat → Nat} {s a i : Nat} (h : ¬ (a < i ∧ s.testBit i = true ∧ E a i = true)) : pS E M s a i = 0 := if_neg h
def mF (E : Nat → Nat → Bool) : Nat → Nat → Nat
  | 0, _ => 0
  | f + 1, s => match lst s with
    | none => 0
    | some a => max (mF E f (rem s a)) (mxN (pS E (mF E f) s a) 7)
theorem mF_fuel (E : Nat → Nat → Bool) : ∀ {f s : Nat}, s < 128 → cnt s ≤ f → mF E (f + 1) s = mF E f s
  | 0, s, hs, h => by
    rw [mF, mF]
    cases hl : lst s with
    | none => rfl
    | some a =>
      have ha := lst_some.mp hl
      have := (rem_cnt hs ha.1 ha.2.1).1
      omega
  | f + 1, s, hs, h => by
    rw [mF, mF]
    cases hl : lst s with
    | none => rfl
    | some a =>
      have ha := lst_some.mp hl
      have hc := (rem_cnt hs ha.1 ha.2.1).1
      dsimp only
      rw [mF_fuel E (rem_lt hs ha.1) (by omega)]
      congr 1
      refine mxN_cong (fun i hi => ?_)
      by_cases hp : a < i ∧ s.testBit i = true ∧ E a i = true
      · rw [pS_yes hp, pS_yes hp]
        have hb : (rem s a).testBit i = true := by
          rw [rem_bit hs ha.1 hi, hp.2.1, decide_eq_true (by omega)]
          rfl
        have hc2 := (rem_cnt (rem_lt hs ha.1) hi hb).1
        rw [mF_fuel E (rem_lt (rem_lt hs ha.1) hi) (by omega)]
      · rw [pS_no hp, pS_no hp]
def mM (E : Nat → Nat → Bool) (s : Nat) : Nat := mF E 7 s
theorem mM_eq (E : Nat → Nat → Bool) {s a : Nat} (hs : s < 128) (hl : lst s = some a) : mM E s = max (mM E (rem s a)) (mxN (pS E (mM E) s a) 7) := by
  have hc := cnt_le ⟨s, hs⟩
  show mF E 7 s = _
  rw [← mF_fuel E hs hc, mF, hl]
  rfl
theorem mM_0 (E : Nat → Nat → Bool) {s : Nat} (hl : lst s = none) : mM E s = 0 := by
  show mF E 7 s = 0
  rw [mF, hl]
/-- any couple that may read -/
theorem mM_ge (E : Nat → Nat → Bool) : ∀ (q s : Nat), cnt s ≤ q → s < 128 → ∀ a b, a < b → b < 7 → s.testBit a = true → s.testBit b = true → E a b = true → 1 + mM E (rem (rem s a) b) ≤ mM E s := by
  intro q
  induction q with
  | zero =>
    intro s hq hs a b h1 h2 h3 h4 h5
    have := (rem_cnt hs (by omega) h3).1
    omega
  | succ q ih =>
    intro s hq hs a b h1 h2 h3 h4 h5
    cases hl : lst s with
    | none =>
      have := lst_none hs hl
      subst this
      rw [Nat.zero_testBit] at h3
      cases h3
    | some f =>
      obtain ⟨f1, f2, f3⟩ := lst_some.mp hl
      have hc := (rem_cnt hs f1 f2).1
      rw [mM_eq E hs hl]
      by_cases e : a = f
      · subst e
        have := mxN_ge (f := pS E (mM E) s a) h2
        rw [pS_yes ⟨h1, h4, h5⟩] at this
        omega
      · have hfa : f < a := by
          by_cases e2 : a < f
          · rw [f3 a e2] at h3; cases h3
          · omega
        have hs' := rem_lt (rem_lt hs (show a < 7 by omega)) h2
        have hl' : lst (rem (rem s a) b) = some f := by
          refine lst_some.mpr ⟨f1, ?_, fun j hj => ?_⟩
          · rw [rem_bit (rem_lt hs (by omega)) h2 f1, rem_bit hs (by omega) f1, f2, decide_eq_true (by omega), decide_eq_true (by omega)]
            rfl
          · rw [rem_bit (rem_lt hs (by omega)) h2 (by omega), rem_bit hs (by omega) (by omega), f3 j hj]
            rfl
        rw [mM_eq E hs' hl']
        have sf := rem_lt hs f1
        have bf : ∀ j, j < 7 → j ≠ f → s.testBit j = true → (rem s f).testBit j = true := by
          intro j hj hne hb
          rw [rem_bit hs f1 hj, hb, decide_eq_true hne]
          rfl
        have c1 : rem (rem (rem s a) b) f = rem (rem (rem s f) a) b := by
          rw [rem_comm (rem_lt hs (by omega)) h2 f1, rem_comm hs (show a < 7 by omega) f1]
        have i1 := ih (rem s f) (by omega) sf a b h1 h2 (bf a (by omega) (by omega) h3) (bf b h2 (by omega) h4) h5
        rw [← c1] at i1
        have i2 : 1 + mxN (pS E (mM E) (rem (rem s a) b) f) 7 ≤ max (mM E (rem s f)) (mxN (pS E (mM E) s f) 7) := by
          by_cases h0 : mxN (pS E (mM E) (rem (rem s a) b) f) 7 = 0
          · rw [h0]
            omega
          · obtain ⟨i, k1, k2⟩ := mxN_ex (f := pS E (mM E) (rem (rem s a) b) f) (i := 7) (by omega)
            rw [← k2]
            by_cases hp : f < i ∧ (rem (rem s a) b).testBit i = true ∧ E f i = true
            · rw [pS_yes hp]
              have hbi := hp.2.1
              rw [rem_bit (rem_lt hs (by omega)) h2 k1, rem_bit hs (by omega) k1] at hbi
              simp only [Bool.and_eq_true, decide_eq_true_eq] at hbi
              have hge := mxN_ge (f := pS E (mM E) s f) k1
              rw [pS_yes ⟨hp.1, hbi.1.1, hp.2.2⟩] at hge
              have bfi := bf i k1 (by omega) hbi.1.1
              have hc3 := (rem_cnt sf k1 bfi).1
              have i3 := ih (rem (rem s f) i) (by omega) (rem_lt sf k1) a b h1 h2 (by
                rw [rem_bit sf k1 (by omega), bf a (by omega) (by omega) h3, decide_eq_true (by omega)]; rfl) (by
                rw [rem_bit sf k1 h2, bf b h2 (by omega) h4, decide_eq_true (by omega)]; rfl) h5
              have c2 : rem (rem (rem (rem s f) i) a) b = rem (rem (rem (rem s a) b) f) i := by
                rw [c1, rem_comm (rem_lt (rem_lt sf (by omega)) h2 |> fun _ => rem_lt sf (show a < 7 by omega)) h2 k1, rem_comm sf (show a < 7 by omega) k1]
              rw [c2] at i3
              omega
            · rw [pS_no hp] at k2
              omega
        omega
def pM (E : Nat → Nat → Bool) (s a b : Nat) : Nat := if a < b ∧ s.testBit a = true ∧ s.testBit b = true ∧ E a b = true then 1 + mM E (rem (rem s a) b) else 0
theorem mM_le (E : Nat → Nat → Bool) : ∀ (q s : Nat), cnt s ≤ q → s < 128 → 0 < mM E s → ∃ a b, a < b ∧ b < 7 ∧ s.testBit a = true ∧ s.testBit b = true ∧ E a b = true ∧ mM E s ≤ 1 + mM E (rem (rem s a) b) := by
  intro q
  induction q with
  | zero =>
    intro s hq hs h0
    cases hl : lst s with
    | none => rw [mM_0 E hl] at h0; omega
    | some f =>
      obtain ⟨f1, f2, f3⟩ := lst_some.mp hl
      have := (rem_cnt hs f1 f2).1
      omega
  | succ q ih =>
    intro s hq hs h0
    cases hl : lst s with
    | none => rw [mM_0 E hl] at h0; omega
    | some f =>
      obtain ⟨f1, f2, f3⟩ := lst_some.mp hl
      have hc := (rem_cnt hs f1 f2).1
      have sf := rem_lt hs f1
      rw [mM_eq E hs hl] at h0 ⊢
      by_cases e : mM E (rem s f) < mxN (pS E (mM E) s f) 7
      · obtain ⟨i, k1, k2⟩ := mxN_ex (f := pS E (mM E) s f) (i := 7) (by omega)
        by_cases hp : f < i ∧ s.testBit i = true ∧ E f i = true
        · rw [pS_yes hp] at k2
          refine ⟨f, i, hp.1, k1, f2, hp.2.1, hp.2.2, ?_⟩
          omega
        · rw [pS_no hp] at k2
          omega
      · obtain ⟨a, b, a1, a2, a3, a4, a5, a6⟩ := ih (rem s f) (by omega) sf (by omega)
        rw [rem_bit hs f1 (by omega)] at a3
        rw [rem_bit hs f1 a2] at a4
        simp only [Bool.and_eq_true, decide_eq_true_eq] at a3 a4
        refine ⟨a, b, a1, a2, a3.1, a4.1, a5, ?_⟩
        have hs' := rem_lt (rem_lt hs (show a < 7 by omega)) a2
        have hl' : lst (rem (rem s a) b) = some f := by
          refine lst_some.mpr ⟨f1, ?_, fun j hj => ?_⟩
          · rw [rem_bit (rem_lt hs (by omega)) a2 f1, rem_bit hs (by omega) f1, f2, decide_eq_true (show f ≠ a from fun z => a3.2 z.symm), decide_eq_true (show f ≠ b from fun z => a4.2 z.symm)]
            rfl
          · rw [rem_bit (rem_lt hs (by omega)) a2 (by omega), rem_bit hs (by omega) (by omega), f3 j hj]
            rfl
        have c1 : rem (rem (rem s a) b) f = rem (rem (rem s f) a) b := by
          rw [rem_comm (rem_lt hs (by omega)) a2 f1, rem_comm hs (show a < 7 by omega) f1]
        rw [mM_eq E hs' hl', c1]
        omega
theorem mM_pairs (E : Nat → Nat → Bool) {s : Nat} (hs : s < 128) : mM E s = mxN (fun a => mxN (pM E s a) 7) 7 := by
  have hc := cnt_le ⟨s, hs⟩
  have ub : mxN (fun a => mxN (pM E s a) 7) 7 ≤ mM E s := mxN_bd (fun a ha => mxN_bd (fun b hb => by
    unfold pM
    split
    · rename_i hp
      exact mM_ge E 7 s hc hs a b hp.1 hb hp.2.1 hp.2.2.1 hp.2.2.2
    · omega))
  by_cases h0 : mM E s = 0
  · omega
  · obtain ⟨a, b, a1, a2, a3, a4, a5, a6⟩ := mM_le E 7 s hc hs (by omega)
    have g1 := mxN_ge (f := fun a => mxN (pM E s a) 7) (show a < 7 by omega)
    have g2 := mxN_ge (f := pM E s a) a2
    rw [show pM E s a b = 1 + mM E (rem (rem s a) b) from if_pos ⟨a1, a3, a4, a5⟩] at g2
    omega
