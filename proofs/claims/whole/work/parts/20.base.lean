abbrev CT : Type := Nat → Nat → List AV → AM → (AV → AM → Prop) → Prop
/-- a truth as an int -/
def bI (b : Bool) : Int32 := Int32.ofInt (if b then 1 else 0)
theorem bI_t : bI true = Int32.ofInt 1 := rfl
theorem bI_f : bI false = Int32.ofInt 0 := rfl
theorem bI_01 (b : Bool) : bI b = 0 ∨ bI b = 1 := by cases b <;> decide
theorem bI_eq0 {b : Bool} : bI b = 0 ↔ b = false := by cases b <;> decide
theorem bI_ne0 {b : Bool} : ¬ bI b = 0 ↔ b = true := by cases b <;> decide
theorem bI_eq1 {b : Bool} : bI b = Int32.ofInt 1 ↔ b = true := by cases b <;> decide
theorem bI_inj {a b : Bool} : bI a = bI b ↔ a = b := by cases a <;> cases b <;> decide
theorem s_has {CALL : CT} (hC : RuleAll CALL) {r : Nat} {σ : AM} {K : AV → AM → Prop} {a k : Nat} (ha : a < 2147483648) (hk : k < 31) (h : K (.inl (bI (a.testBit k))) σ) : CALL (r + 1) n_x_has [.inl (Int32.ofInt a), .inl (Int32.ofInt k)] σ K := by
  refine r_x_has hC (fun J hJ => ?_)
  refine hJ _ _ _ _ ?_
  conv => whnf
  rw [oi_bit ha hk]
  refine ⟨fun c => ?_, fun c => ?_⟩
  · refine hJ _ _ _ _ ?_
    conv => whnf
    refine hJ _ _ _ _ ?_
    conv => whnf
    refine ⟨Or.inl rfl, ?_⟩
    have e : a.testBit k = false := by
      cases hb : a.testBit k with
      | false => rfl
      | true => rw [hb] at c; exact absurd rfl c
    rw [e] at h
    exact h
  · conv => whnf
    refine hJ _ _ _ _ ?_
    conv => whnf
    refine ⟨Or.inr rfl, ?_⟩
    have e : a.testBit k = true := by
      cases hb : a.testBit k with
      | true => rfl
      | false => rw [hb] at c; exact absurd c (by decide)
    rw [e] at h
    exact h
theorem s_within {CALL : CT} (hC : RuleAll CALL) {r : Nat} {σ : AM} {K : AV → AM → Prop} {x a b : Int32} (h : K (.inl (bI (decide (a ≤ x ∧ x ≤ b)))) σ) : CALL (r + 1) n_x_within [.inl x, .inl a, .inl b] σ K := by
  refine r_x_within hC (fun J hJ => ?_)
  refine hJ _ _ _ _ ?_
  conv => whnf
  refine ⟨fun c => ?_, fun c => ?_⟩
  · refine hJ _ _ _ _ ?_
    conv => whnf
    refine hJ _ _ _ _ ?_
    conv => whnf
    rw [show decide (a ≤ x ∧ x ≤ b) = false from decide_eq_false (fun z => Int32.not_le.mpr c z.1)] at h
    exact ⟨Or.inl rfl, h⟩
  · conv => whnf
    refine ⟨fun c2 => ?_, fun c2 => ?_⟩
    · refine hJ _ _ _ _ ?_
      conv => whnf
      refine hJ _ _ _ _ ?_
      conv => whnf
      rw [show decide (a ≤ x ∧ x ≤ b) = false from decide_eq_false (fun z => Int32.not_le.mpr c2 z.2)] at h
      exact ⟨Or.inl rfl, h⟩
    · conv => whnf
      refine hJ _ _ _ _ ?_
      conv => whnf
      rw [show decide (a ≤ x ∧ x ≤ b) = true from decide_eq_true ⟨Int32.not_lt.mp c, Int32.not_lt.mp c2⟩] at h
      exact ⟨Or.inr rfl, h⟩
theorem s_truth {CALL : CT} (hC : RuleAll CALL) {r : Nat} {σ : AM} {K : AV → AM → Prop} {b : Bool} (h : K (.inl (bI b)) σ) : CALL (r + 1) n_x_truth [.inl (bI b)] σ K := by
  refine r_x_truth hC (fun J hJ => ?_)
  refine hJ _ _ _ _ ?_
  conv => whnf
  refine ⟨fun c => ?_, fun c => ?_⟩
  · refine hJ _ _ _ _ ?_
    conv => whnf
    refine hJ _ _ _ _ ?_
    conv => whnf
    rw [bI_eq0] at c
    subst c
    exact h
  · conv => whnf
    refine hJ _ _ _ _ ?_
    conv => whnf
    rw [bI_ne0] at c
    subst c
    exact h
/-- one more in a set, or one fewer -/
def setW (a k : Nat) (b : Bool) : Nat := if b then a ||| 2 ^ k else if a.testBit k then a - 2 ^ k else a
theorem oi_clr {a k : Nat} (ha : a < 128) (hk : k < 7) : Int32.ofInt (a : Int) &&& ((Int32.ofInt 1 <<< (Int32.ofInt (k : Int) &&& 31)) ^^^ Int32.ofInt (-1)) = Int32.ofInt ((if a.testBit k then a - 2 ^ k else a : Nat) : Int) := by
  have key : ∀ a : Nat, a < 128 → ∀ k : Nat, k < 7 → Int32.ofInt (a : Int) &&& ((Int32.ofInt 1 <<< (Int32.ofInt (k : Int) &&& 31)) ^^^ Int32.ofInt (-1)) = Int32.ofInt ((if a.testBit k then a - 2 ^ k else a : Nat) : Int) := by decide +kernel
  exact key a ha k hk
theorem s_with {CALL : CT} (hC : RuleAll CALL) {r : Nat} {σ : AM} {K : AV → AM → Prop} {a k : Nat} {b : Bool} (ha : a < 128) (hk : k < 7) (h : K (.inl (Int32.ofInt (setW a k b))) σ) : CALL (r + 1) n_x_with [.inl (Int32.ofInt a), .inl (Int32.ofInt k), .inl (bI b)] σ K := by
  refine r_x_with hC (fun J hJ => ?_)
  refine hJ _ _ _ _ ?_
  conv => whnf
  refine ⟨fun c => ?_, fun c => ?_⟩
  · refine hJ _ _ _ _ ?_
    conv => whnf
    refine hJ _ _ _ _ ?_
    conv => whnf
    rw [bI_eq0] at c
    subst c
    rw [oi_clr ha hk]
    exact h
  · conv => whnf
    refine hJ _ _ _ _ ?_
    conv => whnf
    rw [bI_ne0] at c
    subst c
    rw [oi_shl (by omega), oi_or]
    exact h
theorem s_min {CALL : CT} (hC : RuleAll CALL) {r : Nat} {σ : AM} {K : AV → AM → Prop} {x y : Int32} (h : K (.inl (if y < x then y else x)) σ) : CALL (r + 1) n_Math_min [.inl x, .inl y] σ K := by
  refine r_Math_min hC (fun J hJ => ?_)
  refine hJ _ _ _ _ ?_
  conv => whnf
  refine ⟨fun c => ?_, fun c => ?_⟩
  · refine hJ _ _ _ _ ?_
    conv => whnf
    refine hJ _ _ _ _ ?_
    conv => whnf
    rw [if_pos c] at h
    exact h
  · conv => whnf
    refine hJ _ _ _ _ ?_
    conv => whnf
    rw [if_neg c] at h
    exact h
theorem s_max {CALL : CT} (hC : RuleAll CALL) {r : Nat} {σ : AM} {K : AV → AM → Prop} {x y : Int32} (h : K (.inl (if x < y then y else x)) σ) : CALL (r + 1) n_Math_max [.inl x, .inl y] σ K := by
  refine r_Math_max hC (fun J hJ => ?_)
  refine hJ _ _ _ _ ?_
  conv => whnf
  refine ⟨fun c => ?_, fun c => ?_⟩
  · refine hJ _ _ _ _ ?_
    conv => whnf
    refine hJ _ _ _ _ ?_
    conv => whnf
    rw [if_pos c] at h
    exact h
  · conv => whnf
    refine hJ _ _ _ _ ?_
    conv => whnf
    rw [if_neg c] at h
    exact h
/-- how many are in a set -/
def cnt (a : Nat) : Nat := ((List.range 7).filter (fun k => a.testBit k)).length
theorem s_bitCount {CALL : CT} (hC : RuleAll CALL) {r : Nat} {σ : AM} {K : AV → AM → Prop} {a : Nat} (ha : a < 128) (h : K (.inl (Int32.ofInt (cnt a))) σ) : CALL (r + 1) n_Integer_bitCount [.inl (Int32.ofInt a)] σ K := by
  refine r_Integer_bitCount hC (fun J hJ => ?_)
  refine hJ _ _ _ _ ?_
  conv => whnf
  have key : ∀ a : Nat, a < 128 → (fun x0 : Int32 => let x1 := x0 - ((x0.toUInt32 >>> ((Int32.ofInt 1).toUInt32 &&& Int32.toUInt32 31)).toInt32 &&& Int32.ofInt 1431655765); let x2 := (x1 &&& Int32.ofInt 858993459) + ((x1.toUInt32 >>> ((Int32.ofInt 2).toUInt32 &&& Int32.toUInt32 31)).toInt32 &&& Int32.ofInt 858993459); let x3 := (x2 + (x2.toUInt32 >>> ((Int32.ofInt 4).toUInt32 &&& Int32.toUInt32 31)).toInt32) &&& Int32.ofInt 252645135; let x4 := x3 + (x3.toUInt32 >>> ((Int32.ofInt 8).toUInt32 &&& Int32.toUInt32 31)).toInt32; let x5 := x4 + (x4.toUInt32 >>> ((Int32.ofInt 16).toUInt32 &&& Int32.toUInt32 31)).toInt32; x5 &&& Int32.ofInt 63) (Int32.ofInt (a : Int)) = Int32.ofInt (cnt a : Int) := by decide +kernel
  rw [← key a ha] at h
  exact h
