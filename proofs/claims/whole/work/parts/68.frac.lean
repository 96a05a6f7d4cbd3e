/-! fractions -/
theorem ol_add (a b : Int) : Int64.ofInt a + Int64.ofInt b = Int64.ofInt (a + b) := (Int64.ofInt_add a b).symm
theorem ol_sub (a b : Int) : Int64.ofInt a - Int64.ofInt b = Int64.ofInt (a - b) := (Int64.ofInt_sub a b).symm
theorem ol_mul (a b : Int) : Int64.ofInt a * Int64.ofInt b = Int64.ofInt (a * b) := (Int64.ofInt_mul a b).symm
theorem ol_div {a b : Int} (h1 : 0 ≤ a) (h2 : a < 9223372036854775808) (h3 : 0 < b) (h4 : b < 9223372036854775808) : Int64.ofInt a / Int64.ofInt b = Int64.ofInt (a / b) := by
  apply Int64.toInt_inj.mp
  have hd0 : 0 ≤ a / b := Int.ediv_nonneg h1 (by omega)
  have hd1 : a / b ≤ a := Int.ediv_le_self b h1
  rw [Int64.toInt_div, tl_ol (by omega) h2, tl_ol (by omega) h4, tl_ol (by omega) (by omega), Int.tdiv_eq_ediv_of_nonneg h1]
  exact Int.bmod_eq_of_le_mul_two (by show -(9223372036854775808 * 2 : Int) ≤ a / b * 2; omega) (by show a / b * 2 < (9223372036854775808 * 2 : Int); omega)
theorem ol_mod {a b : Int} (h1 : 0 ≤ a) (h2 : a < 9223372036854775808) (h3 : 0 < b) (h4 : b < 9223372036854775808) : Int64.ofInt a % Int64.ofInt b = Int64.ofInt (a % b) := by
  apply Int64.toInt_inj.mp
  have hd0 : 0 ≤ a % b := Int.emod_nonneg a (by omega)
  have hd1 : a % b < b := Int.emod_lt_of_pos a h3
  rw [Int64.toInt_mod, tl_ol (by omega) h2, tl_ol (by omega) h4, tl_ol (by omega) (by omega), Int.tmod_eq_emod_of_nonneg h1]
/-- all but the fraction stays, and the fractions are the same -/
def FrE (σ σ' : AM) : Prop := (∀ t i j, keepI t i j → σ'.1 t i j = σ.1 t i j) ∧ (∀ t i j, keepL t i j → t ≠ 1 → t ≠ 46 → σ'.2.1 t i j = σ.2.1 t i j) ∧ (∀ j, 11 ≤ j → j ≤ 14 → σ'.2.2 1 0 j = σ.2.2 1 0 j) ∧ ((σ'.2.1 1 0 17 = σ'.2.1 46 0 3 ∧ σ'.2.1 1 0 18 = σ'.2.1 46 0 4) ∨ SC σ σ')
theorem gcd_step {m h l : Nat} (hl : l < 2 ^ (m + 1)) (h0 : 0 < l) (hr : 0 < h % l) : l % (h % l) < 2 ^ m := by
  have h1 : h % l < l := Nat.mod_lt h h0
  have h2 : l % (h % l) < h % l := Nat.mod_lt l hr
  have h3 := Nat.mod_add_div l (h % l)
  have h4 : 1 ≤ l / (h % l) := (Nat.one_le_div_iff hr).mpr (by omega)
  have h5 : (h % l) * 1 ≤ (h % l) * (l / (h % l)) := Nat.mul_le_mul_left _ h4
  rw [Nat.pow_succ] at hl
  omega
theorem s_commonDivisor {CALL : CT} (hC : RuleAll CALL) {r : Nat} {σ : AM} {K : AV → AM → Prop} {a b : Nat} (ha : a < 4294967296) (hb : b < 4294967296) (h : K (.inr (.inl (Int64.ofInt (Nat.gcd a b : Nat)))) σ) : CALL (r + 1) n_x_commonDivisor [.inr (.inl (Int64.ofInt a)), .inr (.inl (Int64.ofInt b))] σ K := by
  refine r_x_commonDivisor hC (fun J hJ => ?_)
  refine hJ _ _ _ _ ?_
  conv => whnf
  have fin : ∀ (hi : Nat) (i : Nat) (x y : AV), hi = Nat.gcd a b → J 45 [.inr (.inl (Int64.ofInt a)), unset, .inr (.inl (Int64.ofInt b)), unset, .inr (.inl (Int64.ofInt hi)), unset, .inr (.inl (Int64.ofInt 0)), unset, .inl (Int32.ofInt (i : Int)), x, y] [] σ := by
    intro hi i x y hg
    refine hJ _ _ _ _ ?_
    conv => whnf
    rw [hg]
    exact h
  have end0 : ∀ (hi i : Nat) (x y : AV), i ≤ 200 → Nat.gcd hi 0 = Nat.gcd a b → J 9 [.inr (.inl (Int64.ofInt a)), unset, .inr (.inl (Int64.ofInt b)), unset, .inr (.inl (Int64.ofInt hi)), unset, .inr (.inl (Int64.ofInt (0 : Nat))), unset, .inl (Int32.ofInt (i : Int)), x, y] [] σ := by
    intro hi i x y h1 hg
    rw [Nat.gcd_zero_right] at hg
    refine hJ _ _ _ _ ?_
    conv => whnf
    refine ⟨fun c => ?_, fun c => ?_⟩ <;> (try simp (disch := omega) only [oi_le, oi_lt, oi_eq, oi_lt0, oi_le0, oi_0lt, oi_0le, oi_eq0, oi_eq1, bI_eq0, bI_ne0, bI_eq1, decide_eq_true_eq, decide_eq_false_iff_not, lc_lt, lc_gt, lc_eq, lc_ge, lc_le, ol_lt, ol_eq, ne_eq, Int.not_lt, Int.not_le, Bool.not_eq_true, Bool.not_eq_false, Decidable.not_not, not_true_eq_false, not_false_eq_true, Bool.true_eq_false, Bool.false_eq_true] at c) <;> (first | (exfalso; omega) | ((fail_if_success with_reducible refine hJ _ _ _ _ ?_); conv => whnf) | skip)
    · exact fin hi i x y hg
    · refine ⟨fun c2 => ?_, fun c2 => ?_⟩ <;> (try simp (disch := omega) only [oi_le, oi_lt, oi_eq, oi_lt0, oi_le0, oi_0lt, oi_0le, oi_eq0, oi_eq1, bI_eq0, bI_ne0, bI_eq1, decide_eq_true_eq, decide_eq_false_iff_not, lc_lt, lc_gt, lc_eq, lc_ge, lc_le, ol_lt, ol_eq, ne_eq, Int.not_lt, Int.not_le, Bool.not_eq_true, Bool.not_eq_false, Decidable.not_not, not_true_eq_false, not_false_eq_true, Bool.true_eq_false, Bool.false_eq_true] at c2) <;> (first | (exfalso; omega) | ((fail_if_success with_reducible refine hJ _ _ _ _ ?_); conv => whnf) | skip)
      exact fin hi i x y hg
  have one : ∀ (hi lo i : Nat) (x y : AV), i < 200 → hi < 4294967296 → lo < 4294967296 → 0 < lo → (∀ x y : AV, J 9 [.inr (.inl (Int64.ofInt a)), unset, .inr (.inl (Int64.ofInt b)), unset, .inr (.inl (Int64.ofInt lo)), unset, .inr (.inl (Int64.ofInt (hi % lo : Nat))), unset, .inl (Int32.ofInt ((i + 1 : Nat) : Int)), x, y] [] σ) → J 9 [.inr (.inl (Int64.ofInt a)), unset, .inr (.inl (Int64.ofInt b)), unset, .inr (.inl (Int64.ofInt hi)), unset, .inr (.inl (Int64.ofInt lo)), unset, .inl (Int32.ofInt (i : Int)), x, y] [] σ := by
    intro hi lo i x y h1 h2 h3 h4 hk
    refine hJ _ _ _ _ ?_
    conv => whnf
    refine ⟨fun c => ?_, fun c => ?_⟩ <;> (try simp (disch := omega) only [oi_le, oi_lt, oi_eq, oi_lt0, oi_le0, oi_0lt, oi_0le, oi_eq0, oi_eq1, bI_eq0, bI_ne0, bI_eq1, decide_eq_true_eq, decide_eq_false_iff_not, lc_lt, lc_gt, lc_eq, lc_ge, lc_le, ol_lt, ol_eq, ne_eq, Int.not_lt, Int.not_le, Bool.not_eq_true, Bool.not_eq_false, Decidable.not_not, not_true_eq_false, not_false_eq_true, Bool.true_eq_false, Bool.false_eq_true] at c) <;> (first | (exfalso; omega) | ((with_reducible refine hJ _ _ _ _ ?_); conv => whnf) | (conv => whnf))
    refine ⟨fun c2 => ?_, fun c2 => ?_⟩ <;> (try simp (disch := omega) only [oi_le, oi_lt, oi_eq, oi_lt0, oi_le0, oi_0lt, oi_0le, oi_eq0, oi_eq1, bI_eq0, bI_ne0, bI_eq1, decide_eq_true_eq, decide_eq_false_iff_not, lc_lt, lc_gt, lc_eq, lc_ge, lc_le, ol_lt, ol_eq, ne_eq, Int.not_lt, Int.not_le, Bool.not_eq_true, Bool.not_eq_false, Decidable.not_not, not_true_eq_false, not_false_eq_true, Bool.true_eq_false, Bool.false_eq_true] at c2) <;> (first | (exfalso; omega) | ((with_reducible refine hJ _ _ _ _ ?_); conv => whnf) | (conv => whnf))
    refine ⟨(by
      intro z
      have := (ol_eq (a := (lo : Int)) (b := 0) (by omega) (by omega) (by omega) (by omega)).mp z
      omega), ?_⟩
    conv => whnf
    rw [ol_mod (by omega) (by omega) (by omega) (by omega), oi_succ, ← Int.natCast_emod]
    exact hk _ _
  have loop : ∀ (m hi lo i : Nat) (x y : AV), hi < 4294967296 → lo < 4294967296 → lo < 2 ^ m → i + 2 * m ≤ 200 → Nat.gcd hi lo = Nat.gcd a b → J 9 [.inr (.inl (Int64.ofInt a)), unset, .inr (.inl (Int64.ofInt b)), unset, .inr (.inl (Int64.ofInt hi)), unset, .inr (.inl (Int64.ofInt lo)), unset, .inl (Int32.ofInt (i : Int)), x, y] [] σ := by
    intro m
    induction m with
    | zero =>
      intro hi lo i x y h1 h2 h3 h4 h5
      have : lo = 0 := by
        have : (2 : Nat) ^ 0 = 1 := rfl
        omega
      subst this
      exact end0 hi i x y (by omega) h5
    | succ m ih =>
      intro hi lo i x y h1 h2 h3 h4 h5
      by_cases e0 : lo = 0
      · subst e0
        exact end0 hi i x y (by omega) h5
      · have l1 := Nat.mod_lt hi (show 0 < lo by omega)
        have g1 : Nat.gcd lo (hi % lo) = Nat.gcd a b := by
          rw [← h5, Nat.gcd_comm lo, ← Nat.gcd_rec, Nat.gcd_comm]
        refine one hi lo i x y (by omega) h1 h2 (by omega) (fun x y => ?_)
        by_cases e1 : hi % lo = 0
        · rw [e1] at g1 ⊢
          exact end0 lo (i + 1) x y (by omega) g1
        · have l2 := Nat.mod_lt lo (show 0 < hi % lo by omega)
          refine one lo (hi % lo) (i + 1) x y (by omega) h2 (by omega) (by omega) (fun x y => ?_)
          refine ih (hi % lo) (lo % (hi % lo)) (i + 1 + 1) x y (by omega) (by omega) (gcd_step h3 (by omega) (by omega)) (by omega) ?_
          rw [← g1, Nat.gcd_comm (hi % lo), ← Nat.gcd_rec, Nat.gcd_comm]
  exact loop 32 a b 0 _ _ ha hb hb (by omega) rfl
def frS (σ : AM) (t j : Nat) (x y : Int64) : AM := wL (wL σ t 0 j x) t 0 (j + 1) y
theorem s_tellFraction {CALL : CT} (hC : RuleAll CALL) {r : Nat} {σ : AM} {K : AV → AM → Prop} {a b : Nat} (ha : a < 4294967296) (hb : b < 4294967296) (hb0 : 0 < b) (h : K unset (frS σ 1 17 (Int64.ofInt (a / Nat.gcd a b : Nat)) (Int64.ofInt (b / Nat.gcd a b : Nat)))) : CALL (r + 2) n_x_tellFraction [.inr (.inr (1, 0)), .inr (.inl (Int64.ofInt a)), .inr (.inl (Int64.ofInt b))] σ K := by
  refine r_x_tellFraction hC (fun J hJ => ?_)
  refine hJ _ _ _ _ ?_
  conv => whnf
  have g0 : 0 < Nat.gcd a b := Nat.gcd_pos_of_pos_right a hb0
  have g1 : Nat.gcd a b ≤ b := Nat.gcd_le_right a hb0
  refine s_commonDivisor hC ha hb ?_
  conv => whnf
  refine ⟨fun c => ?_, fun c => ?_⟩ <;> (try simp (disch := omega) only [oi_le, oi_lt, oi_eq, oi_lt0, oi_le0, oi_0lt, oi_0le, oi_eq0, oi_eq1, bI_eq0, bI_ne0, bI_eq1, decide_eq_true_eq, decide_eq_false_iff_not, lc_lt, lc_gt, lc_eq, lc_ge, lc_le, ol_lt, ol_eq, ne_eq, Int.not_lt, Int.not_le, Bool.not_eq_true, Bool.not_eq_false, Decidable.not_not, not_true_eq_false, not_false_eq_true, Bool.true_eq_false, Bool.false_eq_true] at c) <;> (first | (exfalso; omega) | ((with_reducible refine hJ _ _ _ _ ?_); conv => whnf) | (conv => whnf))
  have nz : ¬ Int64.ofInt ((Nat.gcd a b : Nat) : Int) = 0 := by
    intro z
    have := (ol_eq (a := ((Nat.gcd a b : Nat) : Int)) (b := 0) (by omega) (by omega) (by omega) (by omega)).mp z
    omega
  refine ⟨nz, ?_⟩
  conv => whnf
  refine ⟨nz, ?_⟩
  conv => whnf
  refine hJ _ _ _ _ ?_
  conv => whnf
  rw [ol_div (by omega) (by omega) (by omega) (by omega), ol_div (by omega) (by omega) (by omega) (by omega), ← Int.natCast_ediv, ← Int.natCast_ediv]
  exact h
theorem s_m_is {CALL : CT} (hC : RuleAll CALL) {r : Nat} {σ : AM} {K : AV → AM → Prop} {x : Int} (x1 : 0 ≤ x) (x2 : x < 100) (h : K (.inl (bI (decide (x = 0)))) (wI σ 46 0 2 (Int32.ofInt x))) : CALL (r + 1) n_m_is [.inr (.inr (46, 0)), .inl (Int32.ofInt x)] σ K := by
  refine r_m_is hC (fun J hJ => ?_)
  refine hJ _ _ _ _ ?_
  conv => whnf
  refine ⟨fun c => ?_, fun c => ?_⟩ <;> (try simp (disch := omega) only [oi_le, oi_lt, oi_eq, oi_lt0, oi_le0, oi_0lt, oi_0le, oi_eq0, oi_eq1, bI_eq0, bI_ne0, bI_eq1, decide_eq_true_eq, decide_eq_false_iff_not, lc_lt, lc_gt, lc_eq, lc_ge, lc_le, ol_lt, ol_eq, ne_eq, Int.not_lt, Int.not_le, Bool.not_eq_true, Bool.not_eq_false, Decidable.not_not, not_true_eq_false, not_false_eq_true, Bool.true_eq_false, Bool.false_eq_true] at c) <;> (first | (exfalso; omega) | ((with_reducible refine hJ _ _ _ _ ?_); conv => whnf) | (conv => whnf))
  · refine hJ _ _ _ _ ?_
    conv => whnf
    rw [show decide (x = 0) = false from decide_eq_false (by omega)] at h
    exact ⟨Or.inl rfl, h⟩
  · refine hJ _ _ _ _ ?_
    conv => whnf
    rw [show decide (x = 0) = true from decide_eq_true (by omega)] at h
    exact ⟨Or.inr rfl, h⟩
theorem s_m_tellsBy {CALL : CT} (hC : RuleAll CALL) {r : Nat} {σ : AM} {K : AV → AM → Prop} {a b : Nat} (ha : a < 4294967296) (hb : b < 4294967296) (hb0 : 0 < b) (h : K (.inl (Int32.ofInt 1)) (wI (frS σ 46 3 (Int64.ofInt (a / Nat.gcd a b : Nat)) (Int64.ofInt (b / Nat.gcd a b : Nat))) 46 0 2 (Int32.ofInt 0))) : CALL (r + 2) n_m_tellsBy [.inr (.inr (46, 0)), .inr (.inl (Int64.ofInt a)), .inr (.inl (Int64.ofInt b))] σ K := by
  refine r_m_tellsBy hC (fun J hJ => ?_)
  refine hJ _ _ _ _ ?_
  conv => whnf
  have g0 : 0 < Nat.gcd a b := Nat.gcd_pos_of_pos_right a hb0
  have g1 : Nat.gcd a b ≤ b := Nat.gcd_le_right a hb0
  have nz : ¬ Int64.ofInt ((Nat.gcd a b : Nat) : Int) = 0 := by
    intro z
    have := (ol_eq (a := ((Nat.gcd a b : Nat) : Int)) (b := 0) (by omega) (by omega) (by omega) (by omega)).mp z
    omega
  have loop : ∀ (m hi lo : Nat) (x y : AV), lo ≤ m → hi < 4294967296 → lo < 4294967296 → Nat.gcd hi lo = Nat.gcd a b → J 6 [.inr (.inr (46, 0)), .inr (.inl (Int64.ofInt a)), unset, .inr (.inl (Int64.ofInt b)), unset, .inr (.inl (Int64.ofInt hi)), unset, .inr (.inl (Int64.ofInt lo)), unset, x, y] [] σ := by
    intro m
    induction m with
    | zero =>
      intro hi lo x y h0 h1 h2 h3
      have : lo = 0 := by omega
      subst this
      rw [Nat.gcd_zero_right] at h3
      subst h3
      refine hJ _ _ _ _ ?_
      conv => whnf
      refine ⟨fun c => ?_, fun c => ?_⟩ <;> (try simp (disch := omega) only [oi_le, oi_lt, oi_eq, oi_lt0, oi_le0, oi_0lt, oi_0le, oi_eq0, oi_eq1, bI_eq0, bI_ne0, bI_eq1, decide_eq_true_eq, decide_eq_false_iff_not, lc_lt, lc_gt, lc_eq, lc_ge, lc_le, ol_lt, ol_eq, ne_eq, Int.not_lt, Int.not_le, Bool.not_eq_true, Bool.not_eq_false, Decidable.not_not, not_true_eq_false, not_false_eq_true, Bool.true_eq_false, Bool.false_eq_true] at c) <;> (first | (exfalso; omega) | ((with_reducible refine hJ _ _ _ _ ?_); conv => whnf) | (conv => whnf))
      refine ⟨nz, ?_⟩
      conv => whnf
      refine ⟨nz, ?_⟩
      conv => whnf
      refine s_m_is hC (x := 0) (by omega) (by omega) ?_
      conv => whnf
      rw [ol_div (by omega) (by omega) (by omega) (by omega), ol_div (by omega) (by omega) (by omega) (by omega), ← Int.natCast_ediv, ← Int.natCast_ediv]
      exact ⟨Or.inr rfl, h⟩
    | succ m ih =>
      intro hi lo x y h0 h1 h2 h3
      by_cases e0 : lo = 0
      · exact ih hi lo x y (by omega) h1 h2 h3
      · have l1 := Nat.mod_lt hi (show 0 < lo by omega)
        refine hJ _ _ _ _ ?_
        conv => whnf
        refine ⟨fun c2 => ?_, fun c2 => ?_⟩ <;> (try simp (disch := omega) only [oi_le, oi_lt, oi_eq, oi_lt0, oi_le0, oi_0lt, oi_0le, oi_eq0, oi_eq1, bI_eq0, bI_ne0, bI_eq1, decide_eq_true_eq, decide_eq_false_iff_not, lc_lt, lc_gt, lc_eq, lc_ge, lc_le, ol_lt, ol_eq, ne_eq, Int.not_lt, Int.not_le, Bool.not_eq_true, Bool.not_eq_false, Decidable.not_not, not_true_eq_false, not_false_eq_true, Bool.true_eq_false, Bool.false_eq_true] at c2) <;> (first | (exfalso; omega) | ((with_reducible refine hJ _ _ _ _ ?_); conv => whnf) | (conv => whnf))
        refine ⟨(by
          intro z
          have := (ol_eq (a := (lo : Int)) (b := 0) (by omega) (by omega) (by omega) (by omega)).mp z
          omega), ?_⟩
        conv => whnf
        rw [ol_mod (by omega) (by omega) (by omega) (by omega), ← Int.natCast_emod]
        refine ih lo (hi % lo) _ _ (by omega) h2 (by omega) ?_
        rw [← h3, Nat.gcd_comm lo, ← Nat.gcd_rec, Nat.gcd_comm]
  exact loop b a b _ _ (by omega) ha hb rfl
