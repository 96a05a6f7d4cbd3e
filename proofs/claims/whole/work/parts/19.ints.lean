/-! ints as whole numbers: every int is written Int32.ofInt z -/
abbrev oi (z : Int) : Int32 := Int32.ofInt z
def In (z : Int) : Prop := -2147483648 ≤ z ∧ z < 2147483648
theorem ti_oi {a : Int} (h1 : -2147483648 ≤ a) (h2 : a < 2147483648) : (Int32.ofInt a).toInt = a := by
  rw [Int32.toInt_ofInt]
  exact Int.bmod_eq_of_le_mul_two (by show -(2147483648 * 2 : Int) ≤ a * 2; omega) (by show a * 2 < (2147483648 * 2 : Int); omega)
theorem oi_ti (x : Int32) : Int32.ofInt x.toInt = x := Int32.ofInt_toInt x
theorem oi_ex (x : Int32) : ∃ z : Int, x = Int32.ofInt z ∧ -2147483648 ≤ z ∧ z < 2147483648 := ⟨x.toInt, (Int32.ofInt_toInt x).symm, Int32.le_toInt x, Int32.toInt_lt x⟩
theorem oi_add (a b : Int) : Int32.ofInt a + Int32.ofInt b = Int32.ofInt (a + b) := (Int32.ofInt_add a b).symm
theorem oi_sub (a b : Int) : Int32.ofInt a - Int32.ofInt b = Int32.ofInt (a - b) := (Int32.ofInt_sub a b).symm
theorem oi_mul (a b : Int) : Int32.ofInt a * Int32.ofInt b = Int32.ofInt (a * b) := (Int32.ofInt_mul a b).symm
theorem oi_neg (a : Int) : - Int32.ofInt a = Int32.ofInt (-a) := (Int32.ofInt_neg a).symm
theorem oi_lt {a b : Int} (h1 : -2147483648 ≤ a) (h2 : a < 2147483648) (h3 : -2147483648 ≤ b) (h4 : b < 2147483648) : Int32.ofInt a < Int32.ofInt b ↔ a < b := by
  rw [Int32.lt_iff_toInt_lt, ti_oi h1 h2, ti_oi h3 h4]
theorem oi_le {a b : Int} (h1 : -2147483648 ≤ a) (h2 : a < 2147483648) (h3 : -2147483648 ≤ b) (h4 : b < 2147483648) : Int32.ofInt a ≤ Int32.ofInt b ↔ a ≤ b := by
  rw [Int32.le_iff_toInt_le, ti_oi h1 h2, ti_oi h3 h4]
theorem oi_eq {a b : Int} (h1 : -2147483648 ≤ a) (h2 : a < 2147483648) (h3 : -2147483648 ≤ b) (h4 : b < 2147483648) : Int32.ofInt a = Int32.ofInt b ↔ a = b := by
  rw [← Int32.toInt_inj, ti_oi h1 h2, ti_oi h3 h4]
theorem oi_0 : (0 : Int32) = Int32.ofInt 0 := by decide
theorem oi_1 : (1 : Int32) = Int32.ofInt 1 := by decide
theorem oi_31 : (31 : Int32) = Int32.ofInt 31 := by decide
theorem oi_lt0 {a : Int} (h1 : -2147483648 ≤ a) (h2 : a < 2147483648) : Int32.ofInt a < 0 ↔ a < 0 := by rw [oi_0]; exact oi_lt h1 h2 (by omega) (by omega)
theorem oi_le0 {a : Int} (h1 : -2147483648 ≤ a) (h2 : a < 2147483648) : Int32.ofInt a ≤ 0 ↔ a ≤ 0 := by rw [oi_0]; exact oi_le h1 h2 (by omega) (by omega)
theorem oi_0lt {a : Int} (h1 : -2147483648 ≤ a) (h2 : a < 2147483648) : 0 < Int32.ofInt a ↔ 0 < a := by rw [oi_0]; exact oi_lt (by omega) (by omega) h1 h2
theorem oi_0le {a : Int} (h1 : -2147483648 ≤ a) (h2 : a < 2147483648) : 0 ≤ Int32.ofInt a ↔ 0 ≤ a := by rw [oi_0]; exact oi_le (by omega) (by omega) h1 h2
theorem oi_eq0 {a : Int} (h1 : -2147483648 ≤ a) (h2 : a < 2147483648) : Int32.ofInt a = 0 ↔ a = 0 := by rw [oi_0]; exact oi_eq h1 h2 (by omega) (by omega)
theorem oi_eq1 {a : Int} (h1 : -2147483648 ≤ a) (h2 : a < 2147483648) : Int32.ofInt a = 1 ↔ a = 1 := by rw [oi_1]; exact oi_eq h1 h2 (by omega) (by omega)
theorem oi_nat {a : Int} (h1 : -2147483648 ≤ a) (h2 : a < 2147483648) : (Int32.ofInt a).toNatClampNeg = a.toNat := by
  show (Int32.ofInt a).toInt.toNat = _
  rw [ti_oi h1 h2]
theorem oi_in {a : Int} {n : Nat} (h1 : -2147483648 ≤ a) (h2 : a < 2147483648) : vp_in (Int32.ofInt a) n ↔ 0 ≤ a ∧ a < (n : Int) := by
  rw [vp_in_iff, ti_oi h1 h2]
theorem oi_inI {a : Int} {n : Nat} (h1 : 0 ≤ a) (h2 : a < (n : Int)) (h3 : (n : Int) < 2147483648) : vp_in (Int32.ofInt a) n := (oi_in (by omega) (by omega)).mpr ⟨h1, h2⟩
theorem oi_div {a b : Int} (h1 : 0 ≤ a) (h2 : a < 2147483648) (h3 : 0 < b) (h4 : b < 2147483648) : Int32.ofInt a / Int32.ofInt b = Int32.ofInt (a / b) := by
  apply Int32.toInt_inj.mp
  have hd : 0 ≤ a / b := Int.ediv_nonneg h1 (by omega)
  have hd2 : a / b ≤ a := Int.ediv_le_self _ h1
  rw [ti_oi (by omega) (by omega), Int32.toInt_div_of_ne_right _ _ (by intro e; have := (oi_eq (b := -1) (by omega) (by omega) (by omega) (by omega)).mp (e.trans (by decide)); omega), ti_oi (by omega) (by omega), ti_oi (by omega) (by omega), Int.tdiv_eq_ediv_of_nonneg h1]
theorem oi_mod {a b : Int} (h1 : 0 ≤ a) (h2 : a < 2147483648) (h3 : 0 < b) (h4 : b < 2147483648) : Int32.ofInt a % Int32.ofInt b = Int32.ofInt (a % b) := by
  apply Int32.toInt_inj.mp
  have hd : 0 ≤ a % b := Int.emod_nonneg _ (by omega)
  have hd2 : a % b < b := Int.emod_lt_of_pos _ h3
  rw [ti_oi (by omega) (by omega), Int32.toInt_mod, ti_oi (by omega) (by omega), ti_oi (by omega) (by omega), Int.tmod_eq_emod_of_nonneg h1]
theorem oi_nI (n : Nat) : Int32.ofInt (n : Int) = nI n := rfl
theorem oi_and (a b : Nat) : Int32.ofInt (a : Int) &&& Int32.ofInt (b : Int) = Int32.ofInt ((a &&& b : Nat) : Int) := by
  show nI a &&& nI b = nI (a &&& b)
  unfold nI
  apply Int32.toBitVec_inj.mp
  simp [Int32.toBitVec_and]
theorem oi_or (a b : Nat) : Int32.ofInt (a : Int) ||| Int32.ofInt (b : Int) = Int32.ofInt ((a ||| b : Nat) : Int) := by
  show nI a ||| nI b = nI (a ||| b)
  unfold nI
  apply Int32.toBitVec_inj.mp
  simp [Int32.toBitVec_or]
theorem oi_shr {a k : Nat} (h1 : a < 2147483648) (h2 : k < 31) : Int32.ofInt (a : Int) >>> (Int32.ofInt (k : Int) &&& 31) = Int32.ofInt ((a / 2 ^ k : Nat) : Int) := by
  have e0 : ∀ k : Nat, k < 31 → Int32.ofInt (k : Int) &&& 31 = nI k := by decide +kernel
  have e := e0 k h2
  rw [e]
  refine pk_shrN h1 (nI k) k ?_
  have key : ∀ k : Nat, k < 31 → ((nI k).toBitVec.smod 32).toNat = k := by decide +kernel
  exact key k h2
theorem oi_shl {k : Nat} (h2 : k < 31) : Int32.ofInt 1 <<< (Int32.ofInt (k : Int) &&& 31) = Int32.ofInt ((2 ^ k : Nat) : Int) := by
  have key : ∀ k : Nat, k < 31 → Int32.ofInt 1 <<< (Int32.ofInt (k : Int) &&& 31) = Int32.ofInt ((2 ^ k : Nat) : Int) := by decide +kernel
  exact key k h2
/-- a bit of a set -/
theorem oi_bit {a k : Nat} (h1 : a < 2147483648) (h2 : k < 31) : (Int32.ofInt (a : Int) >>> (Int32.ofInt (k : Int) &&& 31)) &&& Int32.ofInt 1 = Int32.ofInt (if a.testBit k then 1 else 0) := by
  rw [oi_shr h1 h2, show (Int32.ofInt 1) = Int32.ofInt ((1 : Nat) : Int) from rfl, oi_and, Nat.and_one_is_mod]
  have : a.testBit k = decide (a / 2 ^ k % 2 = 1) := Nat.testBit_eq_decide_div_mod_eq
  rw [this]
  have h := Nat.mod_two_eq_zero_or_one (a / 2 ^ k)
  rcases h with h | h <;> simp [h]
