/-! the class as far as it has read the days -/
def StC (σ : AM) (p k : Nat) (f : Nat → Int) : Prop := σ.1 38 p k = Int32.ofInt (kdC (f 0)) ∧ ((12 ≤ f 0 ∧ f 0 ≤ 14) ∨ (1600 ≤ f 0 ∧ f 0 ≤ 1621) → σ.1 39 p k = Int32.ofInt (f 1)) ∧ (f 0 = 11 ∨ f 0 = 17 → σ.1 40 p k = Int32.ofInt (f 1)) ∧ (f 0 = 1608 ∨ f 0 = 1622 → σ.1 40 p k = Int32.ofInt (f 2) ∧ σ.1 42 p k = Int32.ofInt (f 5)) ∧ (1600 ≤ f 0 → σ.1 41 p k = Int32.ofInt (teC (f 0)))
/-- the names and counts that the days speak of -/
def HN (σ : AM) (q : Nat) (tn mn : Nat → List Nat) (a b : Nat) : Prop := a ≤ 6 ∧ b ≤ 7 ∧ σ.1 23 q 3 = Int32.ofInt (a : Int) ∧ σ.1 27 q 8 = Int32.ofInt (b : Int) ∧ (∀ t, t < a → WordOk (tn t) ∧ σ.2.1 24 q t = Int64.ofInt ((enc5 (tn t) : Nat) : Int)) ∧ (∀ m, m < b → WordOk (mn m) ∧ σ.2.1 28 q m = Int64.ofInt ((enc5 (mn m) : Nat) : Int))
def CDy (σ : AM) (B : Nat → Int) (L p q : Nat) (S : DZ) : Prop := AC σ B L S.1 ∧ σ.2.2 7 0 3 = p ∧ p < 5 ∧ σ.2.2 7 0 4 = q ∧ q < 9 ∧ σ.1 37 p 6 = Int32.ofInt (S.2.1 : Int) ∧ σ.1 37 p 7 = Int32.ofInt (S.2.2.2.2.2 : Int) ∧ σ.1 7 0 2 = Int32.ofInt (S.2.2.2.1 : Int) ∧ (∀ i, i < S.2.2.2.1 → σ.1 8 0 i = Int32.ofInt (S.2.2.2.2.1 i : Int)) ∧ (∀ k, k < S.2.1 → StC σ p k (S.2.2.1 k) ∧ (isOp (S.2.2.1 k 0) ∨ S.2.2.1 k 0 = 18 → (∀ i, i < S.2.2.2.1 → S.2.2.2.2.1 i ≠ k) → σ.1 43 p k = Int32.ofInt (S.2.2.1 k 4))) ∧ σ.1 3 0 3 = Int32.ofInt 0 ∧ σ.1 3 0 4 = Int32.ofInt (-1)
def daddS (σ : AM) (p c : Nat) (x : Int) : AM := wI (wI (wI (wI (wI (wI (wI σ 38 p c (Int32.ofInt x)) 39 p c (Int32.ofInt (-1))) 40 p c (Int32.ofInt 0)) 41 p c (Int32.ofInt (-1))) 42 p c (Int32.ofInt (-1))) 43 p c (Int32.ofInt (-1))) 37 p 6 (Int32.ofInt ((c : Int) + 1))
theorem s_dadd {CALL : CT} (hC : RuleAll CALL) {r : Nat} {σ : AM} {K : AV → AM → Prop} {p c : Nat} {x : Int} (hc : σ.1 37 p 6 = Int32.ofInt (c : Int)) (hc6 : c < 60) (h : K (.inl (Int32.ofInt (c : Int))) (daddS σ p c x)) : CALL (r + 1) n_Days_add [.inr (.inr (37, p)), .inl (Int32.ofInt x)] σ K := by
  refine r_Days_add hC (fun J hJ => ?_)
  refine hJ _ _ _ _ ?_
  conv => whnf
  rw [hc]
  refine ⟨fun c2 => ?_, fun c2 => ?_⟩ <;> (try simp (disch := omega) only [oi_le, oi_lt, oi_eq, oi_lt0, oi_le0, oi_0lt, oi_0le, oi_eq0, oi_eq1, bI_eq0, bI_ne0, bI_eq1, decide_eq_true_eq, decide_eq_false_iff_not, lc_lt, lc_gt, lc_eq, lc_ge, lc_le, ol_lt, ol_eq, ne_eq, Int.not_lt, Int.not_le, Bool.not_eq_true, Bool.not_eq_false, Decidable.not_not, not_true_eq_false, not_false_eq_true, Bool.true_eq_false, Bool.false_eq_true] at c2) <;> (first | (exfalso; omega) | ((with_reducible refine hJ _ _ _ _ ?_); conv => whnf) | (conv => whnf))
  rw [hc]
  refine ⟨(oi_in (by omega) (by omega)).mpr ⟨by omega, by omega⟩, ?_⟩
  conv => whnf
  rw [oi_nat (by omega) (by omega), Int.toNat_natCast, wI1, if_neg (by omega), hc]
  refine ⟨(oi_in (by omega) (by omega)).mpr ⟨by omega, by omega⟩, ?_⟩
  conv => whnf
  rw [oi_nat (by omega) (by omega), Int.toNat_natCast, wI1, if_neg (by omega), wI1, if_neg (by omega), hc]
  refine ⟨(oi_in (by omega) (by omega)).mpr ⟨by omega, by omega⟩, ?_⟩
  conv => whnf
  rw [oi_nat (by omega) (by omega), Int.toNat_natCast, wI1, if_neg (by omega), wI1, if_neg (by omega), wI1, if_neg (by omega), hc]
  refine ⟨(oi_in (by omega) (by omega)).mpr ⟨by omega, by omega⟩, ?_⟩
  conv => whnf
  rw [oi_nat (by omega) (by omega), Int.toNat_natCast, wI1, if_neg (by omega), wI1, if_neg (by omega), wI1, if_neg (by omega), wI1, if_neg (by omega), hc]
  refine ⟨(oi_in (by omega) (by omega)).mpr ⟨by omega, by omega⟩, ?_⟩
  conv => whnf
  rw [oi_nat (by omega) (by omega), Int.toNat_natCast, wI1, if_neg (by omega), wI1, if_neg (by omega), wI1, if_neg (by omega), wI1, if_neg (by omega), wI1, if_neg (by omega), hc]
  refine ⟨(oi_in (by omega) (by omega)).mpr ⟨by omega, by omega⟩, ?_⟩
  conv => whnf
  rw [oi_nat (by omega) (by omega), Int.toNat_natCast, wI_16, wI1, if_neg (by omega), wI1, if_neg (by omega), wI1, if_neg (by omega), wI1, if_neg (by omega), wI1, if_neg (by omega), wI1, if_neg (by omega), hc, oi_add, oi_sub, show (c : Int) + 1 - 1 = (c : Int) by omega]
  exact h
