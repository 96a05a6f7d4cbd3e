theorem s_rouse2 {CALL : CT} (hC : RuleAll CALL) {r : Nat} {σ : AM} {K : AV → AM → Prop} {q m a : Nat} {is : Bool} (ha : σ.1 27 q 7 = Int32.ofInt (a : Int)) (a1 : a < 128) (hm : m < 7) (h : K unset (wI σ 27 q 7 (Int32.ofInt (setW a m is : Nat)))) : CALL (r + 2) n_Monks_rouse [.inr (.inr (27, q)), .inl (Int32.ofInt m), .inl (bI is)] σ K := by
  refine r_Monks_rouse hC (fun J hJ => ?_)
  refine hJ _ _ _ _ ?_
  conv => whnf
  rw [ha]
  refine s_with hC a1 hm ?_
  conv => whnf
  exact h
def maddS (σ : AM) (q c a : Nat) (x : Int64) (v rs : Int) (is : Bool) : AM := wI (wI (wI (wI (wI (wI (wI (wI (wL σ 28 q c x) 29 q c (Int32.ofInt v)) 30 q c (Int32.ofInt v)) 31 q c (Int32.ofInt rs)) 32 q c (Int32.ofInt 0)) 33 q c (Int32.ofInt 0)) 34 q c (Int32.ofInt 0)) 27 q 7 (Int32.ofInt (setW a c is : Nat))) 27 q 8 (Int32.ofInt ((c : Int) + 1))
theorem s_madd {CALL : CT} (hC : RuleAll CALL) {r : Nat} {σ : AM} {K : AV → AM → Prop} {q c a : Nat} {x : Int64} {v rs : Int} {is : Bool} (hc : σ.1 27 q 8 = Int32.ofInt (c : Int)) (ha : σ.1 27 q 7 = Int32.ofInt (a : Int)) (a1 : a < 128) (hc6 : c < 7) (h : K unset (maddS σ q c a x v rs is)) : CALL (r + 3) n_Monks_add [.inr (.inr (27, q)), .inr (.inl x), .inl (Int32.ofInt v), .inl (Int32.ofInt rs), .inl (bI is)] σ K := by
  refine r_Monks_add hC (fun J hJ => ?_)
  refine hJ _ _ _ _ ?_
  conv => whnf
  rw [hc]
  refine ⟨fun c2 => ?_, fun c2 => ?_⟩ <;> (try simp (disch := omega) only [oi_le, oi_lt, oi_eq, oi_lt0, oi_le0, oi_0lt, oi_0le, oi_eq0, oi_eq1, bI_eq0, bI_ne0, bI_eq1, decide_eq_true_eq, decide_eq_false_iff_not, lc_lt, lc_gt, lc_eq, lc_ge, lc_le, ol_lt, ol_eq, ne_eq, Int.not_lt, Int.not_le, Bool.not_eq_true, Bool.not_eq_false, Decidable.not_not, not_true_eq_false, not_false_eq_true, Bool.true_eq_false, Bool.false_eq_true] at c2) <;> (first | (exfalso; omega) | ((with_reducible refine hJ _ _ _ _ ?_); conv => whnf) | (conv => whnf))
  rw [hc]
  refine ⟨(oi_in (by omega) (by omega)).mpr ⟨by omega, by omega⟩, ?_⟩
  conv => whnf
  rw [oi_nat (by omega) (by omega), Int.toNat_natCast, wL11, hc]
  refine ⟨(oi_in (by omega) (by omega)).mpr ⟨by omega, by omega⟩, ?_⟩
  conv => whnf
  rw [oi_nat (by omega) (by omega), Int.toNat_natCast, wI1, if_neg (by omega), wL11, hc]
  refine ⟨(oi_in (by omega) (by omega)).mpr ⟨by omega, by omega⟩, ?_⟩
  conv => whnf
  rw [oi_nat (by omega) (by omega), Int.toNat_natCast, wI1, if_neg (by omega), wI1, if_neg (by omega), wL11, hc]
  refine ⟨(oi_in (by omega) (by omega)).mpr ⟨by omega, by omega⟩, ?_⟩
  conv => whnf
  rw [oi_nat (by omega) (by omega), Int.toNat_natCast, wI1, if_neg (by omega), wI1, if_neg (by omega), wI1, if_neg (by omega), wL11, hc]
  refine ⟨(oi_in (by omega) (by omega)).mpr ⟨by omega, by omega⟩, ?_⟩
  conv => whnf
  rw [oi_nat (by omega) (by omega), Int.toNat_natCast, wI1, if_neg (by omega), wI1, if_neg (by omega), wI1, if_neg (by omega), wI1, if_neg (by omega), wL11, hc]
  refine ⟨(oi_in (by omega) (by omega)).mpr ⟨by omega, by omega⟩, ?_⟩
  conv => whnf
  rw [oi_nat (by omega) (by omega), Int.toNat_natCast, wI1, if_neg (by omega), wI1, if_neg (by omega), wI1, if_neg (by omega), wI1, if_neg (by omega), wI1, if_neg (by omega), wL11, hc]
  refine ⟨(oi_in (by omega) (by omega)).mpr ⟨by omega, by omega⟩, ?_⟩
  conv => whnf
  rw [oi_nat (by omega) (by omega), Int.toNat_natCast, wI1, if_neg (by omega), wI1, if_neg (by omega), wI1, if_neg (by omega), wI1, if_neg (by omega), wI1, if_neg (by omega), wI1, if_neg (by omega), wL11, hc]
  refine s_rouse2 hC (a := a) ?_ a1 hc6 ?_
  · rw [wI1, if_neg (by omega), wI1, if_neg (by omega), wI1, if_neg (by omega), wI1, if_neg (by omega), wI1, if_neg (by omega), wI1, if_neg (by omega), wL11, ha]
  conv => whnf
  rw [wI1, if_neg (by omega), wI1, if_neg (by omega), wI1, if_neg (by omega), wI1, if_neg (by omega), wI1, if_neg (by omega), wI1, if_neg (by omega), wI1, if_neg (by omega), wL11, hc, oi_add]
  exact h
theorem madd_ew {σ : AM} {q c a : Nat} {x : Int64} {v rs : Int} {is : Bool} : ∀ t i j, ¬ (t = 27 ∧ i = q ∧ (j = 7 ∨ j = 8)) → ¬ (29 ≤ t ∧ t ≤ 34 ∧ i = q ∧ j = c) → (maddS σ q c a x v rs is).1 t i j = σ.1 t i j := by
  intro t i j a b
  unfold maddS
  rw [wI1, if_neg (by omega), wI1, if_neg (by omega), wI1, if_neg (by omega), wI1, if_neg (by omega), wI1, if_neg (by omega), wI1, if_neg (by omega), wI1, if_neg (by omega), wI1, if_neg (by omega), wL11]
theorem madd_hr {σ : AM} {q c a : Nat} {x : Int64} {v rs : Int} {is : Bool} : ChA (hrS q) (hrL q) σ (maddS σ q c a x v rs is) := by
  refine ⟨fun t i j z => ?_, fun t i j z => ?_, rfl⟩
  · have : ¬ HS q t i := fun y => z (Or.inr (Or.inl y))
    unfold HS at this
    exact madd_ew t i j (by omega) (by omega)
  · have : ¬ ((t = 24 ∨ t = 28) ∧ i = q) := fun y => z (Or.inr y)
    show (wL σ 28 q c x).2.1 t i j = _
    rw [wL1, if_neg (by omega)]
theorem aw_add {h : Nat → Int} {v rs : Int} {is : Bool} (b0 : 0 ≤ h 1) (b1 : h 1 < 7) : setW (awS h) (h 1).toNat is = awS (addM h v rs (b01 is)) := by
  refine bit_ext (setW_lt (awS_lt h) (by omega)) (awS_lt _) (fun j hj => ?_)
  rw [setW_bit (awS_lt h) (by omega) hj, awS_bit, awS_bit, addM_1]
  by_cases e : j = (h 1).toNat
  · rw [if_pos e, e, addM_v.2.2.2]
    cases is with
    | true => exact (decide_eq_true ⟨by omega, by omega, rfl⟩).symm
    | false => exact (decide_eq_false (fun z => absurd z.2.2 (by decide))).symm
  · rw [if_neg e, addM_o (by omega) (by omega)]
    exact decide_eq_decide.mpr (by omega)
theorem CR.madd {σ : AM} {B : Nat → Int} {L q : Nat} {S : PS} {v rs : Int} {is : Bool} {w : List Nat} (hc : CR σ B L q S) (hw : WF S.2.1) (h6 : S.2.1 1 < 7) (hz : S.2.1 (28 + 7 * (S.2.1 1).toNat) = 0 ∧ S.2.1 (29 + 7 * (S.2.1 1).toNat) = 0 ∧ S.2.1 (30 + 7 * (S.2.1 1).toNat) = 0) : CR (maddS σ q (S.2.1 1).toNat (awS S.2.1) (Int64.ofInt ((enc5 w : Nat) : Int)) v rs is) B L q (S.1, addM S.2.1 v rs (b01 is), S.2.2.1, upN S.2.2.2.1 (S.2.1 1).toNat w, S.2.2.2.2) := by
  obtain ⟨h1, h2, h3, h4, h5, hq, h7, h8, h9, h10⟩ := id hc
  obtain ⟨q0, q1, q2, q3, q4, q5, q6, q7, q8, q9, qa, qt, qm, qe⟩ := h2
  have b0 : 0 ≤ S.2.1 1 := hw.1.2.2.1
  have b1 : S.2.1 0 ≤ 6 := hw.1.2.1
  have b2 : S.2.1 2 ≤ 12 := hw.1.2.2.2.2.2.1
  clear hw
  have ew := madd_ew (σ := σ) (q := q) (c := (S.2.1 1).toNat) (a := awS S.2.1) (x := Int64.ofInt ((enc5 w : Nat) : Int)) (v := v) (rs := rs) (is := is)
  have hmv : (maddS σ q (S.2.1 1).toNat (awS S.2.1) (Int64.ofInt ((enc5 w : Nat) : Int)) v rs is).1 29 q (S.2.1 1).toNat = Int32.ofInt v ∧ (maddS σ q (S.2.1 1).toNat (awS S.2.1) (Int64.ofInt ((enc5 w : Nat) : Int)) v rs is).1 30 q (S.2.1 1).toNat = Int32.ofInt v ∧ (maddS σ q (S.2.1 1).toNat (awS S.2.1) (Int64.ofInt ((enc5 w : Nat) : Int)) v rs is).1 31 q (S.2.1 1).toNat = Int32.ofInt rs ∧ (maddS σ q (S.2.1 1).toNat (awS S.2.1) (Int64.ofInt ((enc5 w : Nat) : Int)) v rs is).1 32 q (S.2.1 1).toNat = Int32.ofInt 0 ∧ (maddS σ q (S.2.1 1).toNat (awS S.2.1) (Int64.ofInt ((enc5 w : Nat) : Int)) v rs is).1 33 q (S.2.1 1).toNat = Int32.ofInt 0 ∧ (maddS σ q (S.2.1 1).toNat (awS S.2.1) (Int64.ofInt ((enc5 w : Nat) : Int)) v rs is).1 34 q (S.2.1 1).toNat = Int32.ofInt 0 := by
    unfold maddS
    refine ⟨?_, ?_, ?_, ?_, ?_, ?_⟩
    · rw [wI1, if_neg (by omega), wI1, if_neg (by omega), wI1, if_neg (by omega), wI1, if_neg (by omega), wI1, if_neg (by omega), wI1, if_neg (by omega), wI1, if_neg (by omega), wI_16]
    · rw [wI1, if_neg (by omega), wI1, if_neg (by omega), wI1, if_neg (by omega), wI1, if_neg (by omega), wI1, if_neg (by omega), wI1, if_neg (by omega), wI_16]
    · rw [wI1, if_neg (by omega), wI1, if_neg (by omega), wI1, if_neg (by omega), wI1, if_neg (by omega), wI1, if_neg (by omega), wI_16]
    · rw [wI1, if_neg (by omega), wI1, if_neg (by omega), wI1, if_neg (by omega), wI1, if_neg (by omega), wI_16]
    · rw [wI1, if_neg (by omega), wI1, if_neg (by omega), wI1, if_neg (by omega), wI_16]
    · rw [wI1, if_neg (by omega), wI1, if_neg (by omega), wI_16]
  have ea : (maddS σ q (S.2.1 1).toNat (awS S.2.1) (Int64.ofInt ((enc5 w : Nat) : Int)) v rs is).1 27 q 7 = Int32.ofInt ((awS (addM S.2.1 v rs (b01 is)) : Nat) : Int) := by
    unfold maddS
    rw [wI1, if_neg (by omega), wI_16, aw_add b0 h6]
  have e8 : (maddS σ q (S.2.1 1).toNat (awS S.2.1) (Int64.ofInt ((enc5 w : Nat) : Int)) v rs is).1 27 q 8 = Int32.ofInt (S.2.1 1 + 1) := by
    unfold maddS
    rw [wI_16, Int.toNat_of_nonneg b0]
  have ml : ∀ t i j, (maddS σ q (S.2.1 1).toNat (awS S.2.1) (Int64.ofInt ((enc5 w : Nat) : Int)) v rs is).2.1 t i j = if t = 28 ∧ i = q ∧ j = (S.2.1 1).toNat then Int64.ofInt ((enc5 w : Nat) : Int) else σ.2.1 t i j := fun t i j => rfl
  have m22 : (maddS σ q (S.2.1 1).toNat (awS S.2.1) (Int64.ofInt ((enc5 w : Nat) : Int)) v rs is).2.2 = σ.2.2 := rfl
  revert ew hmv ea e8 ml m22
  generalize maddS σ q (S.2.1 1).toNat (awS S.2.1) (Int64.ofInt ((enc5 w : Nat) : Int)) v rs is = σ'
  intro ew hmv ea e8 ml m22
  have hch : ChA (fun t i _ => HS q t i) (fun t _ _ => t = 28) σ σ' := ⟨fun t i j z => ew t i j (by unfold HS at z; omega) (by unfold HS at z; omega), fun t i j z => by rw [ml, if_neg (fun y => z y.1)], m22⟩
  have eo : ∀ k, k ≠ 1 → ¬ (24 + 7 * (S.2.1 1).toNat ≤ k ∧ k < 28 + 7 * (S.2.1 1).toNat) → addM S.2.1 v rs (b01 is) k = S.2.1 k := fun k a b => addM_o a b
  refine ⟨h1.cha hch (fun j _ z => by unfold HS at z; omega) (fun j z => by unfold HS at z; omega) (fun _ z => by omega) (fun z => by omega), ⟨?_, ?_, ?_, ?_, ?_, ?_, ?_, ?_, ?_, ?_, ea, fun t ht => ?_, fun m hm => ?_, fun e he => ?_⟩, fun t ht => ?_, fun m hm => ?_, by rw [m22]; exact h5, hq, ?_, ?_, ?_, ?_⟩
  · show _ = Int32.ofInt (addM S.2.1 v rs (b01 is) 0)
    rw [eo 0 (by omega) (by omega), ew _ _ _ (by omega) (by omega), q0]
  · show _ = Int32.ofInt (addM S.2.1 v rs (b01 is) 1)
    rw [addM_1, e8]
  · show _ = Int32.ofInt (addM S.2.1 v rs (b01 is) 2)
    rw [eo 2 (by omega) (by omega), ew _ _ _ (by omega) (by omega), q2]
  · show _ = Int32.ofInt (addM S.2.1 v rs (b01 is) 3)
    rw [eo 3 (by omega) (by omega), ew _ _ _ (by omega) (by omega), q3]
  · show _ = Int32.ofInt (addM S.2.1 v rs (b01 is) 4)
    rw [eo 4 (by omega) (by omega), ew _ _ _ (by omega) (by omega), q4]
  · show _ = Int32.ofInt (addM S.2.1 v rs (b01 is) 5)
    rw [eo 5 (by omega) (by omega), ew _ _ _ (by omega) (by omega), q5]
  · show _ = Int32.ofInt (addM S.2.1 v rs (b01 is) 6)
    rw [eo 6 (by omega) (by omega), ew _ _ _ (by omega) (by omega), q6]
  · show _ = Int32.ofInt (addM S.2.1 v rs (b01 is) 7)
    rw [eo 7 (by omega) (by omega), ew _ _ _ (by omega) (by omega), q7]
  · show _ = Int32.ofInt (addM S.2.1 v rs (b01 is) 8)
    rw [eo 8 (by omega) (by omega), ew _ _ _ (by omega) (by omega), q8]
  · show _ = Int32.ofInt (addM S.2.1 v rs (b01 is) 9)
    rw [eo 9 (by omega) (by omega), ew _ _ _ (by omega) (by omega), q9]
  · show _ = Int32.ofInt (addM S.2.1 v rs (b01 is) (12 + 2 * t)) ∧ _ = Int32.ofInt (addM S.2.1 v rs (b01 is) (13 + 2 * t))
    have ht : (t : Int) < addM S.2.1 v rs (b01 is) 0 := ht
    rw [eo 0 (by omega) (by omega)] at ht
    rw [eo _ (by omega) (by omega), eo _ (by omega) (by omega), ew _ _ _ (by omega) (by omega), ew _ _ _ (by omega) (by omega)]
    exact qt t (by omega)
  · show _ = Int32.ofInt (addM S.2.1 v rs (b01 is) (24 + 7 * m)) ∧ _ = Int32.ofInt (addM S.2.1 v rs (b01 is) (25 + 7 * m)) ∧ _ = Int32.ofInt (addM S.2.1 v rs (b01 is) (26 + 7 * m)) ∧ _ = Int32.ofInt (addM S.2.1 v rs (b01 is) (28 + 7 * m)) ∧ _ = Int32.ofInt (addM S.2.1 v rs (b01 is) (29 + 7 * m)) ∧ _ = Int32.ofInt (addM S.2.1 v rs (b01 is) (30 + 7 * m))
    have hm : (m : Int) < addM S.2.1 v rs (b01 is) 1 := hm
    rw [addM_1] at hm
    by_cases e : m = (S.2.1 1).toNat
    · obtain ⟨v1, v2, v3, v4⟩ := addM_v (h := S.2.1) (v := v) (rs := rs) (aw := b01 is)
      rw [e, v1, v2, v3, eo (28 + 7 * (S.2.1 1).toNat) (by omega) (by omega), eo (29 + 7 * (S.2.1 1).toNat) (by omega) (by omega), eo (30 + 7 * (S.2.1 1).toNat) (by omega) (by omega), hz.1, hz.2.1, hz.2.2]
      exact hmv
    · rw [eo (24 + 7 * m) (by omega) (by omega), eo (25 + 7 * m) (by omega) (by omega), eo (26 + 7 * m) (by omega) (by omega), eo (28 + 7 * m) (by omega) (by omega), eo (29 + 7 * m) (by omega) (by omega), eo (30 + 7 * m) (by omega) (by omega), ew 29 q m (by omega) (by omega), ew 30 q m (by omega) (by omega), ew 31 q m (by omega) (by omega), ew 32 q m (by omega) (by omega), ew 33 q m (by omega) (by omega), ew 34 q m (by omega) (by omega)]
      exact qm m (by omega)
  · show _ = Int32.ofInt (addM S.2.1 v rs (b01 is) (73 + 2 * e)) ∧ _ = Int32.ofInt (addM S.2.1 v rs (b01 is) (74 + 2 * e))
    have he : (e : Int) < addM S.2.1 v rs (b01 is) 2 := he
    rw [eo 2 (by omega) (by omega)] at he
    rw [eo (73 + 2 * e) (by omega) (by omega), eo (74 + 2 * e) (by omega) (by omega), ew 35 q e (by omega) (by omega), ew 36 q e (by omega) (by omega)]
    exact qe e he
  · have ht : (t : Int) < addM S.2.1 v rs (b01 is) 0 := ht
    rw [eo 0 (by omega) (by omega)] at ht
    rw [ml, if_neg (by omega)]
    exact h3 t ht
  · show _ = Int64.ofInt ((enc5 (upN S.2.2.2.1 (S.2.1 1).toNat w m) : Nat) : Int)
    have hm : (m : Int) < addM S.2.1 v rs (b01 is) 1 := hm
    rw [addM_1] at hm
    by_cases e : m = (S.2.1 1).toNat
    · rw [e, upN_eq, ml, if_pos ⟨rfl, rfl, rfl⟩]
    · rw [upN_ne e, ml, if_neg (by omega)]
      exact h4 m (by omega)
  · rw [ew _ _ _ (by omega) (by omega)]; exact h7
  · rw [ew _ _ _ (by omega) (by omega)]; exact h8
  · rw [ew _ _ _ (by omega) (by omega)]; exact h9
  · rw [ew _ _ _ (by omega) (by omega)]; exact h10
