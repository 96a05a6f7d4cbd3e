/-! one topic, one monk more -/
theorem addT_0 {h : Nat → Int} {v : Int} : addT h v 0 = h 0 + 1 := up_eq
theorem addT_v {h : Nat → Int} {v : Int} : addT h v (12 + 2 * (h 0).toNat) = v := by unfold addT; rw [up_ne (by omega), up_eq]
theorem addT_o {h : Nat → Int} {v : Int} {k : Nat} (h0 : k ≠ 0) (h1 : k ≠ 12 + 2 * (h 0).toNat) : addT h v k = h k := by unfold addT; rw [up_ne h0, up_ne h1]
theorem addM_1 {h : Nat → Int} {v rs aw : Int} : addM h v rs aw 1 = h 1 + 1 := up_eq
theorem addM_v {h : Nat → Int} {v rs aw : Int} : addM h v rs aw (24 + 7 * (h 1).toNat) = v ∧ addM h v rs aw (25 + 7 * (h 1).toNat) = v ∧ addM h v rs aw (26 + 7 * (h 1).toNat) = rs ∧ addM h v rs aw (27 + 7 * (h 1).toNat) = aw := by
  unfold addM
  refine ⟨?_, ?_, ?_, ?_⟩
  · rw [up_ne (by omega), up_ne (by omega), up_ne (by omega), up_ne (by omega), up_eq]
  · rw [up_ne (by omega), up_ne (by omega), up_ne (by omega), up_eq]
  · rw [up_ne (by omega), up_ne (by omega), up_eq]
  · rw [up_ne (by omega), up_eq]
theorem addM_o {h : Nat → Int} {v rs aw : Int} {k : Nat} (h0 : k ≠ 1) (h1 : ¬ (24 + 7 * (h 1).toNat ≤ k ∧ k < 28 + 7 * (h 1).toNat)) : addM h v rs aw k = h k := by unfold addM; rw [up_ne h0, up_ne (by omega), up_ne (by omega), up_ne (by omega), up_ne (by omega)]
def taddS (σ : AM) (q c : Nat) (x : Int64) (v : Int) : AM := wI (wI (wI (wL σ 24 q c x) 25 q c (Int32.ofInt v)) 26 q c (Int32.ofInt 0)) 23 q 3 (Int32.ofInt ((c : Int) + 1))
theorem wL11 (σ : AM) (t i j : Nat) (x : Int64) : (wL σ t i j x).1 = σ.1 := rfl
theorem s_tadd {CALL : CT} (hC : RuleAll CALL) {r : Nat} {σ : AM} {K : AV → AM → Prop} {q c : Nat} {x : Int64} {v : Int} (hc : σ.1 23 q 3 = Int32.ofInt (c : Int)) (hc6 : c < 6) (h : K unset (taddS σ q c x v)) : CALL (r + 1) n_Topics_add [.inr (.inr (23, q)), .inr (.inl x), .inl (Int32.ofInt v)] σ K := by
  refine r_Topics_add hC (fun J hJ => ?_)
  refine hJ _ _ _ _ ?_
  conv => whnf
  rw [hc]
  refine ⟨fun c2 => ?_, fun c2 => ?_⟩ <;> (try simp (disch := omega) only [oi_le, oi_lt, oi_eq, oi_lt0, oi_le0, oi_0lt, oi_0le, oi_eq0, oi_eq1, bI_eq0, bI_ne0, bI_eq1, decide_eq_true_eq, decide_eq_false_iff_not, lc_lt, lc_gt, lc_eq, lc_ge, lc_le, ol_lt, ol_eq, ne_eq, Int.not_lt, Int.not_le, Bool.not_eq_true, Bool.not_eq_false, Decidable.not_not, not_true_eq_false, not_false_eq_true, Bool.true_eq_false, Bool.false_eq_true] at c2) <;> (first | (exfalso; omega) | ((with_reducible refine hJ _ _ _ _ ?_); conv => whnf) | (conv => whnf))
  rw [hc]
  refine ⟨(oi_in (by omega) (by omega)).mpr ⟨by omega, by omega⟩, ?_⟩
  conv => whnf
  rw [oi_nat (by omega) (by omega), Int.toNat_natCast, wL11, hc]
  refine ⟨(oi_in (by omega) (by omega)).mpr ⟨by omega, by omega⟩, ?_⟩
  conv => whnf
  rw [oi_nat (by omega) (by omega), Int.toNat_natCast, wI1, if_neg (by omega), wL11, hc]
  refine ⟨(oi_in (by omega) (by omega)).mpr ⟨by omega, by omega⟩, ?_⟩
  conv => whnf
  rw [oi_nat (by omega) (by omega), Int.toNat_natCast, wI1, if_neg (by omega), wI1, if_neg (by omega), wL11, hc, oi_add]
  exact h
theorem tadd_hr {σ : AM} {q c : Nat} {x : Int64} {v : Int} : ChA (hrS q) (hrL q) σ (taddS σ q c x v) := by
  refine ⟨fun t i j z => ?_, fun t i j z => ?_, rfl⟩
  · have : ¬ HS q t i := fun y => z (Or.inr (Or.inl y))
    unfold HS at this
    unfold taddS
    rw [wI1, if_neg (by omega), wI1, if_neg (by omega), wI1, if_neg (by omega), wL11]
  · have : ¬ ((t = 24 ∨ t = 28) ∧ i = q) := fun y => z (Or.inr y)
    show (wL σ 24 q c x).2.1 t i j = _
    rw [wL1, if_neg (by omega)]
theorem CR.tadd {σ : AM} {B : Nat → Int} {L q : Nat} {S : PS} {v : Int} {w : List Nat} (hc : CR σ B L q S) (hw : WF S.2.1) (h6 : S.2.1 0 < 6) (hz : S.2.1 (13 + 2 * (S.2.1 0).toNat) = 0) : CR (taddS σ q (S.2.1 0).toNat (Int64.ofInt ((enc5 w : Nat) : Int)) v) B L q (S.1, addT S.2.1 v, upN S.2.2.1 (S.2.1 0).toNat w, S.2.2.2) := by
  obtain ⟨h1, h2, h3, h4, h5, h6, h7, h8, h9, h10⟩ := id hc
  obtain ⟨q0, q1, q2, q3, q4, q5, q6, q7, q8, q9, qa, qt, qm, qe⟩ := h2
  have b0 : 0 ≤ S.2.1 0 := hw.1.1
  have b1 : S.2.1 1 ≤ 7 := hw.1.2.2.2.1
  have b2 : S.2.1 2 ≤ 12 := hw.1.2.2.2.2.2.1
  have ew : ∀ t i j, ¬ (t = 23 ∧ j = 3) → ¬ (t = 25 ∧ j = (S.2.1 0).toNat) → ¬ (t = 26 ∧ j = (S.2.1 0).toNat) → (taddS σ q (S.2.1 0).toNat (Int64.ofInt ((enc5 w : Nat) : Int)) v).1 t i j = σ.1 t i j := by
    intro t i j a b c
    unfold taddS
    rw [wI1, if_neg (by omega), wI1, if_neg (by omega), wI1, if_neg (by omega), wL11]
  have el : ∀ t i j, ¬ (t = 24 ∧ i = q ∧ j = (S.2.1 0).toNat) → (taddS σ q (S.2.1 0).toNat (Int64.ofInt ((enc5 w : Nat) : Int)) v).2.1 t i j = σ.2.1 t i j := by
    intro t i j a
    show (wL σ 24 q _ _).2.1 t i j = _
    rw [wL1, if_neg a]
  have hch : ChA (fun t i _ => HS q t i) (fun t _ _ => t = 24) σ (taddS σ q (S.2.1 0).toNat (Int64.ofInt ((enc5 w : Nat) : Int)) v) := ⟨fun t i j z => by unfold HS at z; unfold taddS; rw [wI1, if_neg (by omega), wI1, if_neg (by omega), wI1, if_neg (by omega), wL11], fun t i j z => el t i j (fun y => z y.1), rfl⟩
  have eo : ∀ k, k ≠ 0 → k ≠ 12 + 2 * (S.2.1 0).toNat → addT S.2.1 v k = S.2.1 k := fun k a b => addT_o a b
  refine ⟨h1.cha hch (fun j _ z => by unfold HS at z; omega) (fun j z => by unfold HS at z; omega) (fun _ z => by omega) (fun z => by omega), ⟨?_, ?_, ?_, ?_, ?_, ?_, ?_, ?_, ?_, ?_, ?_, fun t ht => ?_, fun m hm => ?_, fun e he => ?_⟩, fun t ht => ?_, fun m hm => ?_, h5, h6, ?_, ?_, ?_, ?_⟩
  · show _ = Int32.ofInt (addT S.2.1 v 0)
    rw [addT_0]
    unfold taddS
    rw [wI_16, Int.toNat_of_nonneg b0]
  · show _ = Int32.ofInt (addT S.2.1 v 1)
    rw [eo 1 (by omega) (by omega), ew _ _ _ (by omega) (by omega) (by omega), q1]
  · show _ = Int32.ofInt (addT S.2.1 v 2)
    rw [eo 2 (by omega) (by omega), ew _ _ _ (by omega) (by omega) (by omega), q2]
  · show _ = Int32.ofInt (addT S.2.1 v 3)
    rw [eo 3 (by omega) (by omega), ew _ _ _ (by omega) (by omega) (by omega), q3]
  · show _ = Int32.ofInt (addT S.2.1 v 4)
    rw [eo 4 (by omega) (by omega), ew _ _ _ (by omega) (by omega) (by omega), q4]
  · show _ = Int32.ofInt (addT S.2.1 v 5)
    rw [eo 5 (by omega) (by omega), ew _ _ _ (by omega) (by omega) (by omega), q5]
  · show _ = Int32.ofInt (addT S.2.1 v 6)
    rw [eo 6 (by omega) (by omega), ew _ _ _ (by omega) (by omega) (by omega), q6]
  · show _ = Int32.ofInt (addT S.2.1 v 7)
    rw [eo 7 (by omega) (by omega), ew _ _ _ (by omega) (by omega) (by omega), q7]
  · show _ = Int32.ofInt (addT S.2.1 v 8)
    rw [eo 8 (by omega) (by omega), ew _ _ _ (by omega) (by omega) (by omega), q8]
  · show _ = Int32.ofInt (addT S.2.1 v 9)
    rw [eo 9 (by omega) (by omega), ew _ _ _ (by omega) (by omega) (by omega), q9]
  · show _ = Int32.ofInt (awS (addT S.2.1 v))
    rw [ew _ _ _ (by omega) (by omega) (by omega), qa]
    congr 2
    exact (awS_cg (eo 1 (by omega) (by omega)) (fun m hm => eo _ (by omega) (by omega))).symm
  · show _ = Int32.ofInt (addT S.2.1 v (12 + 2 * t)) ∧ _ = Int32.ofInt (addT S.2.1 v (13 + 2 * t))
    have ht : (t : Int) < addT S.2.1 v 0 := ht
    rw [addT_0] at ht
    by_cases e : t = (S.2.1 0).toNat
    · rw [e, addT_v, eo _ (by omega) (by omega), hz]
      unfold taddS
      rw [wI1, if_neg (by omega), wI1, if_neg (by omega), wI_16, wI1, if_neg (by omega), wI_16]
      exact ⟨rfl, rfl⟩
    · rw [eo _ (by omega) (by omega), eo _ (by omega) (by omega), ew _ _ _ (by omega) (by omega) (by omega), ew _ _ _ (by omega) (by omega) (by omega)]
      exact qt t (by omega)
  · show _ = Int32.ofInt (addT S.2.1 v (24 + 7 * m)) ∧ _ = Int32.ofInt (addT S.2.1 v (25 + 7 * m)) ∧ _ = Int32.ofInt (addT S.2.1 v (26 + 7 * m)) ∧ _ = Int32.ofInt (addT S.2.1 v (28 + 7 * m)) ∧ _ = Int32.ofInt (addT S.2.1 v (29 + 7 * m)) ∧ _ = Int32.ofInt (addT S.2.1 v (30 + 7 * m))
    have hm : (m : Int) < addT S.2.1 v 1 := hm
    rw [eo 1 (by omega) (by omega)] at hm
    rw [eo (24 + 7 * m) (by omega) (by omega), eo (25 + 7 * m) (by omega) (by omega), eo (26 + 7 * m) (by omega) (by omega), eo (28 + 7 * m) (by omega) (by omega), eo (29 + 7 * m) (by omega) (by omega), eo (30 + 7 * m) (by omega) (by omega), ew 29 q m (by omega) (by omega) (by omega), ew 30 q m (by omega) (by omega) (by omega), ew 31 q m (by omega) (by omega) (by omega), ew 32 q m (by omega) (by omega) (by omega), ew 33 q m (by omega) (by omega) (by omega), ew 34 q m (by omega) (by omega) (by omega)]
    exact qm m hm
  · show _ = Int32.ofInt (addT S.2.1 v (73 + 2 * e)) ∧ _ = Int32.ofInt (addT S.2.1 v (74 + 2 * e))
    have he : (e : Int) < addT S.2.1 v 2 := he
    rw [eo 2 (by omega) (by omega)] at he
    rw [eo (73 + 2 * e) (by omega) (by omega), eo (74 + 2 * e) (by omega) (by omega), ew 35 q e (by omega) (by omega) (by omega), ew 36 q e (by omega) (by omega) (by omega)]
    exact qe e he
  · show _ = Int64.ofInt ((enc5 (upN S.2.2.1 (S.2.1 0).toNat w t) : Nat) : Int)
    have ht : (t : Int) < addT S.2.1 v 0 := ht
    rw [addT_0] at ht
    by_cases e : t = (S.2.1 0).toNat
    · rw [e, upN_eq]
      show (wL σ 24 q _ _).2.1 24 q _ = _
      rw [wL1, if_pos ⟨rfl, rfl, rfl⟩]
    · rw [upN_ne e, el _ _ _ (by omega)]
      exact h3 t (by omega)
  · have hm : (m : Int) < addT S.2.1 v 1 := hm
    rw [eo 1 (by omega) (by omega)] at hm
    rw [el _ _ _ (by omega)]
    exact h4 m hm
  · rw [ew _ _ _ (by omega) (by omega) (by omega)]; exact h7
  · rw [ew _ _ _ (by omega) (by omega) (by omega)]; exact h8
  · rw [ew _ _ _ (by omega) (by omega) (by omega)]; exact h9
  · rw [ew _ _ _ (by omega) (by omega) (by omega)]; exact h10
