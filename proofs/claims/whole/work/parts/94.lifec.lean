theorem wI22 (σ : AM) (t i j : Nat) (x : Int32) : (wI σ t i j x).2.2 = σ.2.2 := rfl
theorem b01_dec {P : Prop} [Decidable P] : b01 (decide P) = if P then 1 else 0 := by
  by_cases h : P
  · rw [decide_eq_true h, if_pos h]; rfl
  · rw [decide_eq_false h, if_neg h]; rfl
def LF (σ : AM) (i q p s : Nat) (d : Nat → Nat → Int) : Prop := σ.2.2 19 i 1 = q ∧ σ.2.2 19 i 2 = p ∧ q < 9 ∧ p < 5 ∧ s ≤ 60 ∧ σ.1 37 p 6 = Int32.ofInt (s : Int) ∧ ∀ k, k < s → StepC σ p k (d k)
def stS (i q t p j : Nat) : Prop := HS q t p ∨ (t = 19 ∧ p = i ∧ 3 ≤ j ∧ j ≤ 10) ∨ (t = 20 ∧ p = i)
theorem LF.ch {σ σ' : AM} {i q p s : Nat} {d : Nat → Nat → Int} (h : LF σ i q p s d) (hc : Ch (stS i q) σ σ') : LF σ' i q p s d := by
  obtain ⟨h1, h2, h3, h4, h5, h6, h7⟩ := h
  refine ⟨by rw [hc.2]; exact h1, by rw [hc.2]; exact h2, h3, h4, h5, ?_, fun k hk => (h7 k hk).cg (fun t t1 t2 => ?_)⟩
  · rw [hc.1 37 p 6 (by unfold stS HS; omega)]; exact h6
  · rw [hc.1 t p k (by unfold stS HS; omega)]
theorem kdC_or {a b : Int} {f : Nat → Int} (h : StepOk a b f) : (f 0 = 11 ∧ kdC (f 0) = 11) ∨ (f 0 = 12 ∧ kdC (f 0) = 12) ∨ (f 0 = 13 ∧ kdC (f 0) = 13) ∨ (f 0 = 14 ∧ kdC (f 0) = 14) ∨ (f 0 = 15 ∧ kdC (f 0) = 15) ∨ (f 0 = 17 ∧ kdC (f 0) = 20) ∨ (f 0 = 18 ∧ kdC (f 0) = 21) ∨ (f 0 = 19 ∧ kdC (f 0) = 22) ∨ ((f 0 = 1620 ∨ f 0 = 1621 ∨ f 0 = 1608 ∨ f 0 = 1622) ∧ kdC (f 0) = 16) := by
  have key : ∀ x : Int, (x = 11 → kdC x = 11) ∧ (x = 12 → kdC x = 12) ∧ (x = 13 → kdC x = 13) ∧ (x = 14 → kdC x = 14) ∧ (x = 15 → kdC x = 15) ∧ (x = 17 → kdC x = 20) ∧ (x = 18 → kdC x = 21) ∧ (x = 19 → kdC x = 22) ∧ ((x = 1620 ∨ x = 1621 ∨ x = 1608 ∨ x = 1622) → kdC x = 16) := by
    intro x
    refine ⟨?_, ?_, ?_, ?_, ?_, ?_, ?_, ?_, ?_⟩
    all_goals intro e
    all_goals first | (subst e; decide) | (rcases e with e | e | e | e <;> (subst e; decide))
  obtain ⟨k1, k2, k3, k4, k5, k6, k7, k8, k9⟩ := key (f 0)
  rcases h with h | ⟨h | h | h, -⟩ | h | h | h | h | h | h | h | h
  · exact Or.inl ⟨h.1, k1 h.1⟩
  · exact Or.inr (Or.inl ⟨h, k2 h⟩)
  · exact Or.inr (Or.inr (Or.inl ⟨h, k3 h⟩))
  · exact Or.inr (Or.inr (Or.inr (Or.inl ⟨h, k4 h⟩)))
  · exact Or.inr (Or.inr (Or.inr (Or.inr (Or.inl ⟨h, k5 h⟩))))
  · exact Or.inr (Or.inr (Or.inr (Or.inr (Or.inr (Or.inl ⟨h.1, k6 h.1⟩)))))
  · exact Or.inr (Or.inr (Or.inr (Or.inr (Or.inr (Or.inr (Or.inl ⟨h, k7 h⟩))))))
  · exact Or.inr (Or.inr (Or.inr (Or.inr (Or.inr (Or.inr (Or.inr (Or.inl ⟨h, k8 h⟩)))))))
  · exact Or.inr (Or.inr (Or.inr (Or.inr (Or.inr (Or.inr (Or.inr (Or.inr ⟨Or.inl h.1, k9 (Or.inl h.1)⟩)))))))
  · exact Or.inr (Or.inr (Or.inr (Or.inr (Or.inr (Or.inr (Or.inr (Or.inr ⟨Or.inr (Or.inl h.1), k9 (Or.inr (Or.inl h.1))⟩)))))))
  · exact Or.inr (Or.inr (Or.inr (Or.inr (Or.inr (Or.inr (Or.inr (Or.inr ⟨Or.inr (Or.inr (Or.inl h.1)), k9 (Or.inr (Or.inr (Or.inl h.1)))⟩)))))))
  · exact Or.inr (Or.inr (Or.inr (Or.inr (Or.inr (Or.inr (Or.inr (Or.inr ⟨Or.inr (Or.inr (Or.inr h.1)), k9 (Or.inr (Or.inr (Or.inr h.1)))⟩)))))))
theorem StepOk.wh {a b : Int} {f : Nat → Int} (h : StepOk a b f) (hw : 1600 ≤ f 0) : (f 0 = 1620 ∧ 0 ≤ f 1 ∧ f 1 < b) ∨ (f 0 = 1621 ∧ 0 ≤ f 1 ∧ f 1 < a) ∨ (f 0 = 1608 ∧ 0 ≤ f 1 ∧ f 1 < b ∧ 0 ≤ f 2 ∧ f 2 ≤ 99 ∧ sgOk (f 5)) ∨ (f 0 = 1622 ∧ 0 ≤ f 2 ∧ f 2 ≤ 9999 ∧ sgOk (f 5)) := by
  rcases h with h | ⟨h | h | h, -⟩ | h | h | h | h | h | h | h | h
  all_goals first | (exfalso; omega) | skip
  · exact Or.inl h
  · exact Or.inr (Or.inl h)
  · exact Or.inr (Or.inr (Or.inl h))
  · exact Or.inr (Or.inr (Or.inr h))
theorem s_miss {CALL : CT} (hC : RuleAll CALL) {r : Nat} {σ : AM} {K : AV → AM → Prop} {i : Nat} {ms : Int} {b : Bool} (h5 : σ.1 19 i 5 = Int32.ofInt ms) (h : K unset (wI σ 19 i 5 (Int32.ofInt (ms + b01 b)))) : CALL (r + 2) n_Life_miss [.inr (.inr (19, i)), .inl (bI b)] σ K := by
  refine r_Life_miss hC (fun J hJ => ?_)
  refine hJ _ _ _ _ ?_
  conv => whnf
  rw [h5]
  refine s_truth hC ?_
  conv => whnf
  rw [bI_b01, oi_add]
  exact h
theorem s_draw {CALL : CT} (hC : RuleAll CALL) {r : Nat} {σ : AM} {K : AV → AM → Prop} {i : Nat} {g m : Int} (h3 : σ.1 19 i 3 = Int32.ofInt g) (g0 : 0 ≤ g) (g1 : g < 65536) (m0 : 0 < m) (m1 : m ≤ 8) (h : K (.inl (Int32.ofInt (drw g / 8 % m))) (wI σ 19 i 3 (Int32.ofInt (drw g)))) : CALL (r + 1) n_Life_draw [.inr (.inr (19, i)), .inl (Int32.ofInt m)] σ K := by
  refine r_Life_draw hC (fun J hJ => ?_)
  refine hJ _ _ _ _ ?_
  conv => whnf
  have db := drw_bd (g := g)
  rw [h3, oi_mul, oi_add]
  refine ⟨by decide, ?_⟩
  conv => whnf
  rw [oi_mod (by omega) (by omega) (by omega) (by omega)]
  refine ⟨fun c => ?_, fun c => ?_⟩ <;> (try simp (disch := omega) only [oi_le, oi_lt, oi_eq, oi_lt0, oi_le0, oi_0lt, oi_0le, oi_eq0, oi_eq1, bI_eq0, bI_ne0, bI_eq1, decide_eq_true_eq, decide_eq_false_iff_not, lc_lt, lc_gt, lc_eq, lc_ge, lc_le, ol_lt, ol_eq, ne_eq, Int.not_lt, Int.not_le, Bool.not_eq_true, Bool.not_eq_false, Decidable.not_not, not_true_eq_false, not_false_eq_true, Bool.true_eq_false, Bool.false_eq_true] at c) <;> (first | (exfalso; omega) | ((with_reducible refine hJ _ _ _ _ ?_); conv => whnf) | (conv => whnf))
  rw [wI_16]
  refine ⟨by decide, ?_⟩
  conv => whnf
  rw [show (g * 3119 + 11329) % ((65536 : Nat) : Int) = drw g from rfl, oi_div (by omega) (by omega) (by omega) (by omega)]
  refine ⟨fun z => by rw [oi_eq0 (by omega) (by omega)] at z; omega, ?_⟩
  conv => whnf
  refine hJ _ _ _ _ ?_
  conv => whnf
  rw [oi_mod (by omega) (by omega) (by omega) (by omega)]
  exact h
theorem s_coughed {CALL : CT} (hC : RuleAll CALL) {r : Nat} {σ : AM} {K : AV → AM → Prop} {i q : Nat} {S : DS} (l1 : σ.2.2 19 i 1 = q) (l2 : q < 9) (hr : HRep σ q S.1) (hw : WF S.1) (g3 : σ.1 19 i 3 = Int32.ofInt S.2.1) (g0 : 0 ≤ S.2.1) (g1 : S.2.1 < 65536) (h1 : S.1 1 = 0 → K (.inl (bI false)) σ) (h2 : S.1 1 ≠ 0 → ∀ σ' : AM, HRep σ' q (up S.1 (24 + 7 * (drw S.2.1 / 8 % S.1 1).toNat) (max 0 (S.1 (24 + 7 * (drw S.2.1 / 8 % S.1 1).toNat) - drw (drw S.2.1) / 8 % 8))) → σ'.1 19 i 3 = Int32.ofInt (drw (drw S.2.1)) → Ch (fun t p j => HS q t p ∨ (t = 19 ∧ p = i ∧ j = 3)) σ σ' → K (.inl (bI true)) σ') : CALL (r + 2) n_Life_coughed [.inr (.inr (19, i))] σ K := by
  refine r_Life_coughed hC (fun J hJ => ?_)
  refine hJ _ _ _ _ ?_
  conv => whnf
  have b := hw.1
  have q1 := hr.2.1
  rw [l1]
  refine ⟨l2, ?_⟩
  conv => whnf
  rw [q1]
  refine ⟨fun c => ?_, fun c => ?_⟩ <;> (try simp (disch := omega) only [oi_le, oi_lt, oi_eq, oi_lt0, oi_le0, oi_0lt, oi_0le, oi_eq0, oi_eq1, bI_eq0, bI_ne0, bI_eq1, decide_eq_true_eq, decide_eq_false_iff_not, lc_lt, lc_gt, lc_eq, lc_ge, lc_le, ol_lt, ol_eq, ne_eq, Int.not_lt, Int.not_le, Bool.not_eq_true, Bool.not_eq_false, Decidable.not_not, not_true_eq_false, not_false_eq_true, Bool.true_eq_false, Bool.false_eq_true] at c) <;> (first | (exfalso; omega) | ((with_reducible refine hJ _ _ _ _ ?_); conv => whnf) | (conv => whnf))
  · have d1 := drw_bd (g := S.2.1)
    have d2 := drw_bd (g := drw S.2.1)
    have m1 := Int.emod_nonneg (drw S.2.1 / 8) (by omega : S.1 1 ≠ 0)
    have m2 := Int.emod_lt_of_pos (drw S.2.1 / 8) (by omega : 0 < S.1 1)
    have mm : (((drw S.2.1 / 8 % S.1 1).toNat : Nat) : Int) < S.1 1 := by omega
    have hq := hw.2.2.1 _ mm
    have n1 := Int.emod_nonneg (drw (drw S.2.1) / 8) (by decide : (8 : Int) ≠ 0)
    have n2 := Int.emod_lt_of_pos (drw (drw S.2.1) / 8) (by decide : (0 : Int) < 8)
    rw [l1]
    refine ⟨l2, ?_⟩
    conv => whnf
    rw [q1]
    refine s_draw hC g3 g0 g1 (by omega) (by omega) ?_
    conv => whnf
    refine s_draw hC (g := drw S.2.1) wI_16 d1.1 d1.2 (by omega) (by omega) ?_
    conv => whnf
    have hr2 : HRep (wI (wI σ 19 i 3 (Int32.ofInt (drw S.2.1))) 19 i 3 (Int32.ofInt (drw (drw S.2.1)))) q S.1 := (hr.ch (S := fun t i j => t = 19) (Ch.wI rfl) (fun t j a b => by omega)).ch (S := fun t i j => t = 19) (Ch.wI rfl) (fun t j a b => by omega)
    rw [wI22, wI22, l1]
    refine ⟨l2, ?_⟩
    conv => whnf
    rw [wI22, wI22, l1]
    refine ⟨l2, ?_⟩
    conv => whnf
    refine ⟨(oi_in (by omega) (by omega)).mpr ⟨by omega, by omega⟩, ?_⟩
    conv => whnf
    obtain ⟨-, -, -, -, -, -, -, -, -, -, -, -, qm, -⟩ := id hr2
    rw [oi_nat (by omega) (by omega), (qm _ mm).1, oi_sub]
    refine s_maxI hC (by omega) (by omega) (by omega) (by omega) ?_
    conv => whnf
    refine ⟨(oi_in (by omega) (by omega)).mpr ⟨by omega, by omega⟩, ?_⟩
    conv => whnf
    rw [oi_nat (by omega) (by omega)]
    refine ⟨Or.inr rfl, ?_⟩
    refine h2 (by omega) _ (HRep.upd (t := 29) (j := (drw S.2.1 / 8 % S.1 1).toNat) hr2 hw (Or.inr (Or.inr (Or.inr (Or.inr (Or.inl ⟨by omega, by omega, mm⟩))))) ⟨by show 24 + 7 * _ ≠ 0; omega, by show 24 + 7 * _ ≠ 1; omega, by show 24 + 7 * _ ≠ 2; omega⟩) (by rw [wI1, if_neg (by omega), wI_16]) (((Ch.wI (Or.inr ⟨rfl, rfl, rfl⟩)).tr (Ch.wI (Or.inr ⟨rfl, rfl, rfl⟩))).tr (Ch.wI (Or.inl ⟨by omega, by omega, rfl⟩)))
  · exact ⟨Or.inl rfl, h1 (by omega)⟩
theorem s_compares {CALL : CT} (hC : RuleAll CALL) {r : Nat} {σ : AM} {K : AV → AM → Prop} {x sg y : Int} (hs : sgOk sg) (x1 : -2147483648 ≤ x) (x2 : x < 2147483648) (y1 : -2147483648 ≤ y) (y2 : y < 2147483648) (h : K (.inl (bI (cmpS sg x y))) σ) : CALL (r + 1) n_Life_compares [.inl (Int32.ofInt x), .inl (Int32.ofInt sg), .inl (Int32.ofInt y)] σ K := by
  refine r_Life_compares hC (fun J hJ => ?_)
  refine hJ _ _ _ _ ?_
  conv => whnf
  unfold sgOk at hs
  have e := ti_oi (a := sg) (by omega) (by omega)
  refine ⟨fun c => ?_, fun c => ⟨fun c2 => ?_, fun c2 => ?_⟩⟩
  · rw [e] at c
    have ec : cmpS sg x y = decide (x < y) := if_pos c
    rw [ec] at h
    refine hJ _ _ _ _ ?_
    conv => whnf
    refine ⟨fun c3 => ?_, fun c3 => ?_⟩ <;> (try simp (disch := omega) only [oi_le, oi_lt, oi_eq, oi_lt0, oi_le0, oi_0lt, oi_0le, oi_eq0, oi_eq1, bI_eq0, bI_ne0, bI_eq1, decide_eq_true_eq, decide_eq_false_iff_not, lc_lt, lc_gt, lc_eq, lc_ge, lc_le, ol_lt, ol_eq, ne_eq, Int.not_lt, Int.not_le, Bool.not_eq_true, Bool.not_eq_false, Decidable.not_not, not_true_eq_false, not_false_eq_true, Bool.true_eq_false, Bool.false_eq_true] at c3) <;> (first | (exfalso; omega) | ((with_reducible refine hJ _ _ _ _ ?_); conv => whnf) | (conv => whnf))
    · refine hJ _ _ _ _ ?_
      conv => whnf
      rw [decide_eq_false (by omega)] at h
      exact ⟨Or.inl rfl, h⟩
    · refine hJ _ _ _ _ ?_
      conv => whnf
      rw [decide_eq_true (by omega)] at h
      exact ⟨Or.inr rfl, h⟩
  · rw [e] at c c2
    have ec : cmpS sg x y = decide (y < x) := by unfold cmpS; rw [if_neg c, if_pos c2]
    rw [ec] at h
    refine hJ _ _ _ _ ?_
    conv => whnf
    refine ⟨fun c3 => ?_, fun c3 => ?_⟩ <;> (try simp (disch := omega) only [oi_le, oi_lt, oi_eq, oi_lt0, oi_le0, oi_0lt, oi_0le, oi_eq0, oi_eq1, bI_eq0, bI_ne0, bI_eq1, decide_eq_true_eq, decide_eq_false_iff_not, lc_lt, lc_gt, lc_eq, lc_ge, lc_le, ol_lt, ol_eq, ne_eq, Int.not_lt, Int.not_le, Bool.not_eq_true, Bool.not_eq_false, Decidable.not_not, not_true_eq_false, not_false_eq_true, Bool.true_eq_false, Bool.false_eq_true] at c3) <;> (first | (exfalso; omega) | ((with_reducible refine hJ _ _ _ _ ?_); conv => whnf) | (conv => whnf))
    · refine hJ _ _ _ _ ?_
      conv => whnf
      rw [decide_eq_false (by omega)] at h
      exact ⟨Or.inl rfl, h⟩
    · refine hJ _ _ _ _ ?_
      conv => whnf
      rw [decide_eq_true (by omega)] at h
      exact ⟨Or.inr rfl, h⟩
  · rw [e] at c c2
    have ec : cmpS sg x y = decide (x = y) := by unfold cmpS; rw [if_neg c, if_neg c2]
    rw [ec] at h
    refine hJ _ _ _ _ ?_
    conv => whnf
    refine ⟨fun c3 => ?_, fun c3 => ?_⟩ <;> (try simp (disch := omega) only [oi_le, oi_lt, oi_eq, oi_lt0, oi_le0, oi_0lt, oi_0le, oi_eq0, oi_eq1, bI_eq0, bI_ne0, bI_eq1, decide_eq_true_eq, decide_eq_false_iff_not, lc_lt, lc_gt, lc_eq, lc_ge, lc_le, ol_lt, ol_eq, ne_eq, Int.not_lt, Int.not_le, Bool.not_eq_true, Bool.not_eq_false, Decidable.not_not, not_true_eq_false, not_false_eq_true, Bool.true_eq_false, Bool.false_eq_true] at c3) <;> (first | (exfalso; omega) | ((with_reducible refine hJ _ _ _ _ ?_); conv => whnf) | (conv => whnf))
    · refine hJ _ _ _ _ ?_
      conv => whnf
      rw [decide_eq_false (by omega)] at h
      exact ⟨Or.inl rfl, h⟩
    · refine hJ _ _ _ _ ?_
      conv => whnf
      rw [decide_eq_true (by omega)] at h
      exact ⟨Or.inr rfl, h⟩
theorem s_lholds {CALL : CT} (hC : RuleAll CALL) {r : Nat} {σ : AM} {K : AV → AM → Prop} {i q p s k : Nat} {d : Nat → Nat → Int} {h0 : Nat → Int} {a b : Int} (hl : LF σ i q p s d) (hr : HRep σ q h0) (hw : WF h0) (hf : StepOk a b (d k)) (h1 : h0 1 = b) (h00 : h0 0 = a) (hk : k < s) (hwh : 1600 ≤ d k 0) (h : K (.inl (bI (holdS (d k) h0))) σ) : CALL (r + 2) n_Life_holds [.inr (.inr (19, i)), .inl (Int32.ofInt k)] σ K := by
  refine r_Life_holds hC (fun J hJ => ?_)
  refine hJ _ _ _ _ ?_
  conv => whnf
  have bb := hw.1
  obtain ⟨l1, l2, l3, l4, l5, l6, l7⟩ := hl
  obtain ⟨s1, s2, s3, s4, s5, s6⟩ := l7 k hk
  obtain ⟨q0, q1, q2, q3, q4, q5, q6, q7, q8, q9, qa, qt, qm, qe⟩ := id hr
  have hf4 := hf.wh hwh
  clear hf
  have s5 := s5 hwh
  rw [l2]
  refine ⟨l4, ?_⟩
  conv => whnf
  refine ⟨(oi_in (by omega) (by omega)).mpr ⟨by omega, by omega⟩, ?_⟩
  conv => whnf
  rw [l2]
  refine ⟨l4, ?_⟩
  conv => whnf
  refine ⟨(oi_in (by omega) (by omega)).mpr ⟨by omega, by omega⟩, ?_⟩
  conv => whnf
  rw [oi_nat (by omega) (by omega), Int.toNat_natCast, s5]
  rcases hf4 with ⟨e8, f1, f2⟩ | ⟨e8, f1, f2⟩ | ⟨e8, f1, f2, f3, f4, f5⟩ | ⟨e8, f1, f2, f3⟩
  · have et : (Int32.ofInt (teC (d k 0))).toInt = 17 := by rw [e8]; decide
    have eh : holdS (d k) h0 = decide (h0 8 = d k 1) := by unfold holdS; rw [if_pos e8]
    rw [eh] at h
    refine ⟨fun c => absurd (et.symm.trans c) (by decide), fun _ => ⟨fun _ => ?_, fun c => absurd et c⟩⟩
    refine hJ _ _ _ _ ?_
    conv => whnf
    rw [l1]
    refine ⟨l3, ?_⟩
    conv => whnf
    rw [s2 (Or.inr (by omega)), q8]
    refine ⟨fun c4 => ?_, fun c4 => ?_⟩ <;> (try simp (disch := omega) only [oi_le, oi_lt, oi_eq, oi_lt0, oi_le0, oi_0lt, oi_0le, oi_eq0, oi_eq1, bI_eq0, bI_ne0, bI_eq1, decide_eq_true_eq, decide_eq_false_iff_not, lc_lt, lc_gt, lc_eq, lc_ge, lc_le, ol_lt, ol_eq, ne_eq, Int.not_lt, Int.not_le, Bool.not_eq_true, Bool.not_eq_false, Decidable.not_not, not_true_eq_false, not_false_eq_true, Bool.true_eq_false, Bool.false_eq_true] at c4) <;> (first | (exfalso; omega) | ((with_reducible refine hJ _ _ _ _ ?_); conv => whnf) | (conv => whnf))
    · refine hJ _ _ _ _ ?_
      conv => whnf
      rw [decide_eq_false c4] at h
      exact ⟨Or.inl rfl, h⟩
    · refine hJ _ _ _ _ ?_
      conv => whnf
      rw [decide_eq_true c4] at h
      exact ⟨Or.inr rfl, h⟩
  · have et : (Int32.ofInt (teC (d k 0))).toInt = 18 := by rw [e8]; decide
    have eh : holdS (d k) h0 = decide (h0 9 = d k 1) := by unfold holdS; rw [if_neg (by omega), if_pos e8]
    rw [eh] at h
    refine ⟨fun c => absurd (et.symm.trans c) (by decide), fun _ => ⟨fun c => absurd (et.symm.trans c) (by decide), fun _ => ⟨fun _ => ?_, fun c => absurd et c⟩⟩⟩
    refine hJ _ _ _ _ ?_
    conv => whnf
    rw [l1]
    refine ⟨l3, ?_⟩
    conv => whnf
    rw [s2 (Or.inr (by omega)), q9]
    refine ⟨fun c4 => ?_, fun c4 => ?_⟩ <;> (try simp (disch := omega) only [oi_le, oi_lt, oi_eq, oi_lt0, oi_le0, oi_0lt, oi_0le, oi_eq0, oi_eq1, bI_eq0, bI_ne0, bI_eq1, decide_eq_true_eq, decide_eq_false_iff_not, lc_lt, lc_gt, lc_eq, lc_ge, lc_le, ol_lt, ol_eq, ne_eq, Int.not_lt, Int.not_le, Bool.not_eq_true, Bool.not_eq_false, Decidable.not_not, not_true_eq_false, not_false_eq_true, Bool.true_eq_false, Bool.false_eq_true] at c4) <;> (first | (exfalso; omega) | ((with_reducible refine hJ _ _ _ _ ?_); conv => whnf) | (conv => whnf))
    · refine hJ _ _ _ _ ?_
      conv => whnf
      rw [decide_eq_false c4] at h
      exact ⟨Or.inl rfl, h⟩
    · refine hJ _ _ _ _ ?_
      conv => whnf
      rw [decide_eq_true c4] at h
      exact ⟨Or.inr rfl, h⟩
  · have et : (Int32.ofInt (teC (d k 0))).toInt = 5 := by rw [e8]; decide
    have eh : holdS (d k) h0 = cmpS (d k 5) (h0 (24 + 7 * (d k 1).toNat)) (d k 2) := by unfold holdS; rw [if_neg (by omega), if_neg (by omega), if_pos e8]
    rw [eh] at h
    obtain ⟨m, em⟩ : ∃ m : Nat, d k 1 = (m : Int) := ⟨(d k 1).toNat, by omega⟩
    have hq := hw.2.2.1 m (by omega)
    rw [em, Int.toNat_natCast] at h
    refine ⟨fun _ => ?_, fun c => absurd et c⟩
    refine hJ _ _ _ _ ?_
    conv => whnf
    rw [l1]
    refine ⟨l3, ?_⟩
    conv => whnf
    rw [s2 (Or.inr (by omega)), em]
    refine ⟨(oi_in (by omega) (by omega)).mpr ⟨by omega, by omega⟩, ?_⟩
    conv => whnf
    rw [oi_nat (by omega) (by omega), Int.toNat_natCast, (qm m (by omega)).1, l2]
    refine ⟨l4, ?_⟩
    conv => whnf
    refine ⟨(oi_in (by omega) (by omega)).mpr ⟨by omega, by omega⟩, ?_⟩
    conv => whnf
    rw [l2]
    refine ⟨l4, ?_⟩
    conv => whnf
    refine ⟨(oi_in (by omega) (by omega)).mpr ⟨by omega, by omega⟩, ?_⟩
    conv => whnf
    rw [oi_nat (by omega) (by omega), Int.toNat_natCast, (s4 (Or.inl e8)).1, (s4 (Or.inl e8)).2]
    refine s_compares hC f5 (by omega) (by omega) (by omega) (by omega) ?_
    conv => whnf
    exact ⟨bI_01 _, h⟩
  · have et : (Int32.ofInt (teC (d k 0))).toInt = 19 := by rw [e8]; decide
    have eh : holdS (d k) h0 = cmpS (d k 5) (h0 6) (d k 2) := by unfold holdS; rw [if_neg (by omega), if_neg (by omega), if_neg (by omega)]
    rw [eh] at h
    refine ⟨fun c => absurd (et.symm.trans c) (by decide), fun _ => ⟨fun c => absurd (et.symm.trans c) (by decide), fun _ => ⟨fun c => absurd (et.symm.trans c) (by decide), fun _ => ?_⟩⟩⟩
    refine hJ _ _ _ _ ?_
    conv => whnf
    rw [l1]
    refine ⟨l3, ?_⟩
    conv => whnf
    rw [q6, l2]
    refine ⟨l4, ?_⟩
    conv => whnf
    refine ⟨(oi_in (by omega) (by omega)).mpr ⟨by omega, by omega⟩, ?_⟩
    conv => whnf
    rw [l2]
    refine ⟨l4, ?_⟩
    conv => whnf
    refine ⟨(oi_in (by omega) (by omega)).mpr ⟨by omega, by omega⟩, ?_⟩
    conv => whnf
    rw [oi_nat (by omega) (by omega), Int.toNat_natCast, (s4 (Or.inr e8)).1, (s4 (Or.inr e8)).2]
    refine s_compares hC f3 (by omega) (by omega) (by omega) (by omega) ?_
    conv => whnf
    exact ⟨bI_01 _, h⟩
