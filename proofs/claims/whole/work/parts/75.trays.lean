/-! trays -/
theorem MarkR.c2 {σ σ' : AM} (hm : MarkR σ) (e15 : σ'.1 1 0 15 = σ.1 1 0 15) (e46 : σ'.1 46 0 46 = σ.1 46 0 46) (e1 : ∀ t i j, (22 ≤ t ∧ t ≤ 36 ∧ 6 ≤ i) ∨ (37 ≤ t ∧ t ≤ 43 ∧ 2 ≤ i) ∨ (t = 47 ∧ 465 ≤ j ∧ j < 1860) → σ'.1 t i j = σ.1 t i j) (e2 : ∀ t i j, (22 ≤ t ∧ t ≤ 36 ∧ 6 ≤ i) ∨ (t = 48 ∧ 13 ≤ j ∧ j < 52) → σ'.2.1 t i j = σ.2.1 t i j) : MarkR σ' := by
  obtain ⟨k, h1, h2, h3, h4⟩ := hm
  refine ⟨k, h1, by rw [e15, h2], by rw [e46, h3], fun i hi => ?_⟩
  obtain ⟨h, hh⟩ := h4 i hi
  refine ⟨h, hh.cg (fun t j hin => e1 _ _ _ ?_) (fun t j hin => e2 _ _ _ ?_) (fun j hj => e1 _ _ _ ?_) (fun j hj => e2 _ _ _ ?_) (e1 _ _ _ ?_) (e1 _ _ _ ?_) (fun k _ t a b => e1 _ _ _ ?_)⟩
  · unfold inHI at hin; omega
  · unfold inHL at hin; omega
  · omega
  · omega
  · omega
  · omega
  · omega
theorem TapeR.c2 {σ σ' : AM} (hm : TapeR σ) (e3 : σ'.1 3 0 2 = σ.1 3 0 2) (e46 : σ'.1 46 0 10 = σ.1 46 0 10) (e4 : ∀ j, σ'.1 4 0 j = σ.1 4 0 j) (e52 : ∀ j, σ'.1 52 0 j = σ.1 52 0 j) : TapeR σ' := by
  obtain ⟨k, h1, h2, h3, h4⟩ := hm
  refine ⟨k, h1, by rw [e3, h2], by rw [e46, h3], fun j hj => ?_⟩
  rw [e4, e52]
  exact h4 j hj
theorem FltR.c2 {σ σ' : AM} (hm : FltR σ) (e3 : σ'.1 3 0 3 = σ.1 3 0 3) (e4 : σ'.1 3 0 4 = σ.1 3 0 4) (e16 : σ'.1 46 0 16 = σ.1 46 0 16) (e17 : σ'.1 46 0 17 = σ.1 46 0 17) : FltR σ' := by
  unfold FltR
  rw [e3, e4, e16, e17]
  exact hm
theorem LifeR.c2 {σ σ' : AM} (hm : LifeR σ) (a : ∀ j, 4 ≤ j → σ'.1 19 0 j = σ.1 19 0 j) (b : ∀ j, σ'.1 66 0 j = σ.1 66 0 j) (e45 : σ'.1 46 0 45 = σ.1 46 0 45) : LifeR σ' := by
  unfold LifeR at hm ⊢
  rw [a 5 (by omega), a 6 (by omega), a 7 (by omega), a 8 (by omega), a 9 (by omega), a 10 (by omega), b, b, b, b, b, e45]
  exact hm
theorem FracR.c2 {σ σ' : AM} (hm : FracR σ) (a : σ'.2.1 1 0 17 = σ.2.1 1 0 17) (b : σ'.2.1 1 0 18 = σ.2.1 1 0 18) (c : σ'.2.1 46 0 3 = σ.2.1 46 0 3) (d : σ'.2.1 46 0 4 = σ.2.1 46 0 4) : FracR σ' := by
  unfold FracR at hm ⊢
  rw [a, b, c, d]
  exact hm
theorem KeyR.c2 {σ σ' : AM} (hm : KeyR σ) (e : ∀ j, σ'.2.1 5 0 j = σ.2.1 5 0 j) : KeyR σ' := fun i hi => by
  rw [e]
  exact hm i hi
/-- what a change of the trays may change -/
def TyC (σ σ' : AM) : Prop := (∀ t i j, ¬ (t = 44 ∨ t = 49 ∨ t = 50 ∨ (t = 1 ∧ i = 0 ∧ j = 16) ∨ (t = 46 ∧ i = 0 ∧ j = 2)) → σ'.1 t i j = σ.1 t i j) ∧ (∀ t i j, t ≠ 45 → t ≠ 51 → σ'.2.1 t i j = σ.2.1 t i j) ∧ σ'.2.2 = σ.2.2
theorem TyC.rf {σ : AM} : TyC σ σ := ⟨fun _ _ _ _ => rfl, fun _ _ _ _ _ => rfl, rfl⟩
theorem TyC.tr {σ σ' σ'' : AM} (h : TyC σ σ') (h2 : TyC σ' σ'') : TyC σ σ'' := ⟨fun t i j q => (h2.1 t i j q).trans (h.1 t i j q), fun t i j a b => (h2.2.1 t i j a b).trans (h.2.1 t i j a b), h2.2.2.trans h.2.2⟩
theorem TyC.wI {σ : AM} {t i j : Nat} {x : Int32} (h : t = 44 ∨ t = 49 ∨ t = 50 ∨ (t = 1 ∧ i = 0 ∧ j = 16) ∨ (t = 46 ∧ i = 0 ∧ j = 2)) : TyC σ (wI σ t i j x) := ⟨fun t' i' j' q => by rw [wI1, if_neg (fun z => q (by rw [z.1, z.2.1, z.2.2]; exact h))], fun _ _ _ _ _ => rfl, rfl⟩
theorem TyC.wL {σ : AM} {t i j : Nat} {x : Int64} (h : t = 45 ∨ t = 51) : TyC σ (wL σ t i j x) := ⟨fun _ _ _ _ => rfl, fun t' i' j' a b => by rw [wL1, if_neg (by omega)], rfl⟩
theorem Rel.tray {σ σ' : AM} (hR : Rel σ) (hc : TyC σ σ') (ht : TrayR σ') (st : σ'.1 1 0 16 = σ'.1 46 0 2) : Rel σ' := by
  obtain ⟨⟨n, p, h, n45, hp, r1, r2, r3, r4, hh⟩, ⟨b1, b2, b3, b4, b5, b6, b7⟩, -⟩ := hR
  obtain ⟨s1, s2, s3⟩ := hc
  refine ⟨⟨n, p, h, n45, hp, by rw [s3, r1], by rw [s3, r2], by rw [s3, r3], by rw [s3, r4], ?_⟩, ⟨?_, ht, ?_, ?_, ?_, ?_, ?_⟩, st⟩
  · refine hh.cg (fun t j hin => s1 _ _ _ ?_) (fun t j hin => s2 _ _ _ ?_ ?_) (fun j hj => s1 _ _ _ ?_) (fun j hj => s2 _ _ _ ?_ ?_) (s1 _ _ _ ?_) (s1 _ _ _ ?_) (fun k _ t a b => s1 _ _ _ ?_)
    · unfold inHI at hin; omega
    · unfold inHL at hin; omega
    · unfold inHL at hin; omega
    all_goals omega
  · exact b1.c2 (s1 _ _ _ (by omega)) (s1 _ _ _ (by omega)) (fun t i j q => s1 _ _ _ (by omega)) (fun t i j q => s2 _ _ _ (by omega) (by omega))
  · exact b3.c2 (s1 _ _ _ (by omega)) (s1 _ _ _ (by omega)) (fun j => s1 _ _ _ (by omega)) (fun j => s1 _ _ _ (by omega))
  · exact b4.c2 (s1 _ _ _ (by omega)) (s1 _ _ _ (by omega)) (s1 _ _ _ (by omega)) (s1 _ _ _ (by omega))
  · exact b5.c2 (fun j _ => s1 _ _ _ (by omega)) (fun j => s1 _ _ _ (by omega)) (s1 _ _ _ (by omega))
  · exact b6.c2 (s2 _ _ _ (by omega) (by omega)) (s2 _ _ _ (by omega) (by omega)) (s2 _ _ _ (by omega) (by omega)) (s2 _ _ _ (by omega) (by omega))
  · exact b7.c2 (fun j => s2 _ _ _ (by omega) (by omega))
/-- trays by how many and what sort -/
def TrM (σ : AM) (M S : Nat → Int) : Prop := ∀ t, t < 4 → σ.1 50 0 t = Int32.ofInt (M t) ∧ ((M t = -1 ∧ σ.1 44 t 1 = Int32.ofInt 0) ∨ (0 ≤ M t ∧ M t ≤ 60 ∧ 0 ≤ S t ∧ S t ≤ 3 ∧ σ.1 44 t 1 = Int32.ofInt 1 ∧ σ.1 44 t 2 = Int32.ofInt (S t) ∧ σ.1 49 0 t = Int32.ofInt (S t) ∧ σ.1 44 t 3 = Int32.ofInt (M t) ∧ ∀ j : Nat, (j : Int) < M t → σ.2.1 45 t j = σ.2.1 51 0 (60 * t + j)))
theorem TrayR.tm {σ : AM} (h : TrayR σ) : ∃ M S, TrM σ M S := by
  refine ⟨fun t => (σ.1 50 0 t).toInt, fun t => (σ.1 49 0 t).toInt, fun t ht => ?_⟩
  dsimp only
  refine ⟨(oi_ti _).symm, ?_⟩
  rcases h t ht with ⟨h1, h2⟩ | ⟨s, k, h1, h2, h3, h4, h5, h6, h7, h8⟩
  · exact Or.inl ⟨by rw [h2]; exact ti_oi (by omega) (by omega), h1⟩
  · have e1 : (σ.1 50 0 t).toInt = (k : Int) := by rw [h7]; exact ti_oi (by omega) (by omega)
    have e2 : (σ.1 49 0 t).toInt = (s : Int) := by rw [h5]; exact ti_oi (by omega) (by omega)
    refine Or.inr ⟨by rw [e1]; omega, by rw [e1]; omega, by rw [e2]; omega, by rw [e2]; omega, h3, by rw [e2]; exact h4, by rw [e2]; exact h5, by rw [e1]; exact h6, fun j hj => h8 j (by rw [e1] at hj; omega)⟩
theorem TrM.tr {σ : AM} {M S : Nat → Int} (h : TrM σ M S) : TrayR σ := by
  intro t ht
  obtain ⟨h1, h2⟩ := h t ht
  rcases h2 with ⟨h2, h3⟩ | ⟨g1, g2, g3, g4, g5, g6, g7, g8, g9⟩
  · exact Or.inl ⟨h3, by rw [h1, h2]⟩
  · obtain ⟨k, hk⟩ : ∃ k : Nat, M t = (k : Int) := ⟨(M t).toNat, by omega⟩
    obtain ⟨s, hs⟩ : ∃ s : Nat, S t = (s : Int) := ⟨(S t).toNat, by omega⟩
    rw [hk] at h1 g8 g9
    rw [hs] at g6 g7
    exact Or.inr ⟨s, k, by omega, by omega, g5, g6, g7, g8, h1, fun j hj => g9 j (by omega)⟩
theorem TrM.c {σ : AM} {M S : Nat → Int} {x : Int32} (h : TrM σ M S) : TrM (wI σ 1 0 16 x) M S := by
  intro t ht
  have e : ∀ t' i j, t' ≠ 1 → (wI σ 1 0 16 x).1 t' i j = σ.1 t' i j := fun t' i j q => by rw [wI1, if_neg (by omega)]
  rw [e 50 _ _ (by omega), e 44 _ _ (by omega), e 44 _ _ (by omega), e 44 _ _ (by omega), e 49 _ _ (by omega)]
  exact h t ht
theorem TrM.bd {σ : AM} {M S : Nat → Int} (h : TrM σ M S) {t : Nat} (ht : t < 4) : -1 ≤ M t ∧ M t ≤ 60 := by
  rcases (h t ht).2 with h1 | h1 <;> omega
theorem s_isTray {CALL : CT} (hC : RuleAll CALL) {r : Nat} {σ : AM} {K : AV → AM → Prop} {z : Int} (z1 : -2147483648 ≤ z) (z2 : z < 2147483648) (h : K (.inl (bI (decide (0 ≤ z ∧ z ≤ 3)))) σ) : CALL (r + 2) n_x_isTray [.inr (.inr (1, 0)), .inl (Int32.ofInt z)] σ K := by
  refine r_x_isTray hC (fun J hJ => ?_)
  refine hJ _ _ _ _ ?_
  conv => whnf
  refine s_withinI hC (by omega) (by omega) (by omega) (by omega) (by omega) (by omega) ?_
  conv => whnf
  exact ⟨bI_01 _, h⟩
theorem s_m_isTray {CALL : CT} (hC : RuleAll CALL) {r : Nat} {σ : AM} {K : AV → AM → Prop} {z : Int} (z1 : -2147483648 ≤ z) (z2 : z < 2147483648) (h : K (.inl (bI (decide (0 ≤ z ∧ z ≤ 3)))) σ) : CALL (r + 1) n_m_isTray [.inl (Int32.ofInt z)] σ K := by
  refine r_m_isTray hC (fun J hJ => ?_)
  refine hJ _ _ _ _ ?_
  conv => whnf
  refine ⟨fun c => ?_, fun c => ?_⟩ <;> (try simp (disch := omega) only [oi_le, oi_lt, oi_eq, oi_lt0, oi_le0, oi_0lt, oi_0le, oi_eq0, oi_eq1, bI_eq0, bI_ne0, bI_eq1, decide_eq_true_eq, decide_eq_false_iff_not, lc_lt, lc_gt, lc_eq, lc_ge, lc_le, ol_lt, ol_eq, ne_eq, Int.not_lt, Int.not_le, Bool.not_eq_true, Bool.not_eq_false, Decidable.not_not, not_true_eq_false, not_false_eq_true, Bool.true_eq_false, Bool.false_eq_true] at c) <;> (first | (exfalso; omega) | ((with_reducible refine hJ _ _ _ _ ?_); conv => whnf) | (conv => whnf))
  · refine hJ _ _ _ _ ?_
    conv => whnf
    rw [show decide (0 ≤ z ∧ z ≤ 3) = false from decide_eq_false (by omega)] at h
    exact ⟨Or.inl rfl, h⟩
  · refine ⟨fun c2 => ?_, fun c2 => ?_⟩ <;> (try simp (disch := omega) only [oi_le, oi_lt, oi_eq, oi_lt0, oi_le0, oi_0lt, oi_0le, oi_eq0, oi_eq1, bI_eq0, bI_ne0, bI_eq1, decide_eq_true_eq, decide_eq_false_iff_not, lc_lt, lc_gt, lc_eq, lc_ge, lc_le, ol_lt, ol_eq, ne_eq, Int.not_lt, Int.not_le, Bool.not_eq_true, Bool.not_eq_false, Decidable.not_not, not_true_eq_false, not_false_eq_true, Bool.true_eq_false, Bool.false_eq_true] at c2) <;> (first | (exfalso; omega) | ((with_reducible refine hJ _ _ _ _ ?_); conv => whnf) | (conv => whnf))
    · refine hJ _ _ _ _ ?_
      conv => whnf
      rw [show decide (0 ≤ z ∧ z ≤ 3) = false from decide_eq_false (by omega)] at h
      exact ⟨Or.inl rfl, h⟩
    · refine hJ _ _ _ _ ?_
      conv => whnf
      rw [show decide (0 ≤ z ∧ z ≤ 3) = true from decide_eq_true (by omega)] at h
      exact ⟨Or.inr rfl, h⟩
def plS (M : Nat → Int) (z y : Int) : Int := if ¬ (0 ≤ z ∧ z ≤ 3) then 1 else if M z.toNat = -1 then 2 else if 0 ≤ y ∧ y < M z.toNat then 0 else 3
theorem s_placeStatus {CALL : CT} (hC : RuleAll CALL) {r : Nat} {σ : AM} {K : AV → AM → Prop} {M S : Nat → Int} {z y : Int} (ht : TrM σ M S) (z1 : -2147483648 ≤ z) (z2 : z < 2147483648) (y1 : -2147483648 ≤ y) (y2 : y < 2147483648) (h : K (.inl (Int32.ofInt (plS M z y))) σ) : CALL (r + 3) n_x_placeStatus [.inr (.inr (1, 0)), .inl (Int32.ofInt z), .inl (Int32.ofInt y)] σ K := by
  refine r_x_placeStatus hC (fun J hJ => ?_)
  refine hJ _ _ _ _ ?_
  conv => whnf
  refine s_isTray hC z1 z2 ?_
  conv => whnf
  refine ⟨fun c => ?_, fun c => ?_⟩ <;> (try simp (disch := omega) only [oi_le, oi_lt, oi_eq, oi_lt0, oi_le0, oi_0lt, oi_0le, oi_eq0, oi_eq1, bI_eq0, bI_ne0, bI_eq1, decide_eq_true_eq, decide_eq_false_iff_not, lc_lt, lc_gt, lc_eq, lc_ge, lc_le, ol_lt, ol_eq, ne_eq, Int.not_lt, Int.not_le, Bool.not_eq_true, Bool.not_eq_false, Decidable.not_not, not_true_eq_false, not_false_eq_true, Bool.true_eq_false, Bool.false_eq_true] at c) <;> (first | (exfalso; omega) | ((with_reducible refine hJ _ _ _ _ ?_); conv => whnf) | (conv => whnf))
  · obtain ⟨t, rfl⟩ : ∃ t : Nat, z = (t : Int) := ⟨z.toNat, by omega⟩
    have e : plS M (t : Int) y = if M t = -1 then 2 else if 0 ≤ y ∧ y < M t then 0 else 3 := by
      unfold plS
      rw [if_neg (fun q => q c), Int.toNat_natCast]
    rw [e] at h
    refine ⟨(oi_in (by omega) (by omega)).mpr ⟨by omega, by omega⟩, ?_⟩
    conv => whnf
    rw [oi_nat (by omega) (by omega), Int.toNat_natCast, Nat.zero_add]
    rcases (ht t (by omega)).2 with ⟨g1, g2⟩ | ⟨g1, g2, g3, g4, g5, g6, g7, g8, g9⟩
    · rw [g2]
      refine ⟨fun c2 => ?_, fun c2 => ?_⟩ <;> (try simp (disch := omega) only [oi_le, oi_lt, oi_eq, oi_lt0, oi_le0, oi_0lt, oi_0le, oi_eq0, oi_eq1, bI_eq0, bI_ne0, bI_eq1, decide_eq_true_eq, decide_eq_false_iff_not, lc_lt, lc_gt, lc_eq, lc_ge, lc_le, ol_lt, ol_eq, ne_eq, Int.not_lt, Int.not_le, Bool.not_eq_true, Bool.not_eq_false, Decidable.not_not, not_true_eq_false, not_false_eq_true, Bool.true_eq_false, Bool.false_eq_true] at c2) <;> (first | (exfalso; omega) | ((with_reducible refine hJ _ _ _ _ ?_); conv => whnf) | (conv => whnf))
      rw [if_pos g1] at h
      exact h
    · rw [g5]
      rw [if_neg (by omega)] at h
      refine ⟨fun c2 => ?_, fun c2 => ?_⟩ <;> (try simp (disch := omega) only [oi_le, oi_lt, oi_eq, oi_lt0, oi_le0, oi_0lt, oi_0le, oi_eq0, oi_eq1, bI_eq0, bI_ne0, bI_eq1, decide_eq_true_eq, decide_eq_false_iff_not, lc_lt, lc_gt, lc_eq, lc_ge, lc_le, ol_lt, ol_eq, ne_eq, Int.not_lt, Int.not_le, Bool.not_eq_true, Bool.not_eq_false, Decidable.not_not, not_true_eq_false, not_false_eq_true, Bool.true_eq_false, Bool.false_eq_true] at c2) <;> (first | (exfalso; omega) | ((with_reducible refine hJ _ _ _ _ ?_); conv => whnf) | (conv => whnf))
      refine ⟨(oi_in (by omega) (by omega)).mpr ⟨by omega, by omega⟩, ?_⟩
      conv => whnf
      rw [oi_nat (by omega) (by omega), Int.toNat_natCast, Nat.zero_add, g8, oi_sub]
      refine s_withinI hC (by omega) (by omega) (by omega) (by omega) (by omega) (by omega) ?_
      conv => whnf
      refine ⟨fun c3 => ?_, fun c3 => ?_⟩ <;> (try simp (disch := omega) only [oi_le, oi_lt, oi_eq, oi_lt0, oi_le0, oi_0lt, oi_0le, oi_eq0, oi_eq1, bI_eq0, bI_ne0, bI_eq1, decide_eq_true_eq, decide_eq_false_iff_not, lc_lt, lc_gt, lc_eq, lc_ge, lc_le, ol_lt, ol_eq, ne_eq, Int.not_lt, Int.not_le, Bool.not_eq_true, Bool.not_eq_false, Decidable.not_not, not_true_eq_false, not_false_eq_true, Bool.true_eq_false, Bool.false_eq_true] at c3) <;> (first | (exfalso; omega) | ((with_reducible refine hJ _ _ _ _ ?_); conv => whnf) | (conv => whnf))
      · refine hJ _ _ _ _ ?_
        conv => whnf
        rw [if_neg (by omega)] at h
        exact h
      · refine hJ _ _ _ _ ?_
        conv => whnf
        rw [if_pos (by omega)] at h
        exact h
  · have e : plS M z y = 1 := if_pos c
    rw [e] at h
    exact h
def TmM (σ : AM) (M S : Nat → Int) : Prop := ∀ t, t < 4 → σ.1 50 0 t = Int32.ofInt (M t) ∧ -1 ≤ M t ∧ M t ≤ 60 ∧ (M t ≠ -1 → σ.1 49 0 t = Int32.ofInt (S t) ∧ 0 ≤ S t ∧ S t ≤ 3)
theorem TrM.m {σ : AM} {M S : Nat → Int} (h : TrM σ M S) : TmM σ M S := by
  intro t ht
  obtain ⟨h1, h2⟩ := h t ht
  rcases h2 with ⟨h2, h3⟩ | ⟨g1, g2, g3, g4, g5, g6, g7, g8, g9⟩
  · exact ⟨h1, by omega, by omega, fun q => absurd h2 q⟩
  · exact ⟨h1, by omega, by omega, fun _ => ⟨g7, g3, g4⟩⟩
theorem TmM.cg {σ σ' : AM} {M S : Nat → Int} (h : TmM σ M S) (e1 : ∀ j, σ'.1 50 0 j = σ.1 50 0 j) (e2 : ∀ j, σ'.1 49 0 j = σ.1 49 0 j) : TmM σ' M S := by
  intro t ht
  rw [e1, e2]
  exact h t ht
theorem TmM.c {σ : AM} {M S : Nat → Int} {x : Int32} (h : TmM σ M S) : TmM (wI σ 1 0 16 x) M S := h.cg (fun j => by rw [wI1, if_neg (by omega)]) (fun j => by rw [wI1, if_neg (by omega)])
theorem s_m_wrongPlace {CALL : CT} (hC : RuleAll CALL) {r : Nat} {σ : AM} {K : AV → AM → Prop} {M S : Nat → Int} {z y : Int} (ht : TmM σ M S) (z1 : -2147483648 ≤ z) (z2 : z < 2147483648) (y1 : -2147483648 ≤ y) (y2 : y < 2147483648) (h : K (.inl (Int32.ofInt (plS M z y))) σ) : CALL (r + 2) n_m_wrongPlace [.inr (.inr (46, 0)), .inl (Int32.ofInt z), .inl (Int32.ofInt y)] σ K := by
  refine r_m_wrongPlace hC (fun J hJ => ?_)
  refine hJ _ _ _ _ ?_
  conv => whnf
  refine s_m_isTray hC z1 z2 ?_
  conv => whnf
  refine ⟨fun c => ?_, fun c => ?_⟩ <;> (try simp (disch := omega) only [oi_le, oi_lt, oi_eq, oi_lt0, oi_le0, oi_0lt, oi_0le, oi_eq0, oi_eq1, bI_eq0, bI_ne0, bI_eq1, decide_eq_true_eq, decide_eq_false_iff_not, lc_lt, lc_gt, lc_eq, lc_ge, lc_le, ol_lt, ol_eq, ne_eq, Int.not_lt, Int.not_le, Bool.not_eq_true, Bool.not_eq_false, Decidable.not_not, not_true_eq_false, not_false_eq_true, Bool.true_eq_false, Bool.false_eq_true] at c) <;> (first | (exfalso; omega) | ((with_reducible refine hJ _ _ _ _ ?_); conv => whnf) | (conv => whnf))
  · obtain ⟨t, rfl⟩ : ∃ t : Nat, z = (t : Int) := ⟨z.toNat, by omega⟩
    have bd := (ht t (by omega)).2
    have e50 := (ht t (by omega)).1
    have e : plS M (t : Int) y = if M t = -1 then 2 else if 0 ≤ y ∧ y < M t then 0 else 3 := by
      unfold plS
      rw [if_neg (fun q => q c), Int.toNat_natCast]
    rw [e] at h
    refine ⟨(oi_in (by omega) (by omega)).mpr ⟨by omega, by omega⟩, ?_⟩
    conv => whnf
    rw [oi_nat (by omega) (by omega), Int.toNat_natCast, e50]
    refine ⟨fun c2 => ?_, fun c2 => ?_⟩ <;> (try simp (disch := omega) only [oi_le, oi_lt, oi_eq, oi_lt0, oi_le0, oi_0lt, oi_0le, oi_eq0, oi_eq1, bI_eq0, bI_ne0, bI_eq1, decide_eq_true_eq, decide_eq_false_iff_not, lc_lt, lc_gt, lc_eq, lc_ge, lc_le, ol_lt, ol_eq, ne_eq, Int.not_lt, Int.not_le, Bool.not_eq_true, Bool.not_eq_false, Decidable.not_not, not_true_eq_false, not_false_eq_true, Bool.true_eq_false, Bool.false_eq_true] at c2) <;> (first | (exfalso; omega) | ((with_reducible refine hJ _ _ _ _ ?_); conv => whnf) | (conv => whnf))
    · have fin : ¬ (0 ≤ y ∧ y < M t) → J 39 [.inr (.inr (46, 0)), .inl (Int32.ofInt (t : Int)), .inl (Int32.ofInt y)] [] σ := by
        intro q
        refine hJ _ _ _ _ ?_
        conv => whnf
        refine hJ _ _ _ _ ?_
        conv => whnf
        rw [if_neg c2, if_neg q] at h
        exact h
      refine ⟨fun c3 => ?_, fun c3 => ?_⟩ <;> (try simp (disch := omega) only [oi_le, oi_lt, oi_eq, oi_lt0, oi_le0, oi_0lt, oi_0le, oi_eq0, oi_eq1, bI_eq0, bI_ne0, bI_eq1, decide_eq_true_eq, decide_eq_false_iff_not, lc_lt, lc_gt, lc_eq, lc_ge, lc_le, ol_lt, ol_eq, ne_eq, Int.not_lt, Int.not_le, Bool.not_eq_true, Bool.not_eq_false, Decidable.not_not, not_true_eq_false, not_false_eq_true, Bool.true_eq_false, Bool.false_eq_true] at c3) <;> (first | (exfalso; omega) | ((fail_if_success with_reducible refine hJ _ _ _ _ ?_); conv => whnf) | skip)
      · exact fin (by omega)
      · refine ⟨(oi_in (by omega) (by omega)).mpr ⟨by omega, by omega⟩, ?_⟩
        conv => whnf
        rw [oi_nat (by omega) (by omega), Int.toNat_natCast, e50]
        refine ⟨fun c4 => ?_, fun c4 => ?_⟩ <;> (try simp (disch := omega) only [oi_le, oi_lt, oi_eq, oi_lt0, oi_le0, oi_0lt, oi_0le, oi_eq0, oi_eq1, bI_eq0, bI_ne0, bI_eq1, decide_eq_true_eq, decide_eq_false_iff_not, lc_lt, lc_gt, lc_eq, lc_ge, lc_le, ol_lt, ol_eq, ne_eq, Int.not_lt, Int.not_le, Bool.not_eq_true, Bool.not_eq_false, Decidable.not_not, not_true_eq_false, not_false_eq_true, Bool.true_eq_false, Bool.false_eq_true] at c4) <;> (first | (exfalso; omega) | ((fail_if_success with_reducible refine hJ _ _ _ _ ?_); conv => whnf) | skip)
        · refine hJ _ _ _ _ ?_
          conv => whnf
          refine hJ _ _ _ _ ?_
          conv => whnf
          rw [if_neg c2, if_pos (by omega)] at h
          exact h
        · exact fin (by omega)
    · refine hJ _ _ _ _ ?_
      conv => whnf
      rw [if_pos c2] at h
      exact h
  · refine hJ _ _ _ _ ?_
    conv => whnf
    have e : plS M z y = 1 := if_pos c
    rw [e] at h
    exact h
def cutS (s : Int) (v : Int64) : Int64 := if s = 0 then v.toInt32.toInt8.toInt32.toInt64 else if s = 1 then v.toInt32.toInt16.toInt32.toInt64 else if s = 2 then v.toInt32.toInt64 else v
theorem s_cut {CALL : CT} (hC : RuleAll CALL) {r : Nat} {σ : AM} {K : AV → AM → Prop} {t : Nat} {s : Int} {v : Int64} (hs : σ.1 44 t 2 = Int32.ofInt s) (s1 : 0 ≤ s) (s2 : s ≤ 3) (h : K (.inr (.inl (cutS s v))) σ) : CALL (r + 1) n_Tray_cut [.inr (.inr (44, t)), .inr (.inl v)] σ K := by
  refine r_Tray_cut hC (fun J hJ => ?_)
  refine hJ _ _ _ _ ?_
  conv => whnf
  rw [hs]
  have e := ti_oi (a := s) (by omega) (by omega)
  unfold cutS at h
  refine ⟨⟨fun q => ?_, fun q => ?_, fun q => ?_, trivial⟩, fun q => ?_⟩
  all_goals rw [e] at q
  · refine hJ _ _ _ _ ?_
    conv => whnf
    rw [if_pos q] at h
    exact h
  · refine hJ _ _ _ _ ?_
    conv => whnf
    rw [if_neg (by omega), if_pos (by omega)] at h
    exact h
  · refine hJ _ _ _ _ ?_
    conv => whnf
    rw [if_neg (by omega), if_neg (by omega), if_pos (by omega)] at h
    exact h
  · refine hJ _ _ _ _ ?_
    conv => whnf
    rw [if_neg (by omega), if_neg (by omega), if_neg (by omega)] at h
    exact h
theorem s_m_cut {CALL : CT} (hC : RuleAll CALL) {r : Nat} {σ : AM} {K : AV → AM → Prop} {s : Int} {v : Int64} (s1 : 0 ≤ s) (s2 : s ≤ 3) (h : K (.inr (.inl (cutS s v))) σ) : CALL (r + 1) n_m_cut [.inr (.inl v), .inl (Int32.ofInt s)] σ K := by
  refine r_m_cut hC (fun J hJ => ?_)
  refine hJ _ _ _ _ ?_
  conv => whnf
  unfold cutS at h
  refine ⟨fun c => ?_, fun c => ?_⟩ <;> (try simp (disch := omega) only [oi_le, oi_lt, oi_eq, oi_lt0, oi_le0, oi_0lt, oi_0le, oi_eq0, oi_eq1, bI_eq0, bI_ne0, bI_eq1, decide_eq_true_eq, decide_eq_false_iff_not, lc_lt, lc_gt, lc_eq, lc_ge, lc_le, ol_lt, ol_eq, ne_eq, Int.not_lt, Int.not_le, Bool.not_eq_true, Bool.not_eq_false, Decidable.not_not, not_true_eq_false, not_false_eq_true, Bool.true_eq_false, Bool.false_eq_true] at c) <;> (first | (exfalso; omega) | ((with_reducible refine hJ _ _ _ _ ?_); conv => whnf) | (conv => whnf))
  · refine ⟨fun c2 => ?_, fun c2 => ?_⟩ <;> (try simp (disch := omega) only [oi_le, oi_lt, oi_eq, oi_lt0, oi_le0, oi_0lt, oi_0le, oi_eq0, oi_eq1, bI_eq0, bI_ne0, bI_eq1, decide_eq_true_eq, decide_eq_false_iff_not, lc_lt, lc_gt, lc_eq, lc_ge, lc_le, ol_lt, ol_eq, ne_eq, Int.not_lt, Int.not_le, Bool.not_eq_true, Bool.not_eq_false, Decidable.not_not, not_true_eq_false, not_false_eq_true, Bool.true_eq_false, Bool.false_eq_true] at c2) <;> (first | (exfalso; omega) | ((with_reducible refine hJ _ _ _ _ ?_); conv => whnf) | (conv => whnf))
    · refine ⟨fun c3 => ?_, fun c3 => ?_⟩ <;> (try simp (disch := omega) only [oi_le, oi_lt, oi_eq, oi_lt0, oi_le0, oi_0lt, oi_0le, oi_eq0, oi_eq1, bI_eq0, bI_ne0, bI_eq1, decide_eq_true_eq, decide_eq_false_iff_not, lc_lt, lc_gt, lc_eq, lc_ge, lc_le, ol_lt, ol_eq, ne_eq, Int.not_lt, Int.not_le, Bool.not_eq_true, Bool.not_eq_false, Decidable.not_not, not_true_eq_false, not_false_eq_true, Bool.true_eq_false, Bool.false_eq_true] at c3) <;> (first | (exfalso; omega) | ((with_reducible refine hJ _ _ _ _ ?_); conv => whnf) | (conv => whnf))
      · refine hJ _ _ _ _ ?_
        conv => whnf
        rw [if_neg (by omega), if_neg (by omega), if_neg (by omega)] at h
        exact h
      · refine hJ _ _ _ _ ?_
        conv => whnf
        rw [if_neg (by omega), if_neg (by omega), if_pos (by omega)] at h
        exact h
    · refine hJ _ _ _ _ ?_
      conv => whnf
      rw [if_neg (by omega), if_pos (by omega)] at h
      exact h
  · refine hJ _ _ _ _ ?_
    conv => whnf
    rw [if_pos c] at h
    exact h
theorem s_put {CALL : CT} (hC : RuleAll CALL) {r : Nat} {σ : AM} {K : AV → AM → Prop} {t k : Nat} {s : Int} {v : Int64} (hs : σ.1 44 t 2 = Int32.ofInt s) (s1 : 0 ≤ s) (s2 : s ≤ 3) (hk : k < 60) (h : K unset (wL σ 45 t k (cutS s v))) : CALL (r + 2) n_Tray_put [.inr (.inr (44, t)), .inl (Int32.ofInt k), .inr (.inl v)] σ K := by
  refine r_Tray_put hC (fun J hJ => ?_)
  refine hJ _ _ _ _ ?_
  conv => whnf
  refine s_cut hC hs s1 s2 ?_
  conv => whnf
  refine ⟨(oi_in (by omega) (by omega)).mpr ⟨by omega, by omega⟩, ?_⟩
  conv => whnf
  rw [oi_nat (by omega) (by omega), Int.toNat_natCast]
  exact h
theorem plS_0 {M : Nat → Int} {z y : Int} (c : plS M z y = 0) : 0 ≤ z ∧ z ≤ 3 ∧ M z.toNat ≠ -1 ∧ 0 ≤ y ∧ y < M z.toNat := by
  unfold plS at c
  by_cases a1 : 0 ≤ z ∧ z ≤ 3
  · rw [if_neg (fun q => q a1)] at c
    by_cases a2 : M z.toNat = -1
    · rw [if_pos a2] at c; omega
    · rw [if_neg a2] at c
      by_cases a3 : 0 ≤ y ∧ y < M z.toNat
      · exact ⟨a1.1, a1.2, a2, a3.1, a3.2⟩
      · rw [if_neg a3] at c; omega
  · rw [if_pos a1] at c; omega
theorem plS_bd (M : Nat → Int) (z y : Int) : 0 ≤ plS M z y ∧ plS M z y ≤ 3 := by
  unfold plS
  by_cases a1 : 0 ≤ z ∧ z ≤ 3
  · rw [if_neg (fun q => q a1)]
    by_cases a2 : M z.toNat = -1
    · rw [if_pos a2]; omega
    · rw [if_neg a2]
      by_cases a3 : 0 ≤ y ∧ y < M z.toNat
      · rw [if_pos a3]; omega
      · rw [if_neg a3]; omega
  · rw [if_pos a1]; omega
theorem op_read {CALL : CT} (hC : RuleAll CALL) {r : Nat} {σ : AM} {K : AV → AV → AM → Prop} (hR : Rel σ) {z y : Int} (z1 : -2147483648 ≤ z) (z2 : z < 2147483648) (y1 : -2147483648 ≤ y) (y2 : y < 2147483648) (h : ∀ v σ2, Rel σ2 → K v v σ2) : CALL (r + 20) n_x_read [.inr (.inr (1, 0)), .inl (Int32.ofInt z), .inl (Int32.ofInt y)] σ (fun v σ1 => CALL (r + 20) n_m_read [.inr (.inr (46, 0)), .inl (Int32.ofInt z), .inl (Int32.ofInt y)] σ1 (fun v' σ2 => K v v' σ2)) := by
  obtain ⟨⟨n, p, h0, ha⟩, hb, hst⟩ := id hR
  have hn := ha.nh
  obtain ⟨n45, hnn, hr, hm, ⟨hw, hw67⟩, h59⟩ := id hn
  have b := hw.1
  have hsy : SymE h0 := ha.2.2.2.2.2.2.2.2.2.2.1
  obtain ⟨q0, q1, q2, q3, q4, q5, q6, q7, q8, q9, qa, qt, qm, qe⟩ := id hr
  obtain ⟨M, S, ht⟩ := hb.2.1.tm
  have pb := plS_bd M z y
  refine r_x_read hC (fun J hJ => ?_)
  refine hJ _ _ _ _ ?_
  conv => whnf
  refine s_placeStatus hC ht z1 z2 y1 y2 ?_
  conv => whnf
  refine ⟨fun c => ?_, fun c => ?_⟩ <;> (try simp (disch := omega) only [oi_le, oi_lt, oi_eq, oi_lt0, oi_le0, oi_0lt, oi_0le, oi_eq0, oi_eq1, bI_eq0, bI_ne0, bI_eq1, decide_eq_true_eq, decide_eq_false_iff_not, lc_lt, lc_gt, lc_eq, lc_ge, lc_le, ol_lt, ol_eq, ne_eq, Int.not_lt, Int.not_le, Bool.not_eq_true, Bool.not_eq_false, Decidable.not_not, not_true_eq_false, not_false_eq_true, Bool.true_eq_false, Bool.false_eq_true] at c) <;> (first | (exfalso; omega) | ((with_reducible refine hJ _ _ _ _ ?_); conv => whnf) | (conv => whnf))
  · have c0 := plS_0 c
    obtain ⟨t, rfl⟩ : ∃ t : Nat, z = (t : Int) := ⟨z.toNat, by omega⟩
    obtain ⟨k, rfl⟩ : ∃ k : Nat, y = (k : Int) := ⟨y.toNat, by omega⟩
    rw [Int.toNat_natCast] at c0
    have bd := ht.bd (t := t) (by omega)
    have g9 : σ.2.1 45 t k = σ.2.1 51 0 (60 * t + k) := by
      rcases (ht t (by omega)).2 with ⟨g1, g2⟩ | ⟨g1, g2, g3, g4, g5, g6, g7, g8, g9⟩
      · exact absurd g1 c0.2.2.1
      · exact g9 k c0.2.2.2.2
    refine ⟨(oi_in (by omega) (by omega)).mpr ⟨by omega, by omega⟩, ?_⟩
    conv => whnf
    refine ⟨(oi_in (by omega) (by omega)).mpr ⟨by omega, by omega⟩, ?_⟩
    conv => whnf
    rw [oi_nat (by omega) (by omega), oi_nat (by omega) (by omega), Int.toNat_natCast, Int.toNat_natCast, Nat.zero_add]
    refine r_m_read hC (fun J hJ => ?_)
    refine hJ _ _ _ _ ?_
    conv => whnf
    refine s_m_wrongPlace hC ht.m.c z1 z2 y1 y2 ?_
    conv => whnf
    rw [wI_16, c]
    refine ⟨fun c2 => ?_, fun c2 => ?_⟩ <;> (try simp (disch := omega) only [oi_le, oi_lt, oi_eq, oi_lt0, oi_le0, oi_0lt, oi_0le, oi_eq0, oi_eq1, bI_eq0, bI_ne0, bI_eq1, decide_eq_true_eq, decide_eq_false_iff_not, lc_lt, lc_gt, lc_eq, lc_ge, lc_le, ol_lt, ol_eq, ne_eq, Int.not_lt, Int.not_le, Bool.not_eq_true, Bool.not_eq_false, Decidable.not_not, not_true_eq_false, not_false_eq_true, Bool.true_eq_false, Bool.false_eq_true] at c2) <;> (first | (exfalso; omega) | ((with_reducible refine hJ _ _ _ _ ?_); conv => whnf) | (conv => whnf))
    rw [oi_mul, oi_add]
    refine ⟨(oi_in (by omega) (by omega)).mpr ⟨by omega, by omega⟩, ?_⟩
    conv => whnf
    refine hJ _ _ _ _ ?_
    conv => whnf
    rw [oi_nat (by omega) (by omega), show (60 * (t : Int) + (k : Int)).toNat = 60 * t + k by omega]
    show K (.inr (.inl (σ.2.1 45 t k))) (.inr (.inl (σ.2.1 51 0 (60 * t + k)))) _
    rw [g9]
    exact h _ _ (hR.sc done2.1 done2.2)
  · refine s_none hC ?_
    conv => whnf
    refine r_m_read hC (fun J hJ => ?_)
    refine hJ _ _ _ _ ?_
    conv => whnf
    refine s_m_wrongPlace hC ht.m.c z1 z2 y1 y2 ?_
    conv => whnf
    rw [wI_16]
    refine ⟨fun c2 => ?_, fun c2 => ?_⟩ <;> (try simp (disch := omega) only [oi_le, oi_lt, oi_eq, oi_lt0, oi_le0, oi_0lt, oi_0le, oi_eq0, oi_eq1, bI_eq0, bI_ne0, bI_eq1, decide_eq_true_eq, decide_eq_false_iff_not, lc_lt, lc_gt, lc_eq, lc_ge, lc_le, ol_lt, ol_eq, ne_eq, Int.not_lt, Int.not_le, Bool.not_eq_true, Bool.not_eq_false, Decidable.not_not, not_true_eq_false, not_false_eq_true, Bool.true_eq_false, Bool.false_eq_true] at c2) <;> (first | (exfalso; omega) | ((with_reducible refine hJ _ _ _ _ ?_); conv => whnf) | (conv => whnf))
    refine hJ _ _ _ _ ?_
    conv => whnf
    exact h _ _ (hR.sc done2.1 done2.2)
