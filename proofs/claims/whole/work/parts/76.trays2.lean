theorem TrM.w {σ σ' : AM} {M S : Nat → Int} (h : TrM σ M S) (e1 : ∀ t i j, t = 44 ∨ t = 49 ∨ t = 50 → σ'.1 t i j = σ.1 t i j) (e2 : ∀ t j : Nat, t < 4 → (j : Int) < M t → σ'.2.1 45 t j = σ'.2.1 51 0 (60 * t + j)) : TrM σ' M S := by
  intro t ht
  rw [e1 50 _ _ (by omega), e1 44 _ _ (by omega), e1 44 _ _ (by omega), e1 44 _ _ (by omega), e1 49 _ _ (by omega)]
  obtain ⟨h1, h2⟩ := h t ht
  refine ⟨h1, ?_⟩
  rcases h2 with h2 | ⟨g1, g2, g3, g4, g5, g6, g7, g8, g9⟩
  · exact Or.inl h2
  · exact Or.inr ⟨g1, g2, g3, g4, g5, g6, g7, g8, fun j hj => e2 t j ht hj⟩
theorem TrM.old {σ : AM} {M S : Nat → Int} (h : TrM σ M S) {t j : Nat} (ht : t < 4) (hj : (j : Int) < M t) : σ.2.1 45 t j = σ.2.1 51 0 (60 * t + j) := by
  rcases (h t ht).2 with ⟨g1, g2⟩ | ⟨g1, g2, g3, g4, g5, g6, g7, g8, g9⟩
  · omega
  · exact g9 j hj
theorem TrM.is {σ : AM} {M S : Nat → Int} (h : TrM σ M S) {t : Nat} (ht : t < 4) (hM : M t ≠ -1) : 0 ≤ M t ∧ M t ≤ 60 ∧ 0 ≤ S t ∧ S t ≤ 3 ∧ σ.1 44 t 1 = Int32.ofInt 1 ∧ σ.1 44 t 2 = Int32.ofInt (S t) ∧ σ.1 49 0 t = Int32.ofInt (S t) ∧ σ.1 44 t 3 = Int32.ofInt (M t) := by
  rcases (h t ht).2 with ⟨g1, g2⟩ | ⟨g1, g2, g3, g4, g5, g6, g7, g8, g9⟩
  · exact absurd g1 hM
  · exact ⟨g1, g2, g3, g4, g5, g6, g7, g8⟩
theorem op_write {CALL : CT} (hC : RuleAll CALL) {r : Nat} {σ : AM} {K : AV → AV → AM → Prop} (hR : Rel σ) {z y : Int} {u : Int64} (z1 : -2147483648 ≤ z) (z2 : z < 2147483648) (y1 : -2147483648 ≤ y) (y2 : y < 2147483648) (h : ∀ v σ2, Rel σ2 → K v v σ2) : CALL (r + 20) n_x_write [.inr (.inr (1, 0)), .inl (Int32.ofInt z), .inl (Int32.ofInt y), .inr (.inl u)] σ (fun v σ1 => CALL (r + 20) n_m_write [.inr (.inr (46, 0)), .inl (Int32.ofInt z), .inl (Int32.ofInt y), .inr (.inl u)] σ1 (fun v' σ2 => K v v' σ2)) := by
  obtain ⟨⟨n, p, h0, ha⟩, hb, hst⟩ := id hR
  have hn := ha.nh
  obtain ⟨n45, hnn, hr, hm, ⟨hw, hw67⟩, h59⟩ := id hn
  have b := hw.1
  have hsy : SymE h0 := ha.2.2.2.2.2.2.2.2.2.2.1
  obtain ⟨q0, q1, q2, q3, q4, q5, q6, q7, q8, q9, qa, qt, qm, qe⟩ := id hr
  obtain ⟨M, S, ht⟩ := hb.2.1.tm
  have pb := plS_bd M z y
  refine r_x_write hC (fun J hJ => ?_)
  refine hJ _ _ _ _ ?_
  conv => whnf
  refine s_placeStatus hC ht z1 z2 y1 y2 ?_
  conv => whnf
  refine ⟨fun c => ?_, fun c => ?_⟩ <;> (try simp (disch := omega) only [oi_le, oi_lt, oi_eq, oi_lt0, oi_le0, oi_0lt, oi_0le, oi_eq0, oi_eq1, bI_eq0, bI_ne0, bI_eq1, decide_eq_true_eq, decide_eq_false_iff_not, lc_lt, lc_gt, lc_eq, lc_ge, lc_le, ol_lt, ol_eq, ne_eq, Int.not_lt, Int.not_le, Bool.not_eq_true, Bool.not_eq_false, Decidable.not_not, not_true_eq_false, not_false_eq_true, Bool.true_eq_false, Bool.false_eq_true] at c) <;> (first | (exfalso; omega) | ((with_reducible refine hJ _ _ _ _ ?_); conv => whnf) | (conv => whnf))
  · have c0 := plS_0 c
    obtain ⟨t, rfl⟩ : ∃ t : Nat, z = (t : Int) := ⟨z.toNat, by omega⟩
    obtain ⟨k, rfl⟩ : ∃ k : Nat, y = (k : Int) := ⟨y.toNat, by omega⟩
    rw [Int.toNat_natCast] at c0
    obtain ⟨g1, g2, g3, g4, g5, g6, g7, g8⟩ := ht.is (t := t) (by omega) c0.2.2.1
    refine ⟨(oi_in (by omega) (by omega)).mpr ⟨by omega, by omega⟩, ?_⟩
    conv => whnf
    rw [oi_nat (by omega) (by omega), Int.toNat_natCast, Nat.zero_add]
    refine s_put hC g6 g3 g4 (by omega) ?_
    conv => whnf
    refine s_agree hC ?_
    conv => whnf
    refine ⟨Or.inr rfl, ?_⟩
    have htm : TmM (wI (wL σ 45 t k (cutS (S t) u)) 1 0 16 (Int32.ofInt 0)) M S := ht.m.cg (fun j => by rw [wI1, if_neg (by omega)]; rfl) (fun j => by rw [wI1, if_neg (by omega)]; rfl)
    refine r_m_write hC (fun J hJ => ?_)
    refine hJ _ _ _ _ ?_
    conv => whnf
    refine s_m_wrongPlace hC htm z1 z2 y1 y2 ?_
    conv => whnf
    rw [c]
    refine ⟨fun c2 => ?_, fun c2 => ?_⟩ <;> (try simp (disch := omega) only [oi_le, oi_lt, oi_eq, oi_lt0, oi_le0, oi_0lt, oi_0le, oi_eq0, oi_eq1, bI_eq0, bI_ne0, bI_eq1, decide_eq_true_eq, decide_eq_false_iff_not, lc_lt, lc_gt, lc_eq, lc_ge, lc_le, ol_lt, ol_eq, ne_eq, Int.not_lt, Int.not_le, Bool.not_eq_true, Bool.not_eq_false, Decidable.not_not, not_true_eq_false, not_false_eq_true, Bool.true_eq_false, Bool.false_eq_true] at c2) <;> (first | (exfalso; omega) | ((with_reducible refine hJ _ _ _ _ ?_); conv => whnf) | (conv => whnf))
    refine ⟨(oi_in (by omega) (by omega)).mpr ⟨by omega, by omega⟩, ?_⟩
    conv => whnf
    rw [oi_nat (by omega) (by omega), Int.toNat_natCast, (htm t (by omega)).2.2.2 c0.2.2.1 |>.1]
    refine s_m_cut hC g3 g4 ?_
    conv => whnf
    rw [oi_mul, oi_add]
    refine ⟨(oi_in (by omega) (by omega)).mpr ⟨by omega, by omega⟩, ?_⟩
    conv => whnf
    refine hJ _ _ _ _ ?_
    conv => whnf
    rw [oi_nat (by omega) (by omega), show (60 * (t : Int) + (k : Int)).toNat = 60 * t + k by omega]
    refine s_m_is hC (by omega) (by omega) ?_
    conv => whnf
    refine ⟨Or.inr rfl, ?_⟩
    refine h _ _ (hR.tray (((TyC.wL (Or.inl rfl)).tr (TyC.wI (by omega))).tr ((TyC.wL (Or.inr rfl)).tr (TyC.wI (by omega)))) (TrM.tr (M := M) (S := S) (ht.w (fun a i j q => ?_) (fun a j a4 hj => ?_))) ?_)
    · rw [wI1, if_neg (by omega)]
      show (wI (wL σ 45 t k (cutS (S t) u)) 1 0 16 (Int32.ofInt 0)).1 a i j = _
      rw [wI1, if_neg (by omega)]
      rfl
    · have bd := ht.bd a4
      show (wL (wI (wL σ 45 t k (cutS (S t) u)) 1 0 16 (Int32.ofInt 0)) 51 0 (60 * t + k) (cutS (S t) u)).2.1 45 a j = (wL (wI (wL σ 45 t k (cutS (S t) u)) 1 0 16 (Int32.ofInt 0)) 51 0 (60 * t + k) (cutS (S t) u)).2.1 51 0 (60 * a + j)
      rw [wL1, if_neg (by omega), wL1]
      show (wL σ 45 t k (cutS (S t) u)).2.1 45 a j = if _ then _ else (wL σ 45 t k (cutS (S t) u)).2.1 51 0 (60 * a + j)
      rw [wL1, wL1, if_neg (by omega : ¬ (51 = 45 ∧ _ ∧ _))]
      by_cases e : a = t ∧ j = k
      · rw [if_pos ⟨rfl, e.1, e.2⟩, if_pos ⟨rfl, rfl, by omega⟩]
      · rw [if_neg (by omega), if_neg (by omega)]
        exact ht.old a4 hj
    · rw [wI1, if_neg (by omega), wI_16]
      rfl
  · refine s_refuse hC ?_
    conv => whnf
    refine ⟨Or.inl rfl, ?_⟩
    refine r_m_write hC (fun J hJ => ?_)
    refine hJ _ _ _ _ ?_
    conv => whnf
    refine s_m_wrongPlace hC ht.m.c z1 z2 y1 y2 ?_
    conv => whnf
    refine ⟨fun c2 => ?_, fun c2 => ?_⟩ <;> (try simp (disch := omega) only [oi_le, oi_lt, oi_eq, oi_lt0, oi_le0, oi_0lt, oi_0le, oi_eq0, oi_eq1, bI_eq0, bI_ne0, bI_eq1, decide_eq_true_eq, decide_eq_false_iff_not, lc_lt, lc_gt, lc_eq, lc_ge, lc_le, ol_lt, ol_eq, ne_eq, Int.not_lt, Int.not_le, Bool.not_eq_true, Bool.not_eq_false, Decidable.not_not, not_true_eq_false, not_false_eq_true, Bool.true_eq_false, Bool.false_eq_true] at c2) <;> (first | (exfalso; omega) | ((with_reducible refine hJ _ _ _ _ ?_); conv => whnf) | (conv => whnf))
    refine s_m_is hC (by omega) (by omega) ?_
    conv => whnf
    rw [show decide (plS M z y = 0) = false from decide_eq_false c]
    refine ⟨Or.inl rfl, ?_⟩
    exact h _ _ (hR.sc done2.1 done2.2)
