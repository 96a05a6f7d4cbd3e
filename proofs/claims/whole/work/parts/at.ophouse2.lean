theorem m_begin0 {CALL : CT} (hC : RuleAll CALL) {r : Nat} {σ : AM} {K : AV → AM → Prop} {k : Nat} {z : Int} {most : Nat} (hm : most ≤ 900) (z1 : -2147483648 ≤ z) (z2 : z < 2147483648) (h10 : σ.1 46 0 10 = Int32.ofInt (k : Int)) (hk : k ≤ 900) (hz : ¬ (0 ≤ z ∧ z ≤ (k : Int) ∧ z ≤ (most : Int))) (h : K (.inl (Int32.ofInt 0)) σ) : CALL (r + 3) n_m_begins [.inr (.inr (46, 0)), .inl (Int32.ofInt z), .inl (Int32.ofInt (most : Int))] σ K := by
  refine r_m_begins hC (fun J hJ => ?_)
  refine hJ _ _ _ _ ?_
  conv => whnf
  have bad : J 17 [.inr (.inr (46, 0)), .inl (Int32.ofInt z), .inl (Int32.ofInt (most : Int)), unset] [] σ := by
    refine hJ _ _ _ _ ?_
    conv => whnf
    exact ⟨Or.inl rfl, h⟩
  refine ⟨fun c => ?_, fun c => ?_⟩ <;> (try simp (disch := omega) only [oi_le, oi_lt, oi_eq, oi_lt0, oi_le0, oi_0lt, oi_0le, oi_eq0, oi_eq1, bI_eq0, bI_ne0, bI_eq1, decide_eq_true_eq, decide_eq_false_iff_not, lc_lt, lc_gt, lc_eq, lc_ge, lc_le, ol_lt, ol_eq, ne_eq, Int.not_lt, Int.not_le, Bool.not_eq_true, Bool.not_eq_false, Decidable.not_not, not_true_eq_false, not_false_eq_true, Bool.true_eq_false, Bool.false_eq_true] at c) <;> (first | (exfalso; omega) | ((fail_if_success with_reducible refine hJ _ _ _ _ ?_); conv => whnf) | skip)
  · exact bad
  rw [h10]
  refine ⟨fun c2 => ?_, fun c2 => ?_⟩ <;> (try simp (disch := omega) only [oi_le, oi_lt, oi_eq, oi_lt0, oi_le0, oi_0lt, oi_0le, oi_eq0, oi_eq1, bI_eq0, bI_ne0, bI_eq1, decide_eq_true_eq, decide_eq_false_iff_not, lc_lt, lc_gt, lc_eq, lc_ge, lc_le, ol_lt, ol_eq, ne_eq, Int.not_lt, Int.not_le, Bool.not_eq_true, Bool.not_eq_false, Decidable.not_not, not_true_eq_false, not_false_eq_true, Bool.true_eq_false, Bool.false_eq_true] at c2) <;> (first | (exfalso; omega) | ((fail_if_success with_reducible refine hJ _ _ _ _ ?_); conv => whnf) | skip)
  · exact bad
  refine ⟨fun c3 => ?_, fun c3 => ?_⟩ <;> (try simp (disch := omega) only [oi_le, oi_lt, oi_eq, oi_lt0, oi_le0, oi_0lt, oi_0le, oi_eq0, oi_eq1, bI_eq0, bI_ne0, bI_eq1, decide_eq_true_eq, decide_eq_false_iff_not, lc_lt, lc_gt, lc_eq, lc_ge, lc_le, ol_lt, ol_eq, ne_eq, Int.not_lt, Int.not_le, Bool.not_eq_true, Bool.not_eq_false, Decidable.not_not, not_true_eq_false, not_false_eq_true, Bool.true_eq_false, Bool.false_eq_true] at c3) <;> (first | (exfalso; omega) | ((fail_if_success with_reducible refine hJ _ _ _ _ ?_); conv => whnf) | skip)
  exact bad
theorem m_house0 {CALL : CT} (hC : RuleAll CALL) {r : Nat} {σ : AM} {K : AV → AM → Prop} {k : Nat} {z : Int} (z1 : -2147483648 ≤ z) (z2 : z < 2147483648) (h10 : σ.1 46 0 10 = Int32.ofInt (k : Int)) (hk : k ≤ 900) (hz : ¬ (0 ≤ z ∧ z ≤ (k : Int))) (h : K (.inl (Int32.ofInt (-1))) (wI σ 46 0 2 (Int32.ofInt 1))) : CALL (r + 8) n_m_house [.inr (.inr (46, 0)), .inl (Int32.ofInt z)] σ K := by
  refine r_m_house hC (fun J hJ => ?_)
  refine hJ _ _ _ _ ?_
  conv => whnf
  refine m_begin0 hC (most := 900) (by omega) z1 z2 h10 hk (by omega) ?_
  conv => whnf
  refine ⟨fun c => ?_, fun c => ?_⟩ <;> (try simp (disch := omega) only [oi_le, oi_lt, oi_eq, oi_lt0, oi_le0, oi_0lt, oi_0le, oi_eq0, oi_eq1, bI_eq0, bI_ne0, bI_eq1, decide_eq_true_eq, decide_eq_false_iff_not, lc_lt, lc_gt, lc_eq, lc_ge, lc_le, ol_lt, ol_eq, ne_eq, Int.not_lt, Int.not_le, Bool.not_eq_true, Bool.not_eq_false, Decidable.not_not, not_true_eq_false, not_false_eq_true, Bool.true_eq_false, Bool.false_eq_true] at c) <;> (first | (exfalso; omega) | ((with_reducible refine hJ _ _ _ _ ?_); conv => whnf) | (conv => whnf))
  refine s_m_refuse hC ?_
  conv => whnf
  exact h
/-- what the class changes when it reads a house into the other -/
def chS (q p t i j : Nat) : Prop := (t = 3 ∧ i = 0) ∨ hrS q t i j ∨ (t = 37 ∧ i = p) ∨ (t = 1 ∧ i = 0 ∧ j = 16)
theorem op_house {CALL : CT} (hC : RuleAll CALL) {r : Nat} {σ : AM} {K : AV → AV → AM → Prop} (hR : Rel σ) {z : Int} (z1 : -2147483648 ≤ z) (z2 : z < 2147483648) (h : ∀ v σ2, Rel σ2 → K v v σ2) : CALL (r + 20) n_x_house [.inr (.inr (1, 0)), .inl (Int32.ofInt z)] σ (fun v σ1 => CALL (r + 20) n_m_house [.inr (.inr (46, 0)), .inl (Int32.ofInt z)] σ1 (fun v' σ2 => K v v' σ2)) := by
  obtain ⟨⟨n, p, h0, ha⟩, hb, hst⟩ := id hR
  have hn := ha.nh
  obtain ⟨n45, hnn, hr, hm, ⟨hw, hw67⟩, h59⟩ := id hn
  have b := hw.1
  have hsy : SymE h0 := ha.2.2.2.2.2.2.2.2.2.2.1
  obtain ⟨q0, q1, q2, q3, q4, q5, q6, q7, q8, q9, qa, qt, qm, qe⟩ := id hr
  obtain ⟨k, hk, t1, t2, t3⟩ := id hb.2.2.1
  refine r_x_house hC (fun J hJ => ?_)
  refine hJ _ _ _ _ ?_
  conv => whnf
  rw [t1]
  refine s_within hC ?_
  conv => whnf
  refine ⟨fun c => ?_, fun c => ?_⟩
  · rw [bI_ne0, decide_eq_true_eq, oi_le (by omega) (by omega) (by omega) (by omega), oi_le (by omega) (by omega) (by omega) (by omega)] at c
    obtain ⟨c1, c2⟩ := c
    obtain ⟨m, hm'⟩ : ∃ m : Nat, z = (m : Int) := ⟨z.toNat, by omega⟩
    subst hm'
    obtain ⟨B, hBd⟩ : ∃ B : Nat → Int, B = fun j => (σ.1 4 0 j).toInt := ⟨_, rfl⟩
    have b4 : ∀ j, j < m → 0 ≤ B j ∧ B j ≤ 255 ∧ σ.1 4 0 j = Int32.ofInt (B j) ∧ σ.1 52 0 j = Int32.ofInt (sg8 (B j).toNat) := by
      intro j hj
      obtain ⟨x, x1, x2, x3⟩ := t3 j (by omega)
      have e : B j = (x : Int) := by rw [hBd]; show (σ.1 4 0 j).toInt = _; rw [x2, ti_oi (by omega) (by omega)]
      rw [e, Int.toNat_natCast]
      exact ⟨by omega, by omega, x2, x3⟩
    have hB : BOk B m := ⟨by omega, fun j hj => ⟨(b4 j hj).1, (b4 j hj).2.1⟩⟩
    have hq : 9 - n < 9 := by rcases n45 with e | e <;> omega
    refine hJ _ _ _ _ ?_
    conv => whnf
    refine c_begin hC hB hb.2.2.2.2.2.2 (fun j hj => (b4 j hj).2.2.1) (fun σ1 a1 a2 a3 a4 f1 => ?_)
    conv => whnf
    rw [f1.2.2, ha.2.2.2.1]
    refine ⟨hq, ?_⟩
    conv => whnf
    refine c_takes hC a1 hq a3 a4 (fun bb σ2 o2 f2 => ?_)
    obtain ⟨q, hqd⟩ : ∃ q : Nat, q = 9 - n := ⟨_, rfl⟩
    rw [← hqd] at f2 o2
    have q45 : (q = 4 ∨ q = 5) ∧ q ≠ n ∧ n = 9 - q := by rcases n45 with e | e <;> omega
    obtain ⟨-, hp2, r1, r2, r3, r4, hh⟩ := id ha
    have g1 : ∀ t i j, ¬ (t = 3 ∧ i = 0) → ¬ hrS q t i j → σ2.1 t i j = σ.1 t i j := fun t i j y1 y2 => by
      rw [f2.1 _ _ _ y2, wR0, f1.1 _ _ _ y1]
    have gl : ∀ t i j, ¬ tkL t i j → ¬ hrL q t i j → σ2.2.1 t i j = σ.2.1 t i j := fun t i j y1 y2 => by
      rw [f2.2.1 _ _ _ y2]
      exact f1.2.1 _ _ _ y1
    have gr : ∀ j, σ2.2.2 1 0 j = σ.2.2 1 0 j := fun j => by
      rw [f2.2.2, wR1, if_neg (by omega), f1.2.2]
    have g32 : σ2.1 3 0 2 = Int32.ofInt 0 := by
      rw [f2.1 _ _ _ (by unfold hrS HS; omega), wR0]; exact a2
    cases eR : rAll B m 901 (S0 (tokF B m 0)) with
    | inr d =>
      obtain ⟨d1, d2⟩ := d
      rw [eR] at o2
      obtain ⟨ob, o3, o4⟩ := o2
      subst ob
      conv => whnf
      refine ⟨fun c3 => ?_, fun c3 => ?_⟩ <;> (try simp (disch := omega) only [oi_le, oi_lt, oi_eq, oi_lt0, oi_le0, oi_0lt, oi_0le, oi_eq0, oi_eq1, bI_eq0, bI_ne0, bI_eq1, decide_eq_true_eq, decide_eq_false_iff_not, lc_lt, lc_gt, lc_eq, lc_ge, lc_le, ol_lt, ol_eq, ne_eq, Int.not_lt, Int.not_le, Bool.not_eq_true, Bool.not_eq_false, Decidable.not_not, not_true_eq_false, not_false_eq_true, Bool.true_eq_false, Bool.false_eq_true] at c3) <;> (first | (exfalso; omega) | ((with_reducible refine hJ _ _ _ _ ?_); conv => whnf) | (conv => whnf))
      refine s_none hC ?_
      conv => whnf
      have g2 : ∀ t i j, ¬ (t = 3 ∧ i = 0) → ¬ hrS q t i j → ¬ (t = 1 ∧ i = 0 ∧ j = 16) → (wI σ2 1 0 16 (Int32.ofInt 9)).1 t i j = σ.1 t i j := fun t i j y1 y2 y3 => by
        rw [wI1, if_neg y3]; exact g1 t i j y1 y2
      refine m_houseS hC (B := B) (k := k) (n := m) z1 z2 (by rw [g2 _ _ _ (by omega) (by unfold hrS HS; omega) (by omega)]; exact t2) hk hB (fun _ => rfl) (fun j hj => by rw [g2 _ _ _ (by omega) (by unfold hrS HS; omega) (by omega)]; exact (b4 j hj).2.2.2) (fun y => absurd ⟨c1, c2⟩ y) (fun S σ3 _ _ y => by rw [eR] at y; cases y) (fun c' p' σ3 _ _ y u10 u16 u17 u2 f3 => ?_)
      rw [eR] at y
      obtain ⟨y1, y2⟩ := Prod.mk.inj (Sum.inr.inj y)
      subst y1
      subst y2
      have g3 : ∀ t i j, ¬ (t = 3 ∧ i = 0) → ¬ hrS q t i j → ¬ (t = 1 ∧ i = 0 ∧ j = 16) → ¬ (bmS t i j ∨ mnS t i j ∨ (t = 46 ∧ i = 0 ∧ (j = 2 ∨ j = 16))) → σ3.1 t i j = σ.1 t i j := fun t i j y1 y2 y3 y4 => by
        rw [f3.1 _ _ _ y4]; exact g2 t i j y1 y2 y3
      have gl3 : ∀ t i j, ¬ tkL t i j → ¬ hrL q t i j → ¬ mnL t i j → σ3.2.1 t i j = σ.2.1 t i j := fun t i j y1 y2 y3 => by
        rw [f3.2.1 _ _ _ y3]; exact gl t i j y1 y2
      have gr3 : ∀ j, σ3.2.2 1 0 j = σ.2.2 1 0 j := fun j => by rw [f3.2.2]; exact gr j
      refine h _ _ ⟨⟨n, p, h0, n45, hp2, by rw [gr3]; exact r1, by rw [gr3]; exact r2, by rw [gr3]; exact r3, by rw [gr3]; exact r4, ?_⟩, ?_, ?_⟩
      · refine hh.cg (fun t j hin => g3 _ _ _ ?_ ?_ ?_ ?_) (fun t j hin => gl3 _ _ _ ?_ ?_ ?_) (fun j hj => g3 _ _ _ ?_ ?_ ?_ ?_) (fun j hj => gl3 _ _ _ ?_ ?_ ?_) (g3 _ _ _ ?_ ?_ ?_ ?_) (g3 _ _ _ ?_ ?_ ?_ ?_) (fun k _ t a b => g3 _ _ _ ?_ ?_ ?_ ?_)
        all_goals ((try unfold inHI at hin) <;> (try unfold inHL at hin) <;> (try unfold hrS HS) <;> (try unfold bmS mnS) <;> (try unfold tkL) <;> (try unfold hrL) <;> (try unfold mnL) <;> omega)
      · refine hb.cw (fun t i j kk => g3 _ _ _ ?_ ?_ ?_ ?_) (fun t i j kk => gl3 _ _ _ ?_ ?_ ?_) ⟨0, by omega, ?_, u10, fun j hj => by omega⟩ ⟨?_, ?_⟩
        any_goals ((try unfold kC' at kk) <;> (try unfold kBL at kk) <;> (try unfold hrS HS) <;> (try unfold bmS mnS) <;> (try unfold tkL) <;> (try unfold hrL) <;> (try unfold mnL) <;> omega)
        · rw [f3.1 _ _ _ (by unfold bmS mnS; omega), wI1, if_neg (by omega)]; exact g32
        · rw [u16, f3.1 _ _ _ (by unfold bmS mnS; omega), wI1, if_neg (by omega)]; exact o3
        · rw [u17, f3.1 _ _ _ (by unfold bmS mnS; omega), wI1, if_neg (by omega)]; exact o4
      · rw [u2, f3.1 _ _ _ (by unfold bmS mnS; omega), wI_16]
    | inl S =>
      rw [eR] at o2
      obtain ⟨ob, hc2⟩ := o2
      subst ob
      have tf := tokF_ok (B := B) (L := m) (e0 := 0) (by omega)
      have pk := (rAll_ok 901 (S0 (tokF B m 0)) S (S0_PI tf.2.1) (by omega) eR).1
      have bS := pk.wf.1
      conv => whnf
      refine ⟨fun c3 => ?_, fun c3 => ?_⟩ <;> (try simp (disch := omega) only [oi_le, oi_lt, oi_eq, oi_lt0, oi_le0, oi_0lt, oi_0le, oi_eq0, oi_eq1, bI_eq0, bI_ne0, bI_eq1, decide_eq_true_eq, decide_eq_false_iff_not, lc_lt, lc_gt, lc_eq, lc_ge, lc_le, ol_lt, ol_eq, ne_eq, Int.not_lt, Int.not_le, Bool.not_eq_true, Bool.not_eq_false, Decidable.not_not, not_true_eq_false, not_false_eq_true, Bool.true_eq_false, Bool.false_eq_true] at c3) <;> (first | (exfalso; omega) | ((with_reducible refine hJ _ _ _ _ ?_); conv => whnf) | (conv => whnf))
      rw [gr 11, r1]
      refine ⟨by omega, ?_⟩
      conv => whnf
      rw [gr 12, r2, ← hqd]
      refine ⟨by omega, ?_⟩
      conv => whnf
      rw [show (wR (wR σ2 1 0 11 q) 1 0 12 n).2.2 1 0 13 = p by rw [wR1, if_neg (by omega), wR1, if_neg (by omega), gr 13, r3]]
      refine ⟨by omega, ?_⟩
      conv => whnf
      refine s_dclear hC ?_
      conv => whnf
      have v1 : ∀ t i j, ¬ (t = 37 ∧ i = p) → (wI (wI (wI (wR (wR σ2 1 0 11 q) 1 0 12 n) 37 p 6 (Int32.ofInt 0)) 37 p 7 (Int32.ofInt 0)) 37 p 8 (Int32.ofInt 0)).1 t i j = σ2.1 t i j := fun t i j y => by
        rw [wI1, if_neg (by omega), wI1, if_neg (by omega), wI1, if_neg (by omega), wR0, wR0]
      have vl : (wI (wI (wI (wR (wR σ2 1 0 11 q) 1 0 12 n) 37 p 6 (Int32.ofInt 0)) 37 p 7 (Int32.ofInt 0)) 37 p 8 (Int32.ofInt 0)).2.1 = σ2.2.1 := rfl
      have v6 : (wI (wI (wI (wR (wR σ2 1 0 11 q) 1 0 12 n) 37 p 6 (Int32.ofInt 0)) 37 p 7 (Int32.ofInt 0)) 37 p 8 (Int32.ofInt 0)).1 37 p 6 = Int32.ofInt 0 := by
        rw [wI1, if_neg (by omega), wI1, if_neg (by omega), wI_16]
      have v8 : (wI (wI (wI (wR (wR σ2 1 0 11 q) 1 0 12 n) 37 p 6 (Int32.ofInt 0)) 37 p 7 (Int32.ofInt 0)) 37 p 8 (Int32.ofInt 0)).1 37 p 8 = Int32.ofInt 0 := wI_16
      have vr : ∀ j, (wI (wI (wI (wR (wR σ2 1 0 11 q) 1 0 12 n) 37 p 6 (Int32.ofInt 0)) 37 p 7 (Int32.ofInt 0)) 37 p 8 (Int32.ofInt 0)).2.2 1 0 j = if j = 12 then n else if j = 11 then q else σ.2.2 1 0 j := fun j => by
        rw [wI22, wI22, wI22, wR1]
        by_cases j12 : j = 12
        · rw [if_pos ⟨rfl, rfl, j12⟩, if_pos j12]
        · rw [if_neg (by omega), if_neg j12, wR1]
          by_cases j11 : j = 11
          · rw [if_pos ⟨rfl, rfl, j11⟩, if_pos j11]
          · rw [if_neg (by omega), if_neg j11, gr j]
      revert v1 vl v6 v8 vr
      generalize (wI (wI (wI (wR (wR σ2 1 0 11 q) 1 0 12 n) 37 p 6 (Int32.ofInt 0)) 37 p 7 (Int32.ofInt 0)) 37 p 8 (Int32.ofInt 0)) = τ
      intro v1 vl v6 v8 vr
      rw [vr 11, if_neg (by omega), if_pos rfl]
      refine ⟨by omega, ?_⟩
      conv => whnf
      rw [v1 27 q 8 (by omega), hc2.2.1.2.1]
      refine s_give hC ?_
      conv => whnf
      have g2 : ∀ t i j, ¬ (t = 3 ∧ i = 0) → ¬ hrS q t i j → ¬ (t = 1 ∧ i = 0 ∧ j = 16) → ¬ (t = 37 ∧ i = p) → (wI τ 1 0 16 (Int32.ofInt 0)).1 t i j = σ.1 t i j := fun t i j y1 y2 y3 y4 => by
        rw [wI1, if_neg y3, v1 _ _ _ y4]; exact g1 t i j y1 y2
      refine m_houseS hC (B := B) (k := k) (n := m) z1 z2 (by rw [g2 _ _ _ (by omega) (by unfold hrS HS; omega) (by omega) (by omega)]; exact t2) hk hB (fun _ => rfl) (fun j hj => by rw [g2 _ _ _ (by omega) (by unfold hrS HS; omega) (by omega) (by omega)]; exact (b4 j hj).2.2.2) (fun y => absurd ⟨c1, c2⟩ y) (fun S' σ3 _ _ y hf u10 u16 u17 u2 f3 => ?_) (fun c' p' σ3 _ _ y => by rw [eR] at y; cases y)
      rw [eR] at y
      have y := Sum.inl.inj y
      subst y
      have g3 : ∀ t i j, ¬ (t = 3 ∧ i = 0) → ¬ hrS q t i j → ¬ (t = 1 ∧ i = 0 ∧ j = 16) → ¬ (t = 37 ∧ i = p) → ¬ mHS t i j → σ3.1 t i j = σ.1 t i j := fun t i j y1 y2 y3 y4 y5 => by
        rw [f3.1 _ _ _ y5]; exact g2 t i j y1 y2 y3 y4
      have gl3 : ∀ t i j, ¬ tkL t i j → ¬ hrL q t i j → ¬ mHL t i j → σ3.2.1 t i j = σ.2.1 t i j := fun t i j y1 y2 y3 => by
        rw [f3.2.1 _ _ _ y3]
        show τ.2.1 t i j = _
        rw [vl]
        exact gl t i j y1 y2
      have g4 : ∀ t i j, ¬ (t = 1 ∧ i = 0 ∧ j = 16) → ¬ (t = 37 ∧ i = p) → ¬ mHS t i j → σ3.1 t i j = σ2.1 t i j := fun t i j y3 y4 y5 => by
        rw [f3.1 _ _ _ y5, wI1, if_neg y3, v1 _ _ _ y4]
      have gl4 : ∀ t i j, ¬ mHL t i j → σ3.2.1 t i j = σ2.2.1 t i j := fun t i j y3 => by
        rw [f3.2.1 _ _ _ y3]
        show τ.2.1 t i j = _
        rw [vl]
      have gr3 : ∀ j, σ3.2.2 1 0 j = if j = 12 then n else if j = 11 then q else σ.2.2 1 0 j := fun j => by rw [f3.2.2]; exact vr j
      refine h _ _ ⟨⟨q, p, S.2.1, q45.1, hp2, by rw [gr3]; rfl, by rw [gr3]; exact q45.2.2, by rw [gr3]; exact r3, by rw [gr3]; exact r4, ?_, hf.1, pk.2.1, ?_, pk.2.2.2.2.2.2.2.2.2.2.1, ⟨fun t ht => ?_, fun t ht => ?_⟩, Or.inl ⟨pk.2.2.2.2.2.2.2.1, ?_, ?_⟩⟩, ?_, ?_⟩
      · refine hc2.2.1.cp pk.wf (fun t j hin => g4 _ _ _ ?_ ?_ ?_)
        all_goals ((try unfold inHI at hin) <;> (try unfold mHS bmS mnS) <;> omega)
      · rw [pk.2.2.1]; omega
      · have e24 := hc2.2.2.1 t ht
        rw [gl4 _ _ _ (by unfold mHL; omega), Nat.zero_add]
        exact ⟨S.2.2.1 t, (pk.tw t ht).1, e24, hf.2.1 t ht⟩
      · have e28 := hc2.2.2.2.1 t ht
        rw [gl4 _ _ _ (by unfold mHL; omega), Nat.zero_add]
        exact ⟨S.2.2.2.1 t, (pk.mw t ht).1, e28, hf.2.2.1 t ht⟩
      · rw [f3.1 _ _ _ (by unfold mHS bmS mnS; omega), wI1, if_neg (by omega)]; exact v8
      · rw [f3.1 _ _ _ (by unfold mHS bmS mnS; omega), wI1, if_neg (by omega)]; exact v6
      · refine hb.cw (fun t i j kk => g3 _ _ _ ?_ ?_ ?_ ?_ ?_) (fun t i j kk => gl3 _ _ _ ?_ ?_ ?_) ⟨0, by omega, ?_, u10, fun j hj => by omega⟩ ⟨?_, ?_⟩
        any_goals ((try unfold kC' at kk) <;> (try unfold kBL at kk) <;> (try unfold hrS HS) <;> (try unfold mHS bmS mnS) <;> (try unfold tkL) <;> (try unfold hrL) <;> (try unfold mHL) <;> omega)
        · rw [g4 _ _ _ (by omega) (by omega) (by unfold mHS bmS mnS; omega)]; exact g32
        · rw [u16, g4 _ _ _ (by omega) (by omega) (by unfold mHS bmS mnS; omega)]; exact hc2.2.2.2.2.2.2.2.2.1
        · rw [u17, g4 _ _ _ (by omega) (by omega) (by unfold mHS bmS mnS; omega)]; exact hc2.2.2.2.2.2.2.2.2.2
      · rw [u2, f3.1 _ _ _ (by unfold mHS bmS mnS; omega), wI_16]
  · rw [bI_eq0, decide_eq_false_iff_not, oi_le (by omega) (by omega) (by omega) (by omega), oi_le (by omega) (by omega) (by omega) (by omega)] at c
    conv => whnf
    refine s_none hC ?_
    conv => whnf
    refine m_house0 hC (k := k) z1 z2 (by rw [wI1, if_neg (by omega)]; exact t2) hk c ?_
    exact h _ _ (hR.sc done2.1 done2.2)
