/-! the tenth number of a house: how many steps its days have -/
theorem awS_10 {h : Nat → Int} {z : Int} : awS (up h 10 z) = awS h := by
  unfold awS
  have e : (fun (a m : Nat) => if (m : Int) < up h 10 z 1 ∧ up h 10 z (27 + 7 * m) = 1 then a ||| 2 ^ m else a) = (fun (a m : Nat) => if (m : Int) < h 1 ∧ h (27 + 7 * m) = 1 then a ||| 2 ^ m else a) := by
    funext a m
    rw [up_ne (by omega), up_ne (by omega)]
  rw [e]
theorem HRep.u10 {σ : AM} {n : Nat} {h : Nat → Int} {z : Int} (hr : HRep σ n h) : HRep σ n (up h 10 z) := by
  obtain ⟨q0, q1, q2, q3, q4, q5, q6, q7, q8, q9, qa, qt, qm, qe⟩ := hr
  have e : ∀ j, j ≠ 10 → up h 10 z j = h j := fun j hj => up_ne hj
  refine ⟨by rw [e _ (by omega)]; exact q0, by rw [e _ (by omega)]; exact q1, by rw [e _ (by omega)]; exact q2, by rw [e _ (by omega)]; exact q3, by rw [e _ (by omega)]; exact q4, by rw [e _ (by omega)]; exact q5, by rw [e _ (by omega)]; exact q6, by rw [e _ (by omega)]; exact q7, by rw [e _ (by omega)]; exact q8, by rw [e _ (by omega)]; exact q9, by rw [awS_10]; exact qa, fun t ht => ?_, fun t ht => ?_, fun t ht => ?_⟩
  · rw [e _ (by omega)] at ht
    rw [e _ (by omega), e _ (by omega)]
    exact qt t ht
  · rw [e _ (by omega)] at ht
    rw [e _ (by omega), e _ (by omega), e _ (by omega), e _ (by omega), e _ (by omega), e _ (by omega)]
    exact qm t ht
  · rw [e _ (by omega)] at ht
    rw [e _ (by omega), e _ (by omega)]
    exact qe t ht
theorem WP.u10 {h : Nat → Int} {z : Int} (hw : WP h) : WP (up h 10 z) := by
  obtain ⟨⟨b, g2, g3, g4⟩, w6, w7⟩ := hw
  have e : ∀ j, j ≠ 10 → up h 10 z j = h j := fun j hj => up_ne hj
  refine ⟨⟨?_, fun t ht => ?_, fun t ht => ?_, fun t ht => ?_⟩, by rw [e _ (by omega), e _ (by omega)]; exact w6, by rw [e _ (by omega), e _ (by omega)]; exact w7⟩
  · simp only [e 0 (by omega), e 1 (by omega), e 2 (by omega), e 3 (by omega), e 4 (by omega), e 5 (by omega), e 6 (by omega), e 7 (by omega), e 8 (by omega), e 9 (by omega)]
    exact b
  · rw [e _ (by omega)] at ht
    rw [e _ (by omega), e _ (by omega)]
    exact g2 t ht
  · rw [e _ (by omega)] at ht
    rw [e _ (by omega), e _ (by omega), e _ (by omega), e _ (by omega), e _ (by omega), e _ (by omega), e _ (by omega), e _ (by omega)]
    exact g3 t ht
  · rw [e _ (by omega)] at ht
    rw [e _ (by omega), e _ (by omega), e _ (by omega), e _ (by omega)]
    exact g4 t ht
theorem SymE.u10 {h : Nat → Int} {z : Int} (hs : SymE h) : SymE (up h 10 z) := by
  intro a b ha hb
  rw [up_ne (by omega)] at ha hb
  rw [up_ne (by omega), up_ne (by omega)]
  exact hs a b ha hb
theorem dFin_inl {B : Nat → Int} {L : Nat} {R : Rd} {S : DZ} (h : dFin B L R = .inl S) : R = .inl S ∧ S.2.2.2.1 = 0 := by
  cases R with
  | inl T =>
    have h : (if T.2.2.2.1 = 0 then (.inl T : Rd) else dFl B L T.1 2) = .inl S := h
    split at h
    · have := Sum.inl.inj h
      subst this
      exact ⟨rfl, by assumption⟩
    · cases h
  | inr e => cases h
theorem NamR.pick {σ : AM} {n : Nat} {h : Nat → Int} (hn : NamR σ n 0 h) : ∃ tn mn : Nat → List Nat, (∀ t : Nat, (t : Int) < h 0 → WordOk (tn t) ∧ σ.2.1 24 n t = Int64.ofInt ((enc5 (tn t) : Nat) : Int) ∧ σ.2.1 48 0 (0 + t) = Int64.ofInt ((enc8 (tn t) : Nat) : Int)) ∧ (∀ m : Nat, (m : Int) < h 1 → WordOk (mn m) ∧ σ.2.1 28 n m = Int64.ofInt ((enc5 (mn m) : Nat) : Int) ∧ σ.2.1 48 0 (6 + m) = Int64.ofInt ((enc8 (mn m) : Nat) : Int)) := by
  have a : ∀ t : Nat, ∃ w : List Nat, (t : Int) < h 0 → WordOk w ∧ σ.2.1 24 n t = Int64.ofInt ((enc5 w : Nat) : Int) ∧ σ.2.1 48 0 (0 + t) = Int64.ofInt ((enc8 w : Nat) : Int) := fun t => by
    by_cases c : (t : Int) < h 0
    · obtain ⟨w, w1, w2, w3⟩ := hn.1 t c
      exact ⟨w, fun _ => ⟨w1, w2, w3⟩⟩
    · exact ⟨[], fun y => absurd y c⟩
  have b : ∀ t : Nat, ∃ w : List Nat, (t : Int) < h 1 → WordOk w ∧ σ.2.1 28 n t = Int64.ofInt ((enc5 w : Nat) : Int) ∧ σ.2.1 48 0 (6 + t) = Int64.ofInt ((enc8 w : Nat) : Int) := fun t => by
    by_cases c : (t : Int) < h 1
    · obtain ⟨w, w1, w2, w3⟩ := hn.2 t c
      exact ⟨w, fun _ => ⟨w1, w2, by rw [Nat.zero_add] at w3; exact w3⟩⟩
    · exact ⟨[], fun y => absurd y c⟩
  obtain ⟨tn, ht⟩ := Classical.axiomOfChoice a
  obtain ⟨mn, hm⟩ := Classical.axiomOfChoice b
  exact ⟨tn, mn, ht, hm⟩
theorem op_days {CALL : CT} (hC : RuleAll CALL) {r : Nat} {σ : AM} {K : AV → AV → AM → Prop} (hR : Rel σ) {z : Int} (z1 : -2147483648 ≤ z) (z2 : z < 2147483648) (h : ∀ v σ2, Rel σ2 → K v v σ2) : CALL (r + 20) n_x_days [.inr (.inr (1, 0)), .inl (Int32.ofInt z)] σ (fun v σ1 => CALL (r + 20) n_m_days [.inr (.inr (46, 0)), .inl (Int32.ofInt z)] σ1 (fun v' σ2 => K v v' σ2)) := by
  obtain ⟨⟨n, p, h0, ha⟩, hb, hst⟩ := id hR
  have hn := ha.nh
  obtain ⟨n45, hnn, hr, hm, ⟨hw, hw67⟩, h59⟩ := id hn
  have b := hw.1
  have hsy : SymE h0 := ha.2.2.2.2.2.2.2.2.2.2.1
  obtain ⟨q0, q1, q2, q3, q4, q5, q6, q7, q8, q9, qa, qt, qm, qe⟩ := id hr
  obtain ⟨k, hk, t1, t2, t3⟩ := id hb.2.2.1
  have bad : ¬ (0 ≤ z ∧ z ≤ (k : Int) ∧ z ≤ 300) → CALL (r + 20) n_x_days [.inr (.inr (1, 0)), .inl (Int32.ofInt z)] σ (fun v σ1 => CALL (r + 20) n_m_days [.inr (.inr (46, 0)), .inl (Int32.ofInt z)] σ1 (fun v' σ2 => K v v' σ2)) := by
    intro y
    refine r_x_days hC (fun J hJ => ?_)
    have b22 : J 22 [.inr (.inr (1, 0)), .inl (Int32.ofInt z), unset] [] σ := by
      refine hJ _ _ _ _ ?_
      conv => whnf
      refine s_none hC ?_
      conv => whnf
      refine m_days0 hC (k := k) z1 z2 (by rw [wI1, if_neg (by omega)]; exact t2) hk y ?_
      exact h _ _ (hR.sc done2.1 done2.2)
    refine hJ _ _ _ _ ?_
    conv => whnf
    rw [t1]
    refine s_within hC ?_
    conv => whnf
    refine ⟨fun c => ?_, fun c => ?_⟩
    · exact b22
    · rw [bI_ne0, decide_eq_true_eq, oi_le (by omega) (by omega) (by omega) (by omega), oi_le (by omega) (by omega) (by omega) (by omega)] at c
      conv => whnf
      refine ⟨fun c2 => ?_, fun c2 => ?_⟩ <;> (try simp (disch := omega) only [oi_le, oi_lt, oi_eq, oi_lt0, oi_le0, oi_0lt, oi_0le, oi_eq0, oi_eq1, bI_eq0, bI_ne0, bI_eq1, decide_eq_true_eq, decide_eq_false_iff_not, lc_lt, lc_gt, lc_eq, lc_ge, lc_le, ol_lt, ol_eq, ne_eq, Int.not_lt, Int.not_le, Bool.not_eq_true, Bool.not_eq_false, Decidable.not_not, not_true_eq_false, not_false_eq_true, Bool.true_eq_false, Bool.false_eq_true] at c2) <;> (first | (exfalso; omega) | ((fail_if_success with_reducible refine hJ _ _ _ _ ?_); conv => whnf) | skip)
      exact b22
  by_cases hz : 0 ≤ z ∧ z ≤ (k : Int) ∧ z ≤ 300
  case neg => exact bad hz
  clear bad
  obtain ⟨c1, c2, c300⟩ := hz
  obtain ⟨m, hm'⟩ : ∃ m : Nat, z = (m : Int) := ⟨z.toNat, by omega⟩
  subst hm'
  obtain ⟨B, hBd⟩ : ∃ B : Nat → Int, B = fun j => (σ.1 4 0 j).toInt := ⟨_, rfl⟩
  have b4 : ∀ j, j < m → 0 ≤ B j ∧ B j ≤ 255 ∧ σ.1 4 0 j = Int32.ofInt (B j) ∧ σ.1 52 0 j = Int32.ofInt (sg8 (B j).toNat) := by
    intro j hj
    obtain ⟨x, x1, x2, x3⟩ := t3 j (by omega)
    have e : B j = (x : Int) := by rw [hBd]; show (σ.1 4 0 j).toInt = _; rw [x2, ti_oi (by omega) (by omega)]
    rw [e, Int.toNat_natCast]
    exact ⟨by omega, by omega, x2, x3⟩
  have hB : BOk B m := ⟨by omega, fun j hj => ⟨(b4 j hj).1, (b4 j hj).2.1⟩⟩
  obtain ⟨-, hp2, r1, r2, r3, r4, hh⟩ := id ha
  obtain ⟨g1, g2, g3, g4, g5, g6, g7⟩ := id hh
  obtain ⟨tn, mn, wt, wm⟩ := g6.pick
  have n9 : n < 9 := by rcases n45 with e | e <;> omega
  have hnn0 : HN σ n tn mn (h0 0).toNat (h0 1).toNat := ⟨by omega, by omega, by rw [Int.toNat_of_nonneg (by omega)]; exact q0, by rw [Int.toNat_of_nonneg (by omega)]; exact q1, fun t ht => ⟨(wt t (by omega)).1, (wt t (by omega)).2.1⟩, fun t ht => ⟨(wm t (by omega)).1, (wm t (by omega)).2.1⟩⟩
  have hmm0 : HM σ tn mn (h0 0).toNat (h0 1).toNat := ⟨by omega, by omega, by rw [Int.toNat_of_nonneg (by omega)]; exact g2 0 (by omega), by rw [Int.toNat_of_nonneg (by omega)]; exact g2 1 (by omega), fun t ht => ⟨(wt t (by omega)).1, (wt t (by omega)).2.2⟩, fun t ht => ⟨(wm t (by omega)).1, (wm t (by omega)).2.2⟩⟩
  obtain ⟨p', hpd⟩ : ∃ p' : Nat, p' = 1 - p := ⟨_, rfl⟩
  have pp : p' < 2 ∧ p' ≠ p ∧ p = 1 - p' := by omega
  refine r_x_days hC (fun J hJ => ?_)
  refine hJ _ _ _ _ ?_
  conv => whnf
  rw [t1]
  refine s_within hC ?_
  conv => whnf
  refine ⟨fun c => ?_, fun c => ?_⟩
  case refine_1 =>
    rw [bI_eq0, decide_eq_false_iff_not, oi_le (by omega) (by omega) (by omega) (by omega), oi_le (by omega) (by omega) (by omega) (by omega)] at c
    omega
  clear c
  conv => whnf
  refine ⟨fun c3 => ?_, fun c3 => ?_⟩ <;> (try simp (disch := omega) only [oi_le, oi_lt, oi_eq, oi_lt0, oi_le0, oi_0lt, oi_0le, oi_eq0, oi_eq1, bI_eq0, bI_ne0, bI_eq1, decide_eq_true_eq, decide_eq_false_iff_not, lc_lt, lc_gt, lc_eq, lc_ge, lc_le, ol_lt, ol_eq, ne_eq, Int.not_lt, Int.not_le, Bool.not_eq_true, Bool.not_eq_false, Decidable.not_not, not_true_eq_false, not_false_eq_true, Bool.true_eq_false, Bool.false_eq_true] at c3) <;> (first | (exfalso; omega) | ((with_reducible refine hJ _ _ _ _ ?_); conv => whnf) | (conv => whnf))
  refine c_begin hC hB hb.2.2.2.2.2.2 (fun j hj => (b4 j hj).2.2.1) (fun σ1 a1 a2 a3 a4 f1 => ?_)
  conv => whnf
  rw [show σ1.2.2 1 0 14 = p' by rw [f1.2.2, hpd]; exact r4]
  refine ⟨by omega, ?_⟩
  conv => whnf
  rw [show σ1.2.2 1 0 11 = n by rw [f1.2.2]; exact r1]
  refine ⟨n9, ?_⟩
  conv => whnf
  have hn1 : HN σ1 n tn mn (h0 0).toNat (h0 1).toNat := by
    obtain ⟨e1, e2, e3, e4, e5, e6⟩ := hnn0
    exact ⟨e1, e2, by rw [f1.1 _ _ _ (by omega)]; exact e3, by rw [f1.1 _ _ _ (by omega)]; exact e4, fun t ht => by rw [f1.2.1 _ _ _ (by unfold tkL; omega)]; exact e5 t ht, fun t ht => by rw [f1.2.1 _ _ _ (by unfold tkL; omega)]; exact e6 t ht⟩
  refine c_dtakes hC (p := p') a1 hn1 (by omega) n9 (by omega) a3 a4 (fun bb σ2 o2 e8 f2 => ?_)
  have y1 : ∀ t i j, ¬ (t = 3 ∧ i = 0) → ¬ dyS p' t i j → σ2.1 t i j = σ.1 t i j := fun t i j y1 y2 => by
    rw [f2.1 _ _ _ y2, wR0, wR0, f1.1 _ _ _ y1]
  have yl : ∀ t i j, ¬ tkL t i j → σ2.2.1 t i j = σ.2.1 t i j := fun t i j y1 => by
    rw [f2.2.1 _ _ _ y1]
    exact f1.2.1 _ _ _ y1
  have yr : ∀ j, σ2.2.2 1 0 j = σ.2.2 1 0 j := fun j => by
    rw [f2.2.2, wR1, if_neg (by omega), wR1, if_neg (by omega), f1.2.2]
  have y32 : σ2.1 3 0 2 = Int32.ofInt 0 := by
    rw [f2.1 _ _ _ (by unfold dyS; omega), wR0, wR0]; exact a2
  cases eR : dFin B m (dAll B m tn mn (h0 0).toNat (h0 1).toNat 301 (D0 (tokF B m 0))) with
  | inr d =>
    obtain ⟨d1, d2⟩ := d
    rw [eR] at o2
    obtain ⟨ob, o3, o4⟩ := o2
    subst ob
    conv => whnf
    refine ⟨fun c4 => ?_, fun c4 => ?_⟩ <;> (try simp (disch := omega) only [oi_le, oi_lt, oi_eq, oi_lt0, oi_le0, oi_0lt, oi_0le, oi_eq0, oi_eq1, bI_eq0, bI_ne0, bI_eq1, decide_eq_true_eq, decide_eq_false_iff_not, lc_lt, lc_gt, lc_eq, lc_ge, lc_le, ol_lt, ol_eq, ne_eq, Int.not_lt, Int.not_le, Bool.not_eq_true, Bool.not_eq_false, Decidable.not_not, not_true_eq_false, not_false_eq_true, Bool.true_eq_false, Bool.false_eq_true] at c4) <;> (first | (exfalso; omega) | ((with_reducible refine hJ _ _ _ _ ?_); conv => whnf) | (conv => whnf))
    refine s_none hC ?_
    conv => whnf
    have w2 : ∀ t i j, ¬ (t = 3 ∧ i = 0) → ¬ dyS p' t i j → ¬ (t = 1 ∧ i = 0 ∧ j = 16) → (wI σ2 1 0 16 (Int32.ofInt 9)).1 t i j = σ.1 t i j := fun t i j x1 x2 x3 => by
      rw [wI1, if_neg x3]; exact y1 t i j x1 x2
    have hm2 : HM (wI σ2 1 0 16 (Int32.ofInt 9)) tn mn (h0 0).toNat (h0 1).toNat := by
      obtain ⟨e1, e2, e3, e4, e5, e6⟩ := hmm0
      exact ⟨e1, e2, by rw [w2 _ _ _ (by omega) (by unfold dyS; omega) (by omega)]; exact e3, by rw [w2 _ _ _ (by omega) (by unfold dyS; omega) (by omega)]; exact e4, fun t ht => ⟨(e5 t ht).1, (yl _ _ _ (by unfold tkL; omega)).trans (e5 t ht).2⟩, fun t ht => ⟨(e6 t ht).1, (yl _ _ _ (by unfold tkL; omega)).trans (e6 t ht).2⟩⟩
    refine m_daysS hC (B := B) (k := k) (n := m) (by rw [w2 _ _ _ (by omega) (by unfold dyS; omega) (by omega)]; exact t2) hk hB (by omega) (by omega) (fun j hj => by rw [w2 _ _ _ (by omega) (by unfold dyS; omega) (by omega)]; exact (b4 j hj).2.2.2) hm2 (fun S σ3 y => by rw [eR] at y; cases y) (fun c' p0 σ3 y u10 u16 u17 u2 f3 => ?_)
    rw [eR] at y
    obtain ⟨x1, x2⟩ := Prod.mk.inj (Sum.inr.inj y)
    subst x1
    subst x2
    have w3 : ∀ t i j, ¬ (t = 3 ∧ i = 0) → ¬ dyS p' t i j → ¬ (t = 1 ∧ i = 0 ∧ j = 16) → ¬ dsS t i j → σ3.1 t i j = σ.1 t i j := fun t i j x1 x2 x3 x4 => by
      rw [f3.1 _ _ _ x4]; exact w2 t i j x1 x2 x3
    have wl3 : ∀ t i j, ¬ tkL t i j → σ3.2.1 t i j = σ.2.1 t i j := fun t i j x1 => by
      rw [f3.2]; exact yl t i j x1
    have wr3 : ∀ j, σ3.2.2 1 0 j = σ.2.2 1 0 j := fun j => by rw [f3.2]; exact yr j
    refine h _ _ ⟨⟨n, p, h0, n45, hp2, by rw [wr3]; exact r1, by rw [wr3]; exact r2, by rw [wr3]; exact r3, by rw [wr3]; exact r4, ?_⟩, ?_, ?_⟩
    · refine hh.cg (fun t j hin => w3 _ _ _ ?_ ?_ ?_ ?_) (fun t j hin => wl3 _ _ _ ?_) (fun j hj => w3 _ _ _ ?_ ?_ ?_ ?_) (fun j hj => wl3 _ _ _ ?_) (w3 _ _ _ ?_ ?_ ?_ ?_) (w3 _ _ _ ?_ ?_ ?_ ?_) (fun k _ t a b => w3 _ _ _ ?_ ?_ ?_ ?_)
      all_goals ((try unfold inHI at hin) <;> (try unfold inHL at hin) <;> (try unfold dyS) <;> (try unfold dsS bmS dmT) <;> (try unfold tkL) <;> omega)
    · refine hb.cw (fun t i j kk => w3 _ _ _ ?_ ?_ ?_ ?_) (fun t i j kk => wl3 _ _ _ ?_) ⟨0, by omega, ?_, u10, fun j hj => by omega⟩ ⟨?_, ?_⟩
      any_goals ((try unfold kC' at kk) <;> (try unfold kBL at kk) <;> (try unfold dyS) <;> (try unfold dsS bmS dmT) <;> (try unfold tkL) <;> omega)
      · rw [f3.1 _ _ _ (by unfold dsS bmS dmT; omega), wI1, if_neg (by omega)]; exact y32
      · rw [u16, f3.1 _ _ _ (by unfold dsS bmS dmT; omega), wI1, if_neg (by omega)]; exact o3
      · rw [u17, f3.1 _ _ _ (by unfold dsS bmS dmT; omega), wI1, if_neg (by omega)]; exact o4
    · rw [u2, f3.1 _ _ _ (by unfold dsS bmS dmT; omega), wI_16]
  | inl S =>
    rw [eR] at o2
    obtain ⟨ob, hc2⟩ := o2
    subst ob
    have e8 := e8 rfl
    obtain ⟨er, eo⟩ := dFin_inl eR
    have tf := tokF_ok (B := B) (L := m) (e0 := 0) (by omega)
    obtain ⟨⟨dep, pk⟩, -⟩ := dAll_ok hB 301 (D0 (tokF B m 0)) S (fun _ => 0) (D0_DI tf.2.1) (by show m ≤ tokF B m 0 + 301; omega) er
    have wd := pk.fin eo
    rw [Int.toNat_of_nonneg (by omega), Int.toNat_of_nonneg (by omega)] at wd
    conv => whnf
    refine ⟨fun c4 => ?_, fun c4 => ?_⟩ <;> (try simp (disch := omega) only [oi_le, oi_lt, oi_eq, oi_lt0, oi_le0, oi_0lt, oi_0le, oi_eq0, oi_eq1, bI_eq0, bI_ne0, bI_eq1, decide_eq_true_eq, decide_eq_false_iff_not, lc_lt, lc_gt, lc_eq, lc_ge, lc_le, ol_lt, ol_eq, ne_eq, Int.not_lt, Int.not_le, Bool.not_eq_true, Bool.not_eq_false, Decidable.not_not, not_true_eq_false, not_false_eq_true, Bool.true_eq_false, Bool.false_eq_true] at c4) <;> (first | (exfalso; omega) | ((with_reducible refine hJ _ _ _ _ ?_); conv => whnf) | (conv => whnf))
    rw [yr 13, r3]
    refine ⟨by omega, ?_⟩
    conv => whnf
    rw [yr 14, r4, ← hpd]
    refine ⟨by omega, ?_⟩
    conv => whnf
    rw [show (wR (wR σ2 1 0 13 p') 1 0 14 p).2.2 1 0 13 = p' by rw [wR1, if_neg (by omega), wR1, if_pos ⟨rfl, rfl, rfl⟩]]
    refine ⟨by omega, ?_⟩
    conv => whnf
    rw [wR0, wR0, hc2.2.2.2.2.2.2.1]
    refine s_give hC ?_
    conv => whnf
    have v1 : ∀ t i j, ¬ (t = 1 ∧ i = 0 ∧ j = 16) → (wI (wR (wR σ2 1 0 13 p') 1 0 14 p) 1 0 16 (Int32.ofInt 0)).1 t i j = σ2.1 t i j := fun t i j y => by
      rw [wI1, if_neg y, wR0, wR0]
    have v16 : (wI (wR (wR σ2 1 0 13 p') 1 0 14 p) 1 0 16 (Int32.ofInt 0)).1 1 0 16 = Int32.ofInt 0 := wI_16
    have vl : (wI (wR (wR σ2 1 0 13 p') 1 0 14 p) 1 0 16 (Int32.ofInt 0)).2.1 = σ2.2.1 := rfl
    have vr : ∀ j, (wI (wR (wR σ2 1 0 13 p') 1 0 14 p) 1 0 16 (Int32.ofInt 0)).2.2 1 0 j = if j = 14 then p else if j = 13 then p' else σ.2.2 1 0 j := fun j => by
      rw [wI22, wR1]
      by_cases j14 : j = 14
      · rw [if_pos ⟨rfl, rfl, j14⟩, if_pos j14]
      · rw [if_neg (by omega), if_neg j14, wR1]
        by_cases j13 : j = 13
        · rw [if_pos ⟨rfl, rfl, j13⟩, if_pos j13]
        · rw [if_neg (by omega), if_neg j13, yr j]
    revert v1 v16 vl vr
    generalize (wI (wR (wR σ2 1 0 13 p') 1 0 14 p) 1 0 16 (Int32.ofInt 0)) = τ
    intro v1 v16 vl vr
    have w2 : ∀ t i j, ¬ (t = 3 ∧ i = 0) → ¬ dyS p' t i j → ¬ (t = 1 ∧ i = 0 ∧ j = 16) → τ.1 t i j = σ.1 t i j := fun t i j x1 x2 x3 => by
      rw [v1 _ _ _ x3]; exact y1 t i j x1 x2
    have hm2 : HM τ tn mn (h0 0).toNat (h0 1).toNat := by
      obtain ⟨e1, e2, e3, e4, e5, e6⟩ := hmm0
      exact ⟨e1, e2, by rw [w2 _ _ _ (by omega) (by unfold dyS; omega) (by omega)]; exact e3, by rw [w2 _ _ _ (by omega) (by unfold dyS; omega) (by omega)]; exact e4, fun t ht => ⟨(e5 t ht).1, by rw [vl]; exact (yl _ _ _ (by unfold tkL; omega)).trans (e5 t ht).2⟩, fun t ht => ⟨(e6 t ht).1, by rw [vl]; exact (yl _ _ _ (by unfold tkL; omega)).trans (e6 t ht).2⟩⟩
    refine m_daysS hC (B := B) (k := k) (n := m) (by rw [w2 _ _ _ (by omega) (by unfold dyS; omega) (by omega)]; exact t2) hk hB (by omega) (by omega) (fun j hj => by rw [w2 _ _ _ (by omega) (by unfold dyS; omega) (by omega)]; exact (b4 j hj).2.2.2) hm2 (fun S' σ3 y hf u10 u16 u17 u2 f3 => ?_) (fun c' p0 σ3 y => by rw [eR] at y; cases y)
    rw [eR] at y
    have y := Sum.inl.inj y
    subst y
    have w3 : ∀ t i j, ¬ (t = 3 ∧ i = 0) → ¬ dyS p' t i j → ¬ (t = 1 ∧ i = 0 ∧ j = 16) → ¬ dsT t i j → σ3.1 t i j = σ.1 t i j := fun t i j x1 x2 x3 x4 => by
      rw [f3.1 _ _ _ x4]; exact w2 t i j x1 x2 x3
    have wl3 : ∀ t i j, ¬ tkL t i j → σ3.2.1 t i j = σ.2.1 t i j := fun t i j x1 => by
      rw [f3.2, vl]; exact yl t i j x1
    have w4 : ∀ t i j, ¬ (t = 1 ∧ i = 0 ∧ j = 16) → ¬ dsT t i j → σ3.1 t i j = σ2.1 t i j := fun t i j x1 x2 => by
      rw [f3.1 _ _ _ x2, v1 _ _ _ x1]
    have wr3 : ∀ j, σ3.2.2 1 0 j = if j = 14 then p else if j = 13 then p' else σ.2.2 1 0 j := fun j => by rw [f3.2]; exact vr j
    obtain ⟨h1, h2, h3, h4, h5, h6, h7, h8, h9, h10, h11, h12⟩ := id hc2
    refine h _ _ ⟨⟨n, p', up h0 10 (S.2.1 : Int), n45, pp.1, by rw [wr3]; exact r1, by rw [wr3]; exact r2, by rw [wr3]; rfl, by rw [wr3]; exact pp.2.2, ?_, ?_, g3.u10, by rw [up_ne (by omega)]; exact g4, g5.u10, ?_, Or.inr ⟨S.2.1, S.2.2.1, dep, up_eq, ?_, ?_, by rw [up_ne (by omega), up_ne (by omega)]; exact wd, fun i hi => ⟨?_, fun j hj => ?_⟩⟩⟩, ?_, ?_⟩
    · refine (g1.cp g3.1 (fun t j hin => w3 _ _ _ ?_ ?_ ?_ ?_)).u10
      all_goals ((try unfold inHI at hin) <;> (try unfold dyS) <;> (try unfold dsT dsS bmS dmT) <;> omega)
    · intro j hj
      rw [Nat.zero_add]
      by_cases j10 : j = 10
      · rw [j10, up_eq]; exact hf.1
      · rw [up_ne j10, w3 _ _ _ (by omega) (by unfold dyS; omega) (by omega) (by unfold dsT dsS bmS dmT; omega)]
        have := g2 j hj
        rw [Nat.zero_add] at this
        exact this
    · refine g6.cg g3.1 (up_ne (by omega)) (up_ne (by omega)) (fun j hj => wl3 _ _ _ ?_) (fun j hj => wl3 _ _ _ ?_) (fun j hj => wl3 _ _ _ ?_)
      all_goals (unfold tkL; omega)
    · rw [w4 _ _ _ (by omega) (by unfold dsT dsS bmS dmT; omega)]; exact e8
    · rw [w4 _ _ _ (by omega) (by unfold dsT dsS bmS dmT; omega)]; exact h6
    · obtain ⟨s1, s2⟩ := h10 i hi
      have s1 := s1.cg (σ' := σ3) (fun t _ _ => w4 _ _ _ (by omega) (by unfold dsT dsS bmS dmT; omega))
      obtain ⟨x1, x2, x3, x4, x5⟩ := s1
      refine ⟨x1, x2, x3, x4, x5, fun x6 => ?_⟩
      rw [w4 _ _ _ (by omega) (by unfold dsT dsS bmS dmT; omega)]
      exact s2 x6 (fun l hl => by omega)
    · rw [Nat.zero_add]
      exact hf.2 i hi j hj
    · refine hb.cw (fun t i j kk => w3 _ _ _ ?_ ?_ ?_ ?_) (fun t i j kk => wl3 _ _ _ ?_) ⟨0, by omega, ?_, u10, fun j hj => by omega⟩ ⟨?_, ?_⟩
      any_goals ((try unfold kC' at kk) <;> (try unfold kBL at kk) <;> (try unfold dyS) <;> (try unfold dsT dsS bmS dmT) <;> (try unfold tkL) <;> omega)
      · rw [w4 _ _ _ (by omega) (by unfold dsT dsS bmS dmT; omega)]; exact y32
      · rw [u16, w4 _ _ _ (by omega) (by unfold dsT dsS bmS dmT; omega)]; exact h11
      · rw [u17, w4 _ _ _ (by omega) (by unfold dsT dsS bmS dmT; omega)]; exact h12
    · rw [u2, f3.1 _ _ _ (by unfold dsT dsS bmS dmT; omega)]; exact v16
