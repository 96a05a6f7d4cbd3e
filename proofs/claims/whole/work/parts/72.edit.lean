theorem HRep.ch {σ σ' : AM} {n : Nat} {h : Nat → Int} {S : Nat → Nat → Nat → Prop} (hr : HRep σ n h) (hc : Ch S σ σ') (hs : ∀ t j, 22 ≤ t → t ≤ 36 → ¬ S t n j) : HRep σ' n h := by
  rw [HRep_hix] at hr ⊢
  refine ⟨fun t j q => ?_, ?_⟩
  · rw [hc.1 t n j (hs t j (by unfold hin at q; omega) (by unfold hin at q; omega))]
    exact hr.1 t j q
  · rw [hc.1 27 n 7 (hs 27 7 (by omega) (by omega))]
    exact hr.2
def cE (n t i j : Nat) : Prop := HS n t i ∨ (t = 1 ∧ i = 0 ∧ j = 16)
def mE (t i j : Nat) : Prop := (t = 47 ∧ i = 0 ∧ j < 97) ∨ (t = 46 ∧ i = 0 ∧ (j = 2 ∨ j = 24 ∨ j = 25 ∨ j = 26))
theorem Ch.ofFr {σ σ' : AM} {n : Nat} (hf : Fr (HS n) σ σ') (h2 : σ'.2 = σ.2) : Ch (cE n) σ σ' := ⟨fun t i j q => congrFun (hf t i (fun z => q (Or.inl z))).1 j, h2⟩
theorem Ch.toE {σ σ' : AM} (h : Ch mS σ σ') : Ch mE σ σ' := h.mo (fun t i j q => by unfold mS at q; unfold mE; omega)
theorem Rel.edit2 {σ σ1 σ2 : AM} {n p : Nat} {h h' : Nat → Int} {x : Int32} (ha : RelA σ n p h) (hb : RelB σ) (hr : HRep σ1 n h') (hm : M0 σ2 h') (hw : WP h') (h5 : h' 5 ≤ 9999) (hs : SymE h') (e0 : h' 0 = h 0) (e1 : h' 1 = h 1) (e10 : h' 10 = h 10) (hc : Ch (cE n) σ σ1) (hc2 : Ch mE σ1 σ2) (hx : σ1.1 1 0 16 = x) (hy : σ2.1 46 0 2 = x) : Rel σ2 := by
  refine Rel.edit ha hb (hr.ch hc2 (fun t j a c => by unfold mE; omega)) hm hw h5 hs e0 e1 e10 ((hc.mo (fun t i j q => ?_)).tr (hc2.mo (fun t i j q => ?_))) ?_
  · rcases q with q | q
    · exact Or.inl q
    · exact Or.inr (Or.inr (Or.inl q))
  · unfold mE at q; unfold edS; omega
  · rw [hc2.1 1 0 16 (by unfold mE; omega), hx, hy]
theorem cE_c {n : Nat} : cE n 1 0 16 := Or.inr ⟨rfl, rfl, rfl⟩
theorem cE_h {n t j : Nat} (h1 : 22 ≤ t) (h2 : t ≤ 36) : cE n t n j := Or.inl ⟨h1, h2, rfl⟩
theorem mE_s : mE 46 0 2 := Or.inr ⟨rfl, rfl, Or.inl rfl⟩
theorem mE_a {j : Nat} (h : j < 97) : mE 47 0 j := Or.inl ⟨rfl, rfl, h⟩
theorem HRep.c {σ : AM} {n : Nat} {h : Nat → Int} {x : Int32} (hr : HRep σ n h) : HRep (wI σ 1 0 16 x) n h := hr.ch (S := fun t i j => t = 1) (Ch.wI rfl) (fun t j a b => by omega)
theorem wI_16 {σ : AM} {x : Int32} {t i j : Nat} : (wI σ t i j x).1 t i j = x := by rw [wI1, if_pos ⟨rfl, rfl, rfl⟩]
theorem minF_ear (h : Nat → Int) (m : Nat) : minF h (30 + 7 * m) = h (30 + 7 * m) := by
  have := goF_w (hP h) (speechS h) (m := m) (w := 6) (by omega) (by omega) (by omega) (by omega)
  rw [show 24 + 6 + 7 * m = 30 + 7 * m by omega] at this
  show goF (hP h) (speechS h) (30 + 7 * m) = _
  rw [this, hP_ne h (by omega) (by omega)]
theorem minN_ear : ∀ (k : Nat) (h : Nat → Int) (m : Nat), minN k h (30 + 7 * m) = h (30 + 7 * m)
  | 0, h, m => rfl
  | k + 1, h, m => by rw [minN_succ, minF_ear, minN_ear k h m]
theorem op_status {CALL : CT} (hC : RuleAll CALL) {r : Nat} {σ : AM} {K : AV → AV → AM → Prop} (hR : Rel σ) (h : ∀ v σ2, Rel σ2 → K v v σ2) : CALL (r + 20) n_x_status [.inr (.inr (1, 0))] σ (fun v σ1 => CALL (r + 20) n_m_status [.inr (.inr (46, 0))] σ1 (fun v' σ2 => K v v' σ2)) := by
  obtain ⟨⟨n, p, h0, ha⟩, hb, hst⟩ := id hR
  have hn := ha.nh
  obtain ⟨n45, hnn, hr, hm, ⟨hw, hw67⟩, h59⟩ := id hn
  have b := hw.1
  have hsy : SymE h0 := ha.2.2.2.2.2.2.2.2.2.2.1
  obtain ⟨q0, q1, q2, q3, q4, q5, q6, q7, q8, q9, qa, qt, qm, qe⟩ := id hr
  refine r_x_status hC (fun J hJ => ?_)
  refine hJ _ _ _ _ ?_
  conv => whnf
  refine r_m_status hC (fun J hJ => ?_)
  refine hJ _ _ _ _ ?_
  conv => whnf
  rw [hst]
  exact h _ _ hR
theorem op_top {CALL : CT} (hC : RuleAll CALL) {r : Nat} {σ : AM} {K : AV → AV → AM → Prop} (hR : Rel σ) (h : ∀ v σ2, Rel σ2 → K v v σ2) : CALL (r + 20) n_x_top [.inr (.inr (1, 0))] σ (fun v σ1 => CALL (r + 20) n_m_top [.inr (.inr (46, 0))] σ1 (fun v' σ2 => K v v' σ2)) := by
  obtain ⟨⟨n, p, h0, ha⟩, hb, hst⟩ := id hR
  have hn := ha.nh
  obtain ⟨n45, hnn, hr, hm, ⟨hw, hw67⟩, h59⟩ := id hn
  have b := hw.1
  have hsy : SymE h0 := ha.2.2.2.2.2.2.2.2.2.2.1
  obtain ⟨q0, q1, q2, q3, q4, q5, q6, q7, q8, q9, qa, qt, qm, qe⟩ := id hr
  refine r_x_top hC (fun J hJ => ?_)
  refine hJ _ _ _ _ ?_
  conv => whnf
  refine r_m_top hC (fun J hJ => ?_)
  refine hJ _ _ _ _ ?_
  conv => whnf
  rw [hb.2.2.2.2.2.1.1]
  exact h _ _ hR
theorem op_bottom {CALL : CT} (hC : RuleAll CALL) {r : Nat} {σ : AM} {K : AV → AV → AM → Prop} (hR : Rel σ) (h : ∀ v σ2, Rel σ2 → K v v σ2) : CALL (r + 20) n_x_bottom [.inr (.inr (1, 0))] σ (fun v σ1 => CALL (r + 20) n_m_bottom [.inr (.inr (46, 0))] σ1 (fun v' σ2 => K v v' σ2)) := by
  obtain ⟨⟨n, p, h0, ha⟩, hb, hst⟩ := id hR
  have hn := ha.nh
  obtain ⟨n45, hnn, hr, hm, ⟨hw, hw67⟩, h59⟩ := id hn
  have b := hw.1
  have hsy : SymE h0 := ha.2.2.2.2.2.2.2.2.2.2.1
  obtain ⟨q0, q1, q2, q3, q4, q5, q6, q7, q8, q9, qa, qt, qm, qe⟩ := id hr
  refine r_x_bottom hC (fun J hJ => ?_)
  refine hJ _ _ _ _ ?_
  conv => whnf
  refine r_m_bottom hC (fun J hJ => ?_)
  refine hJ _ _ _ _ ?_
  conv => whnf
  rw [hb.2.2.2.2.2.1.2]
  exact h _ _ hR
theorem op_fault {CALL : CT} (hC : RuleAll CALL) {r : Nat} {σ : AM} {K : AV → AV → AM → Prop} (hR : Rel σ) {z : Int} (z1 : -2147483648 ≤ z) (z2 : z < 2147483648) (h : ∀ v σ2, Rel σ2 → K v v σ2) : CALL (r + 20) n_x_fault [.inr (.inr (1, 0)), .inl (Int32.ofInt z)] σ (fun v σ1 => CALL (r + 20) n_m_fault [.inr (.inr (46, 0)), .inl (Int32.ofInt z)] σ1 (fun v' σ2 => K v v' σ2)) := by
  obtain ⟨⟨n, p, h0, ha⟩, hb, hst⟩ := id hR
  have hn := ha.nh
  obtain ⟨n45, hnn, hr, hm, ⟨hw, hw67⟩, h59⟩ := id hn
  have b := hw.1
  have hsy : SymE h0 := ha.2.2.2.2.2.2.2.2.2.2.1
  obtain ⟨q0, q1, q2, q3, q4, q5, q6, q7, q8, q9, qa, qt, qm, qe⟩ := id hr
  obtain ⟨f1, f2⟩ := hb.2.2.2.1
  refine r_x_fault hC (fun J hJ => ?_)
  refine hJ _ _ _ _ ?_
  conv => whnf
  refine ⟨fun c => ?_, fun c => ?_⟩ <;> (try simp (disch := omega) only [oi_le, oi_lt, oi_eq, oi_lt0, oi_le0, oi_0lt, oi_0le, oi_eq0, oi_eq1, bI_eq0, bI_ne0, bI_eq1, decide_eq_true_eq, decide_eq_false_iff_not, lc_lt, lc_gt, lc_eq, lc_ge, lc_le, ol_lt, ol_eq, ne_eq, Int.not_lt, Int.not_le, Bool.not_eq_true, Bool.not_eq_false, Decidable.not_not, not_true_eq_false, not_false_eq_true, Bool.true_eq_false, Bool.false_eq_true] at c) <;> (first | (exfalso; omega) | ((with_reducible refine hJ _ _ _ _ ?_); conv => whnf) | (conv => whnf))
  · refine ⟨fun c2 => ?_, fun c2 => ?_⟩ <;> (try simp (disch := omega) only [oi_le, oi_lt, oi_eq, oi_lt0, oi_le0, oi_0lt, oi_0le, oi_eq0, oi_eq1, bI_eq0, bI_ne0, bI_eq1, decide_eq_true_eq, decide_eq_false_iff_not, lc_lt, lc_gt, lc_eq, lc_ge, lc_le, ol_lt, ol_eq, ne_eq, Int.not_lt, Int.not_le, Bool.not_eq_true, Bool.not_eq_false, Decidable.not_not, not_true_eq_false, not_false_eq_true, Bool.true_eq_false, Bool.false_eq_true] at c2) <;> (first | (exfalso; omega) | ((with_reducible refine hJ _ _ _ _ ?_); conv => whnf) | (conv => whnf))
    · refine hJ _ _ _ _ ?_
      conv => whnf
      refine r_m_fault hC (fun J hJ => ?_)
      refine hJ _ _ _ _ ?_
      conv => whnf
      refine ⟨fun c3 => ?_, fun c3 => ?_⟩ <;> (try simp (disch := omega) only [oi_le, oi_lt, oi_eq, oi_lt0, oi_le0, oi_0lt, oi_0le, oi_eq0, oi_eq1, bI_eq0, bI_ne0, bI_eq1, decide_eq_true_eq, decide_eq_false_iff_not, lc_lt, lc_gt, lc_eq, lc_ge, lc_le, ol_lt, ol_eq, ne_eq, Int.not_lt, Int.not_le, Bool.not_eq_true, Bool.not_eq_false, Decidable.not_not, not_true_eq_false, not_false_eq_true, Bool.true_eq_false, Bool.false_eq_true] at c3) <;> (first | (exfalso; omega) | ((with_reducible refine hJ _ _ _ _ ?_); conv => whnf) | (conv => whnf))
      refine ⟨fun c4 => ?_, fun c4 => ?_⟩ <;> (try simp (disch := omega) only [oi_le, oi_lt, oi_eq, oi_lt0, oi_le0, oi_0lt, oi_0le, oi_eq0, oi_eq1, bI_eq0, bI_ne0, bI_eq1, decide_eq_true_eq, decide_eq_false_iff_not, lc_lt, lc_gt, lc_eq, lc_ge, lc_le, ol_lt, ol_eq, ne_eq, Int.not_lt, Int.not_le, Bool.not_eq_true, Bool.not_eq_false, Decidable.not_not, not_true_eq_false, not_false_eq_true, Bool.true_eq_false, Bool.false_eq_true] at c4) <;> (first | (exfalso; omega) | ((with_reducible refine hJ _ _ _ _ ?_); conv => whnf) | (conv => whnf))
      refine hJ _ _ _ _ ?_
      conv => whnf
      exact h _ _ hR
    · refine hJ _ _ _ _ ?_
      conv => whnf
      refine r_m_fault hC (fun J hJ => ?_)
      refine hJ _ _ _ _ ?_
      conv => whnf
      refine ⟨fun c3 => ?_, fun c3 => ?_⟩ <;> (try simp (disch := omega) only [oi_le, oi_lt, oi_eq, oi_lt0, oi_le0, oi_0lt, oi_0le, oi_eq0, oi_eq1, bI_eq0, bI_ne0, bI_eq1, decide_eq_true_eq, decide_eq_false_iff_not, lc_lt, lc_gt, lc_eq, lc_ge, lc_le, ol_lt, ol_eq, ne_eq, Int.not_lt, Int.not_le, Bool.not_eq_true, Bool.not_eq_false, Decidable.not_not, not_true_eq_false, not_false_eq_true, Bool.true_eq_false, Bool.false_eq_true] at c3) <;> (first | (exfalso; omega) | ((with_reducible refine hJ _ _ _ _ ?_); conv => whnf) | (conv => whnf))
      refine ⟨fun c4 => ?_, fun c4 => ?_⟩ <;> (try simp (disch := omega) only [oi_le, oi_lt, oi_eq, oi_lt0, oi_le0, oi_0lt, oi_0le, oi_eq0, oi_eq1, bI_eq0, bI_ne0, bI_eq1, decide_eq_true_eq, decide_eq_false_iff_not, lc_lt, lc_gt, lc_eq, lc_ge, lc_le, ol_lt, ol_eq, ne_eq, Int.not_lt, Int.not_le, Bool.not_eq_true, Bool.not_eq_false, Decidable.not_not, not_true_eq_false, not_false_eq_true, Bool.true_eq_false, Bool.false_eq_true] at c4) <;> (first | (exfalso; omega) | ((with_reducible refine hJ _ _ _ _ ?_); conv => whnf) | (conv => whnf))
      refine hJ _ _ _ _ ?_
      conv => whnf
      rw [f2]
      exact h _ _ hR
  · refine r_m_fault hC (fun J hJ => ?_)
    refine hJ _ _ _ _ ?_
    conv => whnf
    refine ⟨fun c3 => ?_, fun c3 => ?_⟩ <;> (try simp (disch := omega) only [oi_le, oi_lt, oi_eq, oi_lt0, oi_le0, oi_0lt, oi_0le, oi_eq0, oi_eq1, bI_eq0, bI_ne0, bI_eq1, decide_eq_true_eq, decide_eq_false_iff_not, lc_lt, lc_gt, lc_eq, lc_ge, lc_le, ol_lt, ol_eq, ne_eq, Int.not_lt, Int.not_le, Bool.not_eq_true, Bool.not_eq_false, Decidable.not_not, not_true_eq_false, not_false_eq_true, Bool.true_eq_false, Bool.false_eq_true] at c3) <;> (first | (exfalso; omega) | ((with_reducible refine hJ _ _ _ _ ?_); conv => whnf) | (conv => whnf))
    refine hJ _ _ _ _ ?_
    conv => whnf
    rw [f1]
    exact h _ _ hR
theorem op_minute {CALL : CT} (hC : RuleAll CALL) {r : Nat} {σ : AM} {K : AV → AV → AM → Prop} (hR : Rel σ) {z : Int} (z1 : -2147483648 ≤ z) (z2 : z < 2147483648) (h : ∀ v σ2, Rel σ2 → K v v σ2) : CALL (r + 20) n_x_minute [.inr (.inr (1, 0)), .inl (Int32.ofInt z)] σ (fun v σ1 => CALL (r + 20) n_m_minute [.inr (.inr (46, 0)), .inl (Int32.ofInt z)] σ1 (fun v' σ2 => K v v' σ2)) := by
  obtain ⟨⟨n, p, h0, ha⟩, hb, hst⟩ := id hR
  have hn := ha.nh
  obtain ⟨n45, hnn, hr, hm, ⟨hw, hw67⟩, h59⟩ := id hn
  have b := hw.1
  have hsy : SymE h0 := ha.2.2.2.2.2.2.2.2.2.2.1
  obtain ⟨q0, q1, q2, q3, q4, q5, q6, q7, q8, q9, qa, qt, qm, qe⟩ := id hr
  refine r_x_minute hC (fun J hJ => ?_)
  refine hJ _ _ _ _ ?_
  conv => whnf
  refine s_withinI hC (by omega) (by omega) (by omega) (by omega) (by omega) (by omega) ?_
  conv => whnf
  refine ⟨fun c => ?_, fun c => ?_⟩ <;> (try simp (disch := omega) only [oi_le, oi_lt, oi_eq, oi_lt0, oi_le0, oi_0lt, oi_0le, oi_eq0, oi_eq1, bI_eq0, bI_ne0, bI_eq1, decide_eq_true_eq, decide_eq_false_iff_not, lc_lt, lc_gt, lc_eq, lc_ge, lc_le, ol_lt, ol_eq, ne_eq, Int.not_lt, Int.not_le, Bool.not_eq_true, Bool.not_eq_false, Decidable.not_not, not_true_eq_false, not_false_eq_true, Bool.true_eq_false, Bool.false_eq_true] at c) <;> (first | (exfalso; omega) | ((with_reducible refine hJ _ _ _ _ ?_); conv => whnf) | (conv => whnf))
  · obtain ⟨k, rfl⟩ : ∃ k : Nat, z = (k : Int) := ⟨z.toNat, by omega⟩
    rw [hnn]
    refine ⟨by omega, ?_⟩
    conv => whnf
    rw [q5, oi_add]
    refine ⟨fun c2 => ?_, fun c2 => ?_⟩ <;> (try simp (disch := omega) only [oi_le, oi_lt, oi_eq, oi_lt0, oi_le0, oi_0lt, oi_0le, oi_eq0, oi_eq1, bI_eq0, bI_ne0, bI_eq1, decide_eq_true_eq, decide_eq_false_iff_not, lc_lt, lc_gt, lc_eq, lc_ge, lc_le, ol_lt, ol_eq, ne_eq, Int.not_lt, Int.not_le, Bool.not_eq_true, Bool.not_eq_false, Decidable.not_not, not_true_eq_false, not_false_eq_true, Bool.true_eq_false, Bool.false_eq_true] at c2) <;> (first | (exfalso; omega) | ((with_reducible refine hJ _ _ _ _ ?_); conv => whnf) | (conv => whnf))
    · rw [hnn]
      refine ⟨by omega, ?_⟩
      conv => whnf
      refine s_pass hC hr ⟨hw, hw67⟩ (by omega) ?_
      intro σ1 g1 g2 g3
      have hc1 := Ch.ofFr g2 g3
      have hm1 : M0 (wI σ1 1 0 16 (Int32.ofInt 0)) h0 := M0.c (hm.ch hc1 (fun j hj => by unfold cE HS; omega))
      have wk := minN_WF k ⟨hw, hw67⟩ (by omega)
      conv => whnf
      refine s_give hC ?_
      conv => whnf
      refine r_m_minute hC (fun J hJ => ?_)
      refine hJ _ _ _ _ ?_
      conv => whnf
      rw [oi_l (by omega) (by omega)]
      refine s_m_isFrom hC (by omega) (by omega) (by omega) (by omega) (by omega) (by omega) ?_
      conv => whnf
      refine ⟨fun c3 => ?_, fun c3 => ?_⟩ <;> (try simp (disch := omega) only [oi_le, oi_lt, oi_eq, oi_lt0, oi_le0, oi_0lt, oi_0le, oi_eq0, oi_eq1, bI_eq0, bI_ne0, bI_eq1, decide_eq_true_eq, decide_eq_false_iff_not, lc_lt, lc_gt, lc_eq, lc_ge, lc_le, ol_lt, ol_eq, ne_eq, Int.not_lt, Int.not_le, Bool.not_eq_true, Bool.not_eq_false, Decidable.not_not, not_true_eq_false, not_false_eq_true, Bool.true_eq_false, Bool.false_eq_true] at c3) <;> (first | (exfalso; omega) | ((with_reducible refine hJ _ _ _ _ ?_); conv => whnf) | (conv => whnf))
      refine ⟨(oi_in (by omega) (by omega)).mpr ⟨by omega, by omega⟩, ?_⟩
      conv => whnf
      rw [show (Int32.ofInt 5).toNatClampNeg = 5 from rfl, hm1 5 (by omega)]
      rw [oi_add]
      refine ⟨fun c4 => ?_, fun c4 => ?_⟩ <;> (try simp (disch := omega) only [oi_le, oi_lt, oi_eq, oi_lt0, oi_le0, oi_0lt, oi_0le, oi_eq0, oi_eq1, bI_eq0, bI_ne0, bI_eq1, decide_eq_true_eq, decide_eq_false_iff_not, lc_lt, lc_gt, lc_eq, lc_ge, lc_le, ol_lt, ol_eq, ne_eq, Int.not_lt, Int.not_le, Bool.not_eq_true, Bool.not_eq_false, Decidable.not_not, not_true_eq_false, not_false_eq_true, Bool.true_eq_false, Bool.false_eq_true] at c4) <;> (first | (exfalso; omega) | ((with_reducible refine hJ _ _ _ _ ?_); conv => whnf) | (conv => whnf))
      refine s_m_minutesGo hC hm1 ⟨hw, hw67⟩ (by omega) ?_
      intro σ2 f1 f2
      conv => whnf
      refine s_m_gives hC ?_
      conv => whnf
      refine hJ _ _ _ _ ?_
      conv => whnf
      exact h _ _ (Rel.edit2 ha hb (h' := minN k h0) g1.c (f1.fd) wk.1 (by omega) (hsy.cg (minN_lo k h0 (by omega)) (fun m _ => minN_ear k h0 m)) (minN_lo k h0 (by omega)) (minN_lo k h0 (by omega)) (minN_lo k h0 (by omega)) (hc1.tr (Ch.wI cE_c)) ((Ch.toE f2.ch).tr (Ch.wI mE_s)) wI_16 wI_16)
    · refine s_none hC ?_
      conv => whnf
      refine r_m_minute hC (fun J hJ => ?_)
      refine hJ _ _ _ _ ?_
      conv => whnf
      rw [oi_l (by omega) (by omega)]
      refine s_m_isFrom hC (by omega) (by omega) (by omega) (by omega) (by omega) (by omega) ?_
      conv => whnf
      refine ⟨fun c3 => ?_, fun c3 => ?_⟩ <;> (try simp (disch := omega) only [oi_le, oi_lt, oi_eq, oi_lt0, oi_le0, oi_0lt, oi_0le, oi_eq0, oi_eq1, bI_eq0, bI_ne0, bI_eq1, decide_eq_true_eq, decide_eq_false_iff_not, lc_lt, lc_gt, lc_eq, lc_ge, lc_le, ol_lt, ol_eq, ne_eq, Int.not_lt, Int.not_le, Bool.not_eq_true, Bool.not_eq_false, Decidable.not_not, not_true_eq_false, not_false_eq_true, Bool.true_eq_false, Bool.false_eq_true] at c3) <;> (first | (exfalso; omega) | ((with_reducible refine hJ _ _ _ _ ?_); conv => whnf) | (conv => whnf))
      refine ⟨(oi_in (by omega) (by omega)).mpr ⟨by omega, by omega⟩, ?_⟩
      conv => whnf
      rw [show (Int32.ofInt 5).toNatClampNeg = 5 from rfl, hm.c 5 (by omega)]
      rw [oi_add]
      refine ⟨fun c4 => ?_, fun c4 => ?_⟩ <;> (try simp (disch := omega) only [oi_le, oi_lt, oi_eq, oi_lt0, oi_le0, oi_0lt, oi_0le, oi_eq0, oi_eq1, bI_eq0, bI_ne0, bI_eq1, decide_eq_true_eq, decide_eq_false_iff_not, lc_lt, lc_gt, lc_eq, lc_ge, lc_le, ol_lt, ol_eq, ne_eq, Int.not_lt, Int.not_le, Bool.not_eq_true, Bool.not_eq_false, Decidable.not_not, not_true_eq_false, not_false_eq_true, Bool.true_eq_false, Bool.false_eq_true] at c4) <;> (first | (exfalso; omega) | ((with_reducible refine hJ _ _ _ _ ?_); conv => whnf) | (conv => whnf))
      refine s_m_refuse hC ?_
      conv => whnf
      refine hJ _ _ _ _ ?_
      conv => whnf
      exact h _ _ (hR.sc done2.1 done2.2)
  · refine s_none hC ?_
    conv => whnf
    refine r_m_minute hC (fun J hJ => ?_)
    refine hJ _ _ _ _ ?_
    conv => whnf
    rw [oi_l (by omega) (by omega)]
    refine s_m_isFrom hC (by omega) (by omega) (by omega) (by omega) (by omega) (by omega) ?_
    conv => whnf
    refine ⟨fun c3 => ?_, fun c3 => ?_⟩ <;> (try simp (disch := omega) only [oi_le, oi_lt, oi_eq, oi_lt0, oi_le0, oi_0lt, oi_0le, oi_eq0, oi_eq1, bI_eq0, bI_ne0, bI_eq1, decide_eq_true_eq, decide_eq_false_iff_not, lc_lt, lc_gt, lc_eq, lc_ge, lc_le, ol_lt, ol_eq, ne_eq, Int.not_lt, Int.not_le, Bool.not_eq_true, Bool.not_eq_false, Decidable.not_not, not_true_eq_false, not_false_eq_true, Bool.true_eq_false, Bool.false_eq_true] at c3) <;> (first | (exfalso; omega) | ((with_reducible refine hJ _ _ _ _ ?_); conv => whnf) | (conv => whnf))
    refine s_m_refuse hC ?_
    conv => whnf
    exact h _ _ (hR.sc done2.1 done2.2)
theorem s_m_changes {CALL : CT} (hC : RuleAll CALL) {r : Nat} {σ : AM} {K : AV → AM → Prop} {h0 : Nat → Int} {z : Int} (hm : M0 σ h0) (b1 : -2147483648 ≤ h0 8) (b2 : h0 8 < 2147483648) (z1 : -2147483648 ≤ z) (z2 : z < 2147483648) (h : K (.inl (bI (decide (h0 8 ≠ z)))) (wI σ 47 0 8 (Int32.ofInt z))) : CALL (r + 1) n_m_changes [.inr (.inr (46, 0)), .inl (Int32.ofInt z)] σ K := by
  refine r_m_changes hC (fun J hJ => ?_)
  refine hJ _ _ _ _ ?_
  conv => whnf
  refine ⟨(oi_in (by omega) (by omega)).mpr ⟨by omega, by omega⟩, ?_⟩
  conv => whnf
  rw [show (Int32.ofInt 8).toNatClampNeg = 8 from rfl, hm 8 (by omega)]
  refine ⟨fun c => ?_, fun c => ?_⟩ <;> (try simp (disch := omega) only [oi_le, oi_lt, oi_eq, oi_lt0, oi_le0, oi_0lt, oi_0le, oi_eq0, oi_eq1, bI_eq0, bI_ne0, bI_eq1, decide_eq_true_eq, decide_eq_false_iff_not, lc_lt, lc_gt, lc_eq, lc_ge, lc_le, ol_lt, ol_eq, ne_eq, Int.not_lt, Int.not_le, Bool.not_eq_true, Bool.not_eq_false, Decidable.not_not, not_true_eq_false, not_false_eq_true, Bool.true_eq_false, Bool.false_eq_true] at c) <;> (first | (exfalso; omega) | ((with_reducible refine hJ _ _ _ _ ?_); conv => whnf) | (conv => whnf))
  · refine hJ _ _ _ _ ?_
    conv => whnf
    refine ⟨(oi_in (by omega) (by omega)).mpr ⟨by omega, by omega⟩, ?_⟩
    conv => whnf
    rw [show decide (h0 8 ≠ z) = false from decide_eq_false (by omega)] at h
    exact ⟨Or.inl rfl, h⟩
  · refine hJ _ _ _ _ ?_
    conv => whnf
    refine ⟨(oi_in (by omega) (by omega)).mpr ⟨by omega, by omega⟩, ?_⟩
    conv => whnf
    rw [show decide (h0 8 ≠ z) = true from decide_eq_true (by omega)] at h
    exact ⟨Or.inr rfl, h⟩
theorem op_change {CALL : CT} (hC : RuleAll CALL) {r : Nat} {σ : AM} {K : AV → AV → AM → Prop} (hR : Rel σ) {z : Int} (z1 : -2147483648 ≤ z) (z2 : z < 2147483648) (h : ∀ v σ2, Rel σ2 → K v v σ2) : CALL (r + 20) n_x_change [.inr (.inr (1, 0)), .inl (Int32.ofInt z)] σ (fun v σ1 => CALL (r + 20) n_m_change [.inr (.inr (46, 0)), .inl (Int32.ofInt z)] σ1 (fun v' σ2 => K v v' σ2)) := by
  obtain ⟨⟨n, p, h0, ha⟩, hb, hst⟩ := id hR
  have hn := ha.nh
  obtain ⟨n45, hnn, hr, hm, ⟨hw, hw67⟩, h59⟩ := id hn
  have b := hw.1
  have hsy : SymE h0 := ha.2.2.2.2.2.2.2.2.2.2.1
  obtain ⟨q0, q1, q2, q3, q4, q5, q6, q7, q8, q9, qa, qt, qm, qe⟩ := id hr
  refine r_x_change hC (fun J hJ => ?_)
  refine hJ _ _ _ _ ?_
  conv => whnf
  refine s_isMonk hC hn z1 z2 ?_
  conv => whnf
  refine ⟨fun c => ?_, fun c => ?_⟩ <;> (try simp (disch := omega) only [oi_le, oi_lt, oi_eq, oi_lt0, oi_le0, oi_0lt, oi_0le, oi_eq0, oi_eq1, bI_eq0, bI_ne0, bI_eq1, decide_eq_true_eq, decide_eq_false_iff_not, lc_lt, lc_gt, lc_eq, lc_ge, lc_le, ol_lt, ol_eq, ne_eq, Int.not_lt, Int.not_le, Bool.not_eq_true, Bool.not_eq_false, Decidable.not_not, not_true_eq_false, not_false_eq_true, Bool.true_eq_false, Bool.false_eq_true] at c) <;> (first | (exfalso; omega) | ((with_reducible refine hJ _ _ _ _ ?_); conv => whnf) | (conv => whnf))
  · obtain ⟨k, rfl⟩ : ∃ k : Nat, z = (k : Int) := ⟨z.toNat, by omega⟩
    have uo : upOk h0 8 (k : Int) := Or.inr (Or.inr (Or.inl ⟨rfl, by omega, by omega⟩))
    have wk := WP.upd ⟨hw, hw67⟩ uo
    have sy : SymE (up h0 8 (k : Int)) := hsy.cg (up_ne (by omega)) (fun m _ => up_ne (by omega))
    have u5 : up h0 8 (k : Int) 5 = h0 5 := up_ne (by omega)
    rw [hnn]
    refine ⟨by omega, ?_⟩
    conv => whnf
    rw [q8]
    refine ⟨fun c2 => ?_, fun c2 => ?_⟩ <;> (try simp (disch := omega) only [oi_le, oi_lt, oi_eq, oi_lt0, oi_le0, oi_0lt, oi_0le, oi_eq0, oi_eq1, bI_eq0, bI_ne0, bI_eq1, decide_eq_true_eq, decide_eq_false_iff_not, lc_lt, lc_gt, lc_eq, lc_ge, lc_le, ol_lt, ol_eq, ne_eq, Int.not_lt, Int.not_le, Bool.not_eq_true, Bool.not_eq_false, Decidable.not_not, not_true_eq_false, not_false_eq_true, Bool.true_eq_false, Bool.false_eq_true] at c2) <;> (first | (exfalso; omega) | ((with_reducible refine hJ _ _ _ _ ?_); conv => whnf) | (conv => whnf))
    · rw [hnn]
      refine ⟨by omega, ?_⟩
      conv => whnf
      rw [q8]
      rw [hnn]
      refine ⟨by omega, ?_⟩
      conv => whnf
      refine s_give hC ?_
      conv => whnf
      have hm1 : M0 (wI (wI σ 22 n 10 (Int32.ofInt (k : Int))) 1 0 16 (Int32.ofInt 0)) h0 := M0.c (hm.fr (fun j _ => by rw [wI1, if_neg (by omega)]))
      refine r_m_change hC (fun J hJ => ?_)
      refine hJ _ _ _ _ ?_
      conv => whnf
      refine s_m_isMonk hC hm1 hw z1 z2 ?_
      conv => whnf
      refine ⟨fun c3 => ?_, fun c3 => ?_⟩ <;> (try simp (disch := omega) only [oi_le, oi_lt, oi_eq, oi_lt0, oi_le0, oi_0lt, oi_0le, oi_eq0, oi_eq1, bI_eq0, bI_ne0, bI_eq1, decide_eq_true_eq, decide_eq_false_iff_not, lc_lt, lc_gt, lc_eq, lc_ge, lc_le, ol_lt, ol_eq, ne_eq, Int.not_lt, Int.not_le, Bool.not_eq_true, Bool.not_eq_false, Decidable.not_not, not_true_eq_false, not_false_eq_true, Bool.true_eq_false, Bool.false_eq_true] at c3) <;> (first | (exfalso; omega) | ((with_reducible refine hJ _ _ _ _ ?_); conv => whnf) | (conv => whnf))
      refine ⟨(oi_in (by omega) (by omega)).mpr ⟨by omega, by omega⟩, ?_⟩
      conv => whnf
      rw [show (Int32.ofInt 8).toNatClampNeg = 8 from rfl, hm1 8 (by omega)]
      refine s_m_changes hC hm1 (by omega) (by omega) (by omega) (by omega) ?_
      conv => whnf
      refine ⟨fun c4 => ?_, fun c4 => ?_⟩ <;> (try simp (disch := omega) only [oi_le, oi_lt, oi_eq, oi_lt0, oi_le0, oi_0lt, oi_0le, oi_eq0, oi_eq1, bI_eq0, bI_ne0, bI_eq1, decide_eq_true_eq, decide_eq_false_iff_not, lc_lt, lc_gt, lc_eq, lc_ge, lc_le, ol_lt, ol_eq, ne_eq, Int.not_lt, Int.not_le, Bool.not_eq_true, Bool.not_eq_false, Decidable.not_not, not_true_eq_false, not_false_eq_true, Bool.true_eq_false, Bool.false_eq_true] at c4) <;> (first | (exfalso; omega) | ((with_reducible refine hJ _ _ _ _ ?_); conv => whnf) | (conv => whnf))
      refine s_m_gives hC ?_
      conv => whnf
      refine hJ _ _ _ _ ?_
      conv => whnf
      exact h _ _ (Rel.edit2 ha hb (h' := up h0 8 (k : Int)) (HRep.c (HRep.upd (t := 22) (j := 10) hr hw (Or.inl ⟨rfl, by omega, by omega⟩) (by decide))) (M0.fd hm1.upd) wk (by omega) sy (up_ne (by omega)) (up_ne (by omega)) (up_ne (by omega)) ((Ch.wI (cE_h (by omega) (by omega))).tr (Ch.wI cE_c)) ((Ch.wI (mE_a (by omega))).tr (Ch.wI mE_s)) wI_16 wI_16)
    · refine s_none hC ?_
      conv => whnf
      refine r_m_change hC (fun J hJ => ?_)
      refine hJ _ _ _ _ ?_
      conv => whnf
      refine s_m_isMonk hC hm.c hw z1 z2 ?_
      conv => whnf
      refine ⟨fun c3 => ?_, fun c3 => ?_⟩ <;> (try simp (disch := omega) only [oi_le, oi_lt, oi_eq, oi_lt0, oi_le0, oi_0lt, oi_0le, oi_eq0, oi_eq1, bI_eq0, bI_ne0, bI_eq1, decide_eq_true_eq, decide_eq_false_iff_not, lc_lt, lc_gt, lc_eq, lc_ge, lc_le, ol_lt, ol_eq, ne_eq, Int.not_lt, Int.not_le, Bool.not_eq_true, Bool.not_eq_false, Decidable.not_not, not_true_eq_false, not_false_eq_true, Bool.true_eq_false, Bool.false_eq_true] at c3) <;> (first | (exfalso; omega) | ((with_reducible refine hJ _ _ _ _ ?_); conv => whnf) | (conv => whnf))
      refine ⟨(oi_in (by omega) (by omega)).mpr ⟨by omega, by omega⟩, ?_⟩
      conv => whnf
      rw [show (Int32.ofInt 8).toNatClampNeg = 8 from rfl, hm.c 8 (by omega)]
      refine s_m_changes hC hm.c (by omega) (by omega) (by omega) (by omega) ?_
      conv => whnf
      refine ⟨fun c4 => ?_, fun c4 => ?_⟩ <;> (try simp (disch := omega) only [oi_le, oi_lt, oi_eq, oi_lt0, oi_le0, oi_0lt, oi_0le, oi_eq0, oi_eq1, bI_eq0, bI_ne0, bI_eq1, decide_eq_true_eq, decide_eq_false_iff_not, lc_lt, lc_gt, lc_eq, lc_ge, lc_le, ol_lt, ol_eq, ne_eq, Int.not_lt, Int.not_le, Bool.not_eq_true, Bool.not_eq_false, Decidable.not_not, not_true_eq_false, not_false_eq_true, Bool.true_eq_false, Bool.false_eq_true] at c4) <;> (first | (exfalso; omega) | ((with_reducible refine hJ _ _ _ _ ?_); conv => whnf) | (conv => whnf))
      refine s_m_refuse hC ?_
      conv => whnf
      refine hJ _ _ _ _ ?_
      conv => whnf
      have e : up h0 8 (k : Int) = h0 := by
        funext j
        by_cases e : j = 8
        · rw [e, up_eq, c2]
        · exact up_ne e
      have hm2 := hm.c (x := Int32.ofInt 7)
      have hm3 := hm2.upd (j := 8) (z := (k : Int))
      rw [e] at hm3
      exact h _ _ (Rel.edit2 ha hb (h' := h0) hr.c (M0.fd hm3) ⟨hw, hw67⟩ (by omega) hsy rfl rfl rfl (Ch.wI cE_c) ((Ch.wI (mE_a (by omega))).tr (Ch.wI mE_s)) wI_16 wI_16)
  · refine s_none hC ?_
    conv => whnf
    refine r_m_change hC (fun J hJ => ?_)
    refine hJ _ _ _ _ ?_
    conv => whnf
    refine s_m_isMonk hC hm.c hw z1 z2 ?_
    conv => whnf
    refine ⟨fun c3 => ?_, fun c3 => ?_⟩ <;> (try simp (disch := omega) only [oi_le, oi_lt, oi_eq, oi_lt0, oi_le0, oi_0lt, oi_0le, oi_eq0, oi_eq1, bI_eq0, bI_ne0, bI_eq1, decide_eq_true_eq, decide_eq_false_iff_not, lc_lt, lc_gt, lc_eq, lc_ge, lc_le, ol_lt, ol_eq, ne_eq, Int.not_lt, Int.not_le, Bool.not_eq_true, Bool.not_eq_false, Decidable.not_not, not_true_eq_false, not_false_eq_true, Bool.true_eq_false, Bool.false_eq_true] at c3) <;> (first | (exfalso; omega) | ((with_reducible refine hJ _ _ _ _ ?_); conv => whnf) | (conv => whnf))
    refine s_m_refuse hC ?_
    conv => whnf
    exact h _ _ (hR.sc done2.1 done2.2)
theorem setW_lt {a k : Nat} {b : Bool} (ha : a < 128) (hk : k < 7) : setW a k b < 128 := by
  cases b with
  | true => exact Nat.or_lt_two_pow (n := 7) ha (Nat.pow_lt_pow_right (by omega) hk)
  | false => exact rem_lt ha hk
theorem setW_bit {a k j : Nat} {b : Bool} (ha : a < 128) (hk : k < 7) (hj : j < 7) : (setW a k b).testBit j = if j = k then b else a.testBit j := by
  cases b with
  | true =>
    show (a ||| 2 ^ k).testBit j = _
    rw [Nat.testBit_or, Nat.testBit_two_pow]
    by_cases e : j = k
    · subst e; simp
    · rw [if_neg e, decide_eq_false (fun z => e z.symm), Bool.or_false]
  | false =>
    show (rem a k).testBit j = _
    rw [rem_bit ha hk hj]
    by_cases e : j = k
    · subst e; simp
    · rw [if_neg e, decide_eq_true e, Bool.and_true]
theorem bit_hi {a j : Nat} (ha : a < 128) (hj : 7 ≤ j) : a.testBit j = false := Nat.testBit_lt_two_pow (Nat.lt_of_lt_of_le ha (Nat.pow_le_pow_right (n := 2) (i := 7) (by omega) hj))
theorem bit_ext {a b : Nat} (ha : a < 128) (hb : b < 128) (h : ∀ j, j < 7 → a.testBit j = b.testBit j) : a = b := by
  apply Nat.eq_of_testBit_eq
  intro j
  by_cases hj : j < 7
  · exact h j hj
  · rw [bit_hi ha (by omega), bit_hi hb (by omega)]
def b01 (b : Bool) : Int := if b then 1 else 0
theorem aw_set {h : Nat → Int} {m : Nat} {is : Bool} (hw : WF h) (hm : (m : Int) < h 1) : setW (awS h) m is = awS (up h (27 + 7 * m) (b01 is)) := by
  have b := hw.1
  refine bit_ext (setW_lt (awS_lt h) (by omega)) (awS_lt _) (fun j hj => ?_)
  rw [setW_bit (awS_lt h) (by omega) hj, awS_bit, awS_bit, up_ne (by omega : 1 ≠ 27 + 7 * m)]
  by_cases e : j = m
  · subst e
    rw [if_pos rfl, up_eq]
    cases is with
    | true => exact (decide_eq_true ⟨hj, hm, rfl⟩).symm
    | false => exact (decide_eq_false (fun z => absurd z.2.2 (by decide))).symm
  · rw [if_neg e, up_ne (by omega)]
theorem HRep.rou {σ : AM} {n m : Nat} {h : Nat → Int} {is : Bool} (hr : HRep σ n h) (hw : WF h) (hmm : m < 7) : HRep (wI σ 27 n 7 (Int32.ofInt (awS (up h (27 + 7 * m) (b01 is))))) n (up h (27 + 7 * m) (b01 is)) := by
  have b := hw.1
  rw [HRep_hix] at hr ⊢
  refine ⟨fun t j q => ?_, wI_16⟩
  have q2 : hin h t j := by
    unfold hin at q ⊢
    rw [up_ne (by omega : 0 ≠ 27 + 7 * m), up_ne (by omega : 1 ≠ 27 + 7 * m), up_ne (by omega : 2 ≠ 27 + 7 * m)] at q
    exact q
  rw [wI1, if_neg (by unfold hin at q2; omega), up_ne (fun z => hix_27 hmm q2 hw z.symm), hr.1 t j q2]
theorem s_rouse {CALL : CT} (hC : RuleAll CALL) {r : Nat} {σ : AM} {K : AV → AM → Prop} {n m : Nat} {is : Bool} {h0 : Nat → Int} (hr : HRep σ n h0) (hw : WF h0) (hm : (m : Int) < h0 1) (h : K unset (wI σ 27 n 7 (Int32.ofInt (awS (up h0 (27 + 7 * m) (b01 is)))))) : CALL (r + 2) n_Monks_rouse [.inr (.inr (27, n)), .inl (Int32.ofInt m), .inl (bI is)] σ K := by
  refine r_Monks_rouse hC (fun J hJ => ?_)
  refine hJ _ _ _ _ ?_
  conv => whnf
  have b := hw.1
  rw [hr.2.2.2.2.2.2.2.2.2.2.1]
  refine s_with hC (awS_lt h0) (by omega) ?_
  conv => whnf
  rw [aw_set hw hm]
  exact h
theorem bI_b01 (b : Bool) : bI b = Int32.ofInt (b01 b) := rfl
theorem b01_eq {x : Int} {b : Bool} (h0 : 0 ≤ x) (h1 : x ≤ 1) : decide (x = 1) = b ↔ x = b01 b := by
  cases b with
  | true => show _ ↔ x = 1; rw [decide_eq_true_eq]
  | false => show _ ↔ x = 0; rw [decide_eq_false_iff_not]; omega
theorem s_m_wakes {CALL : CT} (hC : RuleAll CALL) {r : Nat} {σ : AM} {K : AV → AM → Prop} {m : Nat} {h0 : Nat → Int} {is : Bool} (hm : M0 σ h0) (hw : WF h0) (hmm : (m : Int) < h0 1) (h : K (.inl (bI (decide (h0 (27 + 7 * m) ≠ b01 is)))) (wI σ 47 0 (27 + 7 * m) (Int32.ofInt (b01 is)))) : CALL (r + 3) n_m_wakes [.inr (.inr (46, 0)), .inl (Int32.ofInt m), .inl (bI is)] σ K := by
  refine r_m_wakes hC (fun J hJ => ?_)
  refine hJ _ _ _ _ ?_
  conv => whnf
  have b := hw.1
  have hq := hw.2.2.1 m hmm
  have b1 : 0 ≤ b01 is ∧ b01 is ≤ 1 := by cases is <;> decide
  refine s_m_monkOf hC (w := 3) hm (by omega) (by omega) ?_
  conv => whnf
  rw [show 24 + 7 * m + 3 = 27 + 7 * m by omega, bI_b01]
  refine ⟨fun c => ?_, fun c => ?_⟩ <;> (try simp (disch := omega) only [oi_le, oi_lt, oi_eq, oi_lt0, oi_le0, oi_0lt, oi_0le, oi_eq0, oi_eq1, bI_eq0, bI_ne0, bI_eq1, decide_eq_true_eq, decide_eq_false_iff_not, lc_lt, lc_gt, lc_eq, lc_ge, lc_le, ol_lt, ol_eq, ne_eq, Int.not_lt, Int.not_le, Bool.not_eq_true, Bool.not_eq_false, Decidable.not_not, not_true_eq_false, not_false_eq_true, Bool.true_eq_false, Bool.false_eq_true] at c) <;> (first | (exfalso; omega) | ((with_reducible refine hJ _ _ _ _ ?_); conv => whnf) | (conv => whnf))
  · refine hJ _ _ _ _ ?_
    conv => whnf
    refine s_m_monkRow hC ?_
    conv => whnf
    rw [oi_add]
    refine ⟨(oi_in (by omega) (by omega)).mpr ⟨by omega, by omega⟩, ?_⟩
    conv => whnf
    rw [oi_nat (by omega) (by omega), show (24 + 7 * (m : Int) + 3).toNat = 27 + 7 * m by omega]
    rw [show decide (h0 (27 + 7 * m) ≠ b01 is) = false from decide_eq_false (by omega)] at h
    exact ⟨Or.inl rfl, h⟩
  · refine hJ _ _ _ _ ?_
    conv => whnf
    refine s_m_monkRow hC ?_
    conv => whnf
    rw [oi_add]
    refine ⟨(oi_in (by omega) (by omega)).mpr ⟨by omega, by omega⟩, ?_⟩
    conv => whnf
    rw [oi_nat (by omega) (by omega), show (24 + 7 * (m : Int) + 3).toNat = 27 + 7 * m by omega]
    rw [show decide (h0 (27 + 7 * m) ≠ b01 is) = true from decide_eq_true (by omega)] at h
    exact ⟨Or.inr rfl, h⟩
theorem op_wake {CALL : CT} (hC : RuleAll CALL) {r : Nat} {σ : AM} {K : AV → AV → AM → Prop} (hR : Rel σ) {z : Int} {is : Bool} (z1 : -2147483648 ≤ z) (z2 : z < 2147483648) (h : ∀ v σ2, Rel σ2 → K v v σ2) : CALL (r + 20) n_x_wake [.inr (.inr (1, 0)), .inl (Int32.ofInt z), .inl (bI is)] σ (fun v σ1 => CALL (r + 20) n_m_wake [.inr (.inr (46, 0)), .inl (Int32.ofInt z), .inl (bI is)] σ1 (fun v' σ2 => K v v' σ2)) := by
  obtain ⟨⟨n, p, h0, ha⟩, hb, hst⟩ := id hR
  have hn := ha.nh
  obtain ⟨n45, hnn, hr, hm, ⟨hw, hw67⟩, h59⟩ := id hn
  have b := hw.1
  have hsy : SymE h0 := ha.2.2.2.2.2.2.2.2.2.2.1
  obtain ⟨q0, q1, q2, q3, q4, q5, q6, q7, q8, q9, qa, qt, qm, qe⟩ := id hr
  refine r_x_wake hC (fun J hJ => ?_)
  refine hJ _ _ _ _ ?_
  conv => whnf
  refine s_isMonk hC hn z1 z2 ?_
  conv => whnf
  refine ⟨fun c => ?_, fun c => ?_⟩ <;> (try simp (disch := omega) only [oi_le, oi_lt, oi_eq, oi_lt0, oi_le0, oi_0lt, oi_0le, oi_eq0, oi_eq1, bI_eq0, bI_ne0, bI_eq1, decide_eq_true_eq, decide_eq_false_iff_not, lc_lt, lc_gt, lc_eq, lc_ge, lc_le, ol_lt, ol_eq, ne_eq, Int.not_lt, Int.not_le, Bool.not_eq_true, Bool.not_eq_false, Decidable.not_not, not_true_eq_false, not_false_eq_true, Bool.true_eq_false, Bool.false_eq_true] at c) <;> (first | (exfalso; omega) | ((with_reducible refine hJ _ _ _ _ ?_); conv => whnf) | (conv => whnf))
  · obtain ⟨m, rfl⟩ : ∃ m : Nat, z = (m : Int) := ⟨z.toNat, by omega⟩
    have hq := hw.2.2.1 m c.2
    have b1 : 0 ≤ b01 is ∧ b01 is ≤ 1 := by cases is <;> decide
    have uo : upOk h0 (27 + 7 * m) (b01 is) := Or.inr (Or.inr (Or.inr (Or.inr (Or.inr (Or.inr (Or.inl ⟨m, c.2, rfl, b1.1, b1.2⟩))))))
    have wk := WP.upd ⟨hw, hw67⟩ uo
    have sy : SymE (up h0 (27 + 7 * m) (b01 is)) := hsy.cg (up_ne (by omega)) (fun m _ => up_ne (by omega))
    have u5 : up h0 (27 + 7 * m) (b01 is) 5 = h0 5 := up_ne (by omega)
    have mod : ∀ (τ : AM) (K' : AV → AM → Prop), M0 τ h0 → K' (.inl (bI (decide (h0 (27 + 7 * m) ≠ b01 is)))) (wI (wI τ 47 0 (27 + 7 * m) (Int32.ofInt (b01 is))) 46 0 2 (Int32.ofInt (if h0 (27 + 7 * m) ≠ b01 is then 0 else 7))) → CALL (r + 20) n_m_wake [.inr (.inr (46, 0)), .inl (Int32.ofInt (m : Int)), .inl (bI is)] τ K' := by
      intro τ K' hmt hk
      refine r_m_wake hC (fun J hJ => ?_)
      refine hJ _ _ _ _ ?_
      conv => whnf
      refine s_m_isMonk hC hmt hw z1 z2 ?_
      conv => whnf
      refine ⟨fun c3 => ?_, fun c3 => ?_⟩ <;> (try simp (disch := omega) only [oi_le, oi_lt, oi_eq, oi_lt0, oi_le0, oi_0lt, oi_0le, oi_eq0, oi_eq1, bI_eq0, bI_ne0, bI_eq1, decide_eq_true_eq, decide_eq_false_iff_not, lc_lt, lc_gt, lc_eq, lc_ge, lc_le, ol_lt, ol_eq, ne_eq, Int.not_lt, Int.not_le, Bool.not_eq_true, Bool.not_eq_false, Decidable.not_not, not_true_eq_false, not_false_eq_true, Bool.true_eq_false, Bool.false_eq_true] at c3) <;> (first | (exfalso; omega) | ((with_reducible refine hJ _ _ _ _ ?_); conv => whnf) | (conv => whnf))
      have go : ∀ y : Int32, y = bI is → J 26 [.inr (.inr (46, 0)), .inl (Int32.ofInt (m : Int)), .inl (bI is)] [.inl y, .inl (Int32.ofInt (m : Int)), .inr (.inr (46, 0)), .inr (.inr (46, 0))] τ := by
        intro y hy
        subst hy
        refine hJ _ _ _ _ ?_
        conv => whnf
        refine s_m_wakes hC hmt hw c.2 ?_
        conv => whnf
        refine ⟨fun c4 => ?_, fun c4 => ?_⟩ <;> (try simp (disch := omega) only [oi_le, oi_lt, oi_eq, oi_lt0, oi_le0, oi_0lt, oi_0le, oi_eq0, oi_eq1, bI_eq0, bI_ne0, bI_eq1, decide_eq_true_eq, decide_eq_false_iff_not, lc_lt, lc_gt, lc_eq, lc_ge, lc_le, ol_lt, ol_eq, ne_eq, Int.not_lt, Int.not_le, Bool.not_eq_true, Bool.not_eq_false, Decidable.not_not, not_true_eq_false, not_false_eq_true, Bool.true_eq_false, Bool.false_eq_true] at c4) <;> (first | (exfalso; omega) | ((with_reducible refine hJ _ _ _ _ ?_); conv => whnf) | (conv => whnf))
        · refine hJ _ _ _ _ ?_
          conv => whnf
          refine s_m_is hC (x := 7) (by omega) (by omega) ?_
          conv => whnf
          rw [if_neg (by omega), show decide (h0 (27 + 7 * m) ≠ b01 is) = false from decide_eq_false (by omega)] at hk
          exact ⟨Or.inl rfl, hk⟩
        · refine hJ _ _ _ _ ?_
          conv => whnf
          refine s_m_is hC (x := 0) (by omega) (by omega) ?_
          conv => whnf
          rw [if_pos (by omega), show decide (h0 (27 + 7 * m) ≠ b01 is) = true from decide_eq_true (by omega)] at hk
          exact ⟨Or.inr rfl, hk⟩
      refine ⟨fun c4 => ?_, fun c4 => ?_⟩
      · refine hJ _ _ _ _ ?_
        conv => whnf
        exact go _ (by rw [bI_eq0.mp c4]; rfl)
      · conv => whnf
        exact go _ (by rw [bI_ne0.mp c4]; rfl)
    rw [hnn]
    refine ⟨by omega, ?_⟩
    conv => whnf
    refine s_isAwake hC hr hw c.2 ?_
    conv => whnf
    refine ⟨fun c2 => ?_, fun c2 => ?_⟩
    · rw [bI_inj, b01_eq (by omega) (by omega)] at c2
      refine hJ _ _ _ _ ?_
      conv => whnf
      rw [hnn]
      refine ⟨by omega, ?_⟩
      conv => whnf
      refine s_rouse hC hr hw c.2 ?_
      conv => whnf
      refine s_agree hC ?_
      conv => whnf
      refine ⟨Or.inr rfl, ?_⟩
      have hm1 : M0 (wI (wI σ 27 n 7 (Int32.ofInt (awS (up h0 (27 + 7 * m) (b01 is))))) 1 0 16 (Int32.ofInt 0)) h0 := M0.c (hm.fr (fun j _ => by rw [wI1, if_neg (by omega)]))
      refine mod _ _ hm1 ?_
      rw [if_pos c2, decide_eq_true c2]
      exact h _ _ (Rel.edit2 ha hb (h' := up h0 (27 + 7 * m) (b01 is)) (HRep.c (hr.rou hw (by omega))) (M0.fd hm1.upd) wk (by omega) sy (up_ne (by omega)) (up_ne (by omega)) (up_ne (by omega)) ((Ch.wI (cE_h (by omega) (by omega))).tr (Ch.wI cE_c)) ((Ch.wI (mE_a (by omega))).tr (Ch.wI mE_s)) wI_16 wI_16)
    · rw [bI_inj, b01_eq (by omega) (by omega)] at c2
      conv => whnf
      refine s_refuse hC ?_
      conv => whnf
      refine ⟨Or.inl rfl, ?_⟩
      refine mod _ _ hm.c ?_
      rw [if_neg (fun z => z c2), decide_eq_false (fun z => z c2)]
      have e : up h0 (27 + 7 * m) (b01 is) = h0 := by
        funext j
        by_cases e : j = 27 + 7 * m
        · rw [e, up_eq, c2]
        · exact up_ne e
      have hm2 := hm.c (x := Int32.ofInt 7)
      have hm3 := hm2.upd (j := 27 + 7 * m) (z := b01 is)
      rw [e] at hm3
      exact h _ _ (Rel.edit2 ha hb (h' := h0) hr.c (M0.fd hm3) ⟨hw, hw67⟩ (by omega) hsy rfl rfl rfl (Ch.wI cE_c) ((Ch.wI (mE_a (by omega))).tr (Ch.wI mE_s)) wI_16 wI_16)
  · refine s_refuse hC ?_
    conv => whnf
    refine ⟨Or.inl rfl, ?_⟩
    refine r_m_wake hC (fun J hJ => ?_)
    refine hJ _ _ _ _ ?_
    conv => whnf
    refine s_m_isMonk hC hm.c hw z1 z2 ?_
    conv => whnf
    refine ⟨fun c3 => ?_, fun c3 => ?_⟩ <;> (try simp (disch := omega) only [oi_le, oi_lt, oi_eq, oi_lt0, oi_le0, oi_0lt, oi_0le, oi_eq0, oi_eq1, bI_eq0, bI_ne0, bI_eq1, decide_eq_true_eq, decide_eq_false_iff_not, lc_lt, lc_gt, lc_eq, lc_ge, lc_le, ol_lt, ol_eq, ne_eq, Int.not_lt, Int.not_le, Bool.not_eq_true, Bool.not_eq_false, Decidable.not_not, not_true_eq_false, not_false_eq_true, Bool.true_eq_false, Bool.false_eq_true] at c3) <;> (first | (exfalso; omega) | ((with_reducible refine hJ _ _ _ _ ?_); conv => whnf) | (conv => whnf))
    refine s_m_is hC (x := 1) (by omega) (by omega) ?_
    conv => whnf
    refine ⟨Or.inl rfl, ?_⟩
    exact h _ _ (hR.sc done2.1 done2.2)
theorem oi_xor (a b : Nat) : Int32.ofInt (a : Int) ^^^ Int32.ofInt (b : Int) = Int32.ofInt ((a ^^^ b : Nat) : Int) := by
  show nI a ^^^ nI b = nI (a ^^^ b)
  unfold nI
  apply Int32.toBitVec_inj.mp
  simp [Int32.toBitVec_xor]
theorem setW_xor {a k : Nat} {b : Bool} (ha : a < 128) (hk : k < 7) (hb : a.testBit k ≠ b) : setW a k b = a ^^^ 2 ^ k := by
  refine bit_ext (setW_lt ha hk) (Nat.xor_lt_two_pow (n := 7) ha (Nat.pow_lt_pow_right (by omega) hk)) (fun j hj => ?_)
  rw [setW_bit ha hk hj, Nat.testBit_xor, Nat.testBit_two_pow]
  by_cases e : j = k
  · subst e
    rw [if_pos rfl, decide_eq_true rfl]
    revert hb
    cases a.testBit j <;> cases b <;> decide
  · rw [if_neg e, decide_eq_false (fun z => e z.symm), Bool.xor_false]
theorem op_follow {CALL : CT} (hC : RuleAll CALL) {r : Nat} {σ : AM} {K : AV → AV → AM → Prop} (hR : Rel σ) {z y : Int} {is : Bool} (z1 : -2147483648 ≤ z) (z2 : z < 2147483648) (y1 : -2147483648 ≤ y) (y2 : y < 2147483648) (h : ∀ v σ2, Rel σ2 → K v v σ2) : CALL (r + 20) n_x_follow [.inr (.inr (1, 0)), .inl (Int32.ofInt z), .inl (Int32.ofInt y), .inl (bI is)] σ (fun v σ1 => CALL (r + 20) n_m_follow [.inr (.inr (46, 0)), .inl (Int32.ofInt z), .inl (Int32.ofInt y), .inl (bI is)] σ1 (fun v' σ2 => K v v' σ2)) := by
  obtain ⟨⟨n, p, h0, ha⟩, hb, hst⟩ := id hR
  have hn := ha.nh
  obtain ⟨n45, hnn, hr, hm, ⟨hw, hw67⟩, h59⟩ := id hn
  have b := hw.1
  have hsy : SymE h0 := ha.2.2.2.2.2.2.2.2.2.2.1
  obtain ⟨q0, q1, q2, q3, q4, q5, q6, q7, q8, q9, qa, qt, qm, qe⟩ := id hr
  have bad : ¬ ((0 ≤ z ∧ z < h0 0) ∧ (0 ≤ y ∧ y < h0 0)) → CALL (r + 20) n_m_follow [.inr (.inr (46, 0)), .inl (Int32.ofInt z), .inl (Int32.ofInt y), .inl (bI is)] (wI σ 1 0 16 (Int32.ofInt 1)) (fun v' σ2 => K (.inl (Int32.ofInt 0)) v' σ2) := by
    intro hbd
    refine r_m_follow hC (fun J hJ => ?_)
    have fin : J 18 [.inr (.inr (46, 0)), .inl (Int32.ofInt z), .inl (Int32.ofInt y), .inl (bI is)] [] (wI σ 1 0 16 (Int32.ofInt 1)) := by
      refine hJ _ _ _ _ ?_
      conv => whnf
      refine s_m_is hC (x := 1) (by omega) (by omega) ?_
      conv => whnf
      refine ⟨Or.inl rfl, ?_⟩
      exact h _ _ (hR.sc done2.1 done2.2)
    refine hJ _ _ _ _ ?_
    conv => whnf
    rw [oi_l (by omega) (by omega)]
    refine s_m_isTopic hC hm.c hw (by omega) (by omega) ?_
    conv => whnf
    refine ⟨fun c2 => ?_, fun c2 => ?_⟩ <;> (try simp (disch := omega) only [oi_le, oi_lt, oi_eq, oi_lt0, oi_le0, oi_0lt, oi_0le, oi_eq0, oi_eq1, bI_eq0, bI_ne0, bI_eq1, decide_eq_true_eq, decide_eq_false_iff_not, lc_lt, lc_gt, lc_eq, lc_ge, lc_le, ol_lt, ol_eq, ne_eq, Int.not_lt, Int.not_le, Bool.not_eq_true, Bool.not_eq_false, Decidable.not_not, not_true_eq_false, not_false_eq_true, Bool.true_eq_false, Bool.false_eq_true] at c2) <;> (first | (exfalso; omega) | ((fail_if_success with_reducible refine hJ _ _ _ _ ?_); conv => whnf) | skip)
    · exact fin
    · rw [oi_l (by omega) (by omega)]
      refine s_m_isTopic hC hm.c hw (by omega) (by omega) ?_
      conv => whnf
      refine ⟨fun c3 => ?_, fun c3 => ?_⟩ <;> (try simp (disch := omega) only [oi_le, oi_lt, oi_eq, oi_lt0, oi_le0, oi_0lt, oi_0le, oi_eq0, oi_eq1, bI_eq0, bI_ne0, bI_eq1, decide_eq_true_eq, decide_eq_false_iff_not, lc_lt, lc_gt, lc_eq, lc_ge, lc_le, ol_lt, ol_eq, ne_eq, Int.not_lt, Int.not_le, Bool.not_eq_true, Bool.not_eq_false, Decidable.not_not, not_true_eq_false, not_false_eq_true, Bool.true_eq_false, Bool.false_eq_true] at c3) <;> (first | (exfalso; omega) | ((fail_if_success with_reducible refine hJ _ _ _ _ ?_); conv => whnf) | skip)
      exact fin
  refine r_x_follow hC (fun J hJ => ?_)
  have c16 : ¬ ((0 ≤ z ∧ z < h0 0) ∧ (0 ≤ y ∧ y < h0 0)) → J 16 [.inr (.inr (1, 0)), .inl (Int32.ofInt z), .inl (Int32.ofInt y), .inl (bI is)] [] σ := by
    intro hbd
    refine hJ _ _ _ _ ?_
    conv => whnf
    refine s_refuse hC ?_
    conv => whnf
    exact ⟨Or.inl rfl, bad hbd⟩
  refine hJ _ _ _ _ ?_
  conv => whnf
  refine s_isTopic hC hn z1 z2 ?_
  conv => whnf
  refine ⟨fun c => ?_, fun c => ?_⟩ <;> (try simp (disch := omega) only [oi_le, oi_lt, oi_eq, oi_lt0, oi_le0, oi_0lt, oi_0le, oi_eq0, oi_eq1, bI_eq0, bI_ne0, bI_eq1, decide_eq_true_eq, decide_eq_false_iff_not, lc_lt, lc_gt, lc_eq, lc_ge, lc_le, ol_lt, ol_eq, ne_eq, Int.not_lt, Int.not_le, Bool.not_eq_true, Bool.not_eq_false, Decidable.not_not, not_true_eq_false, not_false_eq_true, Bool.true_eq_false, Bool.false_eq_true] at c) <;> (first | (exfalso; omega) | ((fail_if_success with_reducible refine hJ _ _ _ _ ?_); conv => whnf) | skip)
  · exact c16 (by omega)
  · refine s_isTopic hC hn y1 y2 ?_
    conv => whnf
    refine ⟨fun c2 => ?_, fun c2 => ?_⟩ <;> (try simp (disch := omega) only [oi_le, oi_lt, oi_eq, oi_lt0, oi_le0, oi_0lt, oi_0le, oi_eq0, oi_eq1, bI_eq0, bI_ne0, bI_eq1, decide_eq_true_eq, decide_eq_false_iff_not, lc_lt, lc_gt, lc_eq, lc_ge, lc_le, ol_lt, ol_eq, ne_eq, Int.not_lt, Int.not_le, Bool.not_eq_true, Bool.not_eq_false, Decidable.not_not, not_true_eq_false, not_false_eq_true, Bool.true_eq_false, Bool.false_eq_true] at c2) <;> (first | (exfalso; omega) | ((fail_if_success with_reducible refine hJ _ _ _ _ ?_); conv => whnf) | skip)
    · obtain ⟨t, rfl⟩ : ∃ t : Nat, z = (t : Int) := ⟨z.toNat, by omega⟩
      obtain ⟨u, rfl⟩ : ∃ u : Nat, y = (u : Int) := ⟨y.toNat, by omega⟩
      have htw := hw.2.1 t c.2
      obtain ⟨a, ea⟩ : ∃ a : Nat, h0 (13 + 2 * t) = (a : Int) := ⟨(h0 (13 + 2 * t)).toNat, by omega⟩
      have e26 : σ.1 26 n t = Int32.ofInt (a : Int) := by rw [(qt t c.2).2, ea]
      have ent : ∀ τ : AM, ∀ K' : AV → AM → Prop, M0 τ h0 → (a.testBit u = is → K' (.inl (Int32.ofInt 0)) (wI τ 46 0 2 (Int32.ofInt 7))) → (a.testBit u ≠ is → K' (.inl (Int32.ofInt 1)) (wI (wI τ 47 0 (13 + 2 * t) (Int32.ofInt ((a ^^^ 2 ^ u : Nat) : Int))) 46 0 2 (Int32.ofInt 0))) → CALL (r + 20) n_m_follow [.inr (.inr (46, 0)), .inl (Int32.ofInt (t : Int)), .inl (Int32.ofInt (u : Int)), .inl (bI is)] τ K' := by
        intro τ K' hmt k1 k2
        refine r_m_follow hC (fun J hJ => ?_)
        refine hJ _ _ _ _ ?_
        conv => whnf
        rw [oi_l (by omega) (by omega)]
        refine s_m_isTopic hC hmt hw (by omega) (by omega) ?_
        conv => whnf
        refine ⟨fun c3 => ?_, fun c3 => ?_⟩ <;> (try simp (disch := omega) only [oi_le, oi_lt, oi_eq, oi_lt0, oi_le0, oi_0lt, oi_0le, oi_eq0, oi_eq1, bI_eq0, bI_ne0, bI_eq1, decide_eq_true_eq, decide_eq_false_iff_not, lc_lt, lc_gt, lc_eq, lc_ge, lc_le, ol_lt, ol_eq, ne_eq, Int.not_lt, Int.not_le, Bool.not_eq_true, Bool.not_eq_false, Decidable.not_not, not_true_eq_false, not_false_eq_true, Bool.true_eq_false, Bool.false_eq_true] at c3) <;> (first | (exfalso; omega) | ((with_reducible refine hJ _ _ _ _ ?_); conv => whnf) | (conv => whnf))
        rw [oi_l (by omega) (by omega)]
        refine s_m_isTopic hC hmt hw (by omega) (by omega) ?_
        conv => whnf
        refine ⟨fun c4 => ?_, fun c4 => ?_⟩ <;> (try simp (disch := omega) only [oi_le, oi_lt, oi_eq, oi_lt0, oi_le0, oi_0lt, oi_0le, oi_eq0, oi_eq1, bI_eq0, bI_ne0, bI_eq1, decide_eq_true_eq, decide_eq_false_iff_not, lc_lt, lc_gt, lc_eq, lc_ge, lc_le, ol_lt, ol_eq, ne_eq, Int.not_lt, Int.not_le, Bool.not_eq_true, Bool.not_eq_false, Decidable.not_not, not_true_eq_false, not_false_eq_true, Bool.true_eq_false, Bool.false_eq_true] at c4) <;> (first | (exfalso; omega) | ((with_reducible refine hJ _ _ _ _ ?_); conv => whnf) | (conv => whnf))
        refine s_m_nextOf hC hmt (by omega) ?_
        conv => whnf
        rw [ea]
        refine s_m_isIn hC (by omega) (by omega) ?_
        conv => whnf
        refine ⟨fun c5 => ?_, fun c5 => ?_⟩
        · rw [bI_inj] at c5
          refine hJ _ _ _ _ ?_
          conv => whnf
          refine s_m_topicRow hC ?_
          conv => whnf
          rw [oi_add]
          refine ⟨(oi_in (by omega) (by omega)).mpr ⟨by omega, by omega⟩, ?_⟩
          conv => whnf
          refine ⟨(oi_in (by omega) (by omega)).mpr ⟨by omega, by omega⟩, ?_⟩
          conv => whnf
          rw [oi_nat (by omega) (by omega), show (12 + 2 * (t : Int) + 1).toNat = 13 + 2 * t by omega, hmt _ (by omega), ea, oi_shl (by omega), oi_xor]
          refine s_m_is hC (x := 0) (by omega) (by omega) ?_
          conv => whnf
          exact ⟨Or.inr rfl, k2 c5⟩
        · rw [bI_inj] at c5
          conv => whnf
          refine s_m_is hC (x := 7) (by omega) (by omega) ?_
          conv => whnf
          exact ⟨Or.inl rfl, k1 c5⟩
      refine hJ _ _ _ _ ?_
      conv => whnf
      rw [hnn]
      refine ⟨by omega, ?_⟩
      conv => whnf
      refine ⟨(oi_in (by omega) (by omega)).mpr ⟨by omega, by omega⟩, ?_⟩
      conv => whnf
      rw [oi_nat (by omega) (by omega), Int.toNat_natCast, e26]
      refine s_has hC (by omega) (by omega) ?_
      conv => whnf
      refine ⟨fun c5 => ?_, fun c5 => ?_⟩
      · rw [bI_inj] at c5
        have exr := setW_xor (a := a) (k := u) (b := is) (by omega) (by omega) c5
        have xl : a ^^^ 2 ^ u < 64 := Nat.xor_lt_two_pow (n := 6) (by omega) (Nat.pow_lt_pow_right (by omega) (by omega))
        have uo : upOk h0 (13 + 2 * t) ((a ^^^ 2 ^ u : Nat) : Int) := Or.inr (Or.inr (Or.inr (Or.inr (Or.inl ⟨t, c.2, rfl, by omega, by omega⟩))))
        have wk := WP.upd ⟨hw, hw67⟩ uo
        have u5 : up h0 (13 + 2 * t) ((a ^^^ 2 ^ u : Nat) : Int) 5 = h0 5 := up_ne (by omega)
        refine hJ _ _ _ _ ?_
        conv => whnf
        rw [hnn]
        refine ⟨by omega, ?_⟩
        conv => whnf
        rw [hnn]
        refine ⟨by omega, ?_⟩
        conv => whnf
        refine ⟨(oi_in (by omega) (by omega)).mpr ⟨by omega, by omega⟩, ?_⟩
        conv => whnf
        rw [oi_nat (by omega) (by omega), Int.toNat_natCast, e26]
        refine s_with hC (by omega) (by omega) ?_
        conv => whnf
        refine ⟨(oi_in (by omega) (by omega)).mpr ⟨by omega, by omega⟩, ?_⟩
        conv => whnf
        rw [oi_nat (by omega) (by omega), Int.toNat_natCast, exr]
        refine s_agree hC ?_
        conv => whnf
        refine ⟨Or.inr rfl, ?_⟩
        have hm1 : M0 (wI (wI σ 26 n t (Int32.ofInt ((a ^^^ 2 ^ u : Nat) : Int))) 1 0 16 (Int32.ofInt 0)) h0 := M0.c (hm.fr (fun j _ => by rw [wI1, if_neg (by omega)]))
        refine ent _ _ hm1 (fun z => absurd z c5) (fun _ => ?_)
        exact h _ _ (Rel.edit2 ha hb (h' := up h0 (13 + 2 * t) ((a ^^^ 2 ^ u : Nat) : Int)) (HRep.c (HRep.upd (t := 26) (j := t) hr hw (Or.inr (Or.inr (Or.inr (Or.inl ⟨Or.inr rfl, c.2⟩)))) ⟨by show 13 + 2 * t ≠ 0; omega, by show 13 + 2 * t ≠ 1; omega, by show 13 + 2 * t ≠ 2; omega⟩)) (M0.fd hm1.upd) wk (by omega) (hsy.cg (up_ne (by omega)) (fun m _ => up_ne (by omega))) (up_ne (by omega)) (up_ne (by omega)) (up_ne (by omega)) ((Ch.wI (cE_h (by omega) (by omega))).tr (Ch.wI cE_c)) ((Ch.wI (mE_a (by omega))).tr (Ch.wI mE_s)) wI_16 wI_16)
      · rw [bI_inj] at c5
        conv => whnf
        refine s_refuse hC ?_
        conv => whnf
        refine ⟨Or.inl rfl, ?_⟩
        refine ent _ _ hm.c (fun _ => ?_) (fun z => absurd c5 z)
        exact h _ _ (hR.sc done2.1 done2.2)
    · exact c16 (by omega)
