/-! what will be -/
theorem done3 {σ σ' σ'' : AM} {x : Int32} {S : Nat → Nat → Nat → Prop} (h1 : SC σ σ') (hx : σ'.1 1 0 16 = x) (hc : Ch S σ' σ'') (hs : ∀ t i j, S t i j → ¬ keepI t i j) (h16 : ¬ S 1 0 16) : SC σ (wI σ'' 46 0 2 x) ∧ (wI σ'' 46 0 2 x).1 1 0 16 = (wI σ'' 46 0 2 x).1 46 0 2 := by
  refine ⟨(h1.tr (hc.sc hs)).tr (SC.wI nk_status), ?_⟩
  rw [wI1, if_neg (by omega), wI1, if_pos ⟨rfl, rfl, rfl⟩, hc.1 1 0 16 h16, hx]
/-- class: STATUS behind what it tried -/
theorem sc_hc {σ σ' : AM} {x : Int32} (hf : Fr (HS 0) σ σ') : SC σ (wI σ' 1 0 16 x) ∧ (wI σ' 1 0 16 x).1 1 0 16 = x := ⟨(SC.hs (by omega) hf).tr (SC.wI nk_code), by rw [wI1, if_pos ⟨rfl, rfl, rfl⟩]⟩
theorem M0.hc {σ σ' : AM} {x : Int32} {h : Nat → Int} (hm : M0 σ h) (hs : SC σ σ') : M0 σ' h := hm.fr (fun j hj => hs.1 47 0 j (by unfold keepI; omega))
/-- what the reference lays aside -/
def tS (t i j : Nat) : Prop := i = 0 ∧ ((t = 47 ∧ 2790 ≤ j) ∨ (t = 46 ∧ (j = 24 ∨ j = 25 ∨ j = 26)))
theorem tS_k : ∀ t i j, tS t i j → ¬ keepI t i j := by
  intro t i j h
  unfold tS at h
  unfold keepI
  omega
theorem kept_t {σ σ2 : AM} {b : Nat} (h1 : 2790 ≤ b) (h2 : b + 97 ≤ 3372) (hc : Ch (fun t i j => mS t i j ∨ (t = 47 ∧ i = 0 ∧ b + 97 ≤ j)) (cpI σ 47 0 47 0 0 b 97) σ2) : Ch (fun t i j => tS t i j ∧ (t = 47 → b ≤ j)) σ (cpI σ2 47 0 47 0 b 0 97) := by
  refine (kept (by omega) h2 rfl hc ?_).mo ?_
  · intro j a b
    unfold mS
    omega
  · intro t i j
    unfold mS tS
    omega
theorem mS_o {σ σ' : AM} {b : Nat} (h : Ch mS σ σ') : Ch (fun t i j => mS t i j ∨ (t = 47 ∧ i = 0 ∧ b + 97 ≤ j)) σ σ' := h.mo (fun _ _ _ q => Or.inl q)
theorem kept_ts {σ σ2 : AM} {b : Nat} (h1 : 2790 ≤ b) (h2 : b + 97 ≤ 3372) (hc : Ch mS (cpI σ 47 0 47 0 0 b 97) σ2) : Ch tS σ (cpI σ2 47 0 47 0 b 0 97) := (kept_t h1 h2 (mS_o hc)).mo (fun _ _ _ q => q.1)
theorem tS_16 : ¬ tS 1 0 16 := by unfold tS; omega
theorem op_pausesIn {CALL : CT} (hC : RuleAll CALL) {r : Nat} {σ : AM} {K : AV → AV → AM → Prop} {n : Nat} {h0 : Nat → Int} (hn : NH σ n h0) {z : Int} (z1 : -2147483648 ≤ z) (z2 : z < 2147483648) (h : ∀ v σ2, SC σ σ2 → σ2.1 1 0 16 = σ2.1 46 0 2 → K v v σ2) : CALL (r + 20) n_x_pausesIn [.inr (.inr (1, 0)), .inl (Int32.ofInt z)] σ (fun v σ1 => CALL (r + 20) n_m_pausesIn [.inr (.inr (46, 0)), .inl (Int32.ofInt z)] σ1 (fun v' σ2 => K v v' σ2)) := by
  obtain ⟨n45, hnn, hr, hm, ⟨hw, hw67⟩, h59⟩ := id hn
  have b := hw.1
  obtain ⟨q0, q1, q2, q3, q4, q5, q6, q7, q8, q9, qa, qt, qm, qe⟩ := id hr
  refine r_x_pausesIn hC (fun J hJ => ?_)
  refine hJ _ _ _ _ ?_
  conv => whnf
  refine s_withinI hC (by omega) (by omega) (by omega) (by omega) (by omega) (by omega) ?_
  conv => whnf
  refine ⟨fun c => ?_, fun c => ?_⟩ <;> (try simp (disch := omega) only [oi_le, oi_lt, oi_eq, oi_lt0, oi_le0, oi_0lt, oi_0le, oi_eq0, oi_eq1, bI_eq0, bI_ne0, bI_eq1, decide_eq_true_eq, decide_eq_false_iff_not, lc_lt, lc_gt, lc_eq, lc_ge, lc_le, ol_lt, ol_eq, ne_eq, Int.not_lt, Int.not_le, Bool.not_eq_true, Bool.not_eq_false, Decidable.not_not, not_true_eq_false, not_false_eq_true, Bool.true_eq_false, Bool.false_eq_true] at c) <;> (first | (exfalso; omega) | ((with_reducible refine hJ _ _ _ _ ?_); conv => whnf) | (conv => whnf))
  · rw [hnn]
    refine ⟨by omega, ?_⟩
    conv => whnf
    obtain ⟨k, rfl⟩ : ∃ k : Nat, z = (k : Int) := ⟨z.toNat, by omega⟩
    refine s_aheadIn hC hr ⟨hw, hw67⟩ (by omega) (by omega) ?_
    intro σ1 g1 g2 g3
    have sc1 := SC.hs (by omega) g2
    have hn1 := hn.sc sc1
    have hw2 := (minN_WF k ⟨hw, hw67⟩ (by omega)).1.1.1
    conv => whnf
    rw [hn1.2.1]
    refine ⟨by omega, ?_⟩
    conv => whnf
    rw [g1.2.2.2.2.2.2.1, hn1.2.2.1.2.2.2.2.2.2.1, oi_sub]
    refine s_give hC ?_
    conv => whnf
    refine r_m_pausesIn hC (fun J hJ => ?_)
    refine hJ _ _ _ _ ?_
    conv => whnf
    refine s_m_isSpan hC (by omega) (by omega) ?_
    conv => whnf
    refine ⟨fun c2 => ?_, fun c2 => ?_⟩ <;> (try simp (disch := omega) only [oi_le, oi_lt, oi_eq, oi_lt0, oi_le0, oi_0lt, oi_0le, oi_eq0, oi_eq1, bI_eq0, bI_ne0, bI_eq1, decide_eq_true_eq, decide_eq_false_iff_not, lc_lt, lc_gt, lc_eq, lc_ge, lc_le, ol_lt, ol_eq, ne_eq, Int.not_lt, Int.not_le, Bool.not_eq_true, Bool.not_eq_false, Decidable.not_not, not_true_eq_false, not_false_eq_true, Bool.true_eq_false, Bool.false_eq_true] at c2) <;> (first | (exfalso; omega) | ((with_reducible refine hJ _ _ _ _ ?_); conv => whnf) | (conv => whnf))
    refine s_m_keeps hC (to := 2790) (by omega) (by omega) ?_
    conv => whnf
    refine s_m_minutesGo hC ((hm.fr (fun j hj => by rw [wI1, if_neg (by omega)]; exact sc1.1 47 0 j (by unfold keepI; omega))).cp (b := 2790) (h := h0) (σ := wI σ1 1 0 16 (Int32.ofInt 0)) (by omega)) ⟨hw, hw67⟩ (by omega) ?_
    intro σ2 f1 f2
    conv => whnf
    refine s_m_restores hC (to := 2790) (by omega) (by omega) ?_
    conv => whnf
    refine s_m_gives hC ?_
    conv => whnf
    have dn := done3 (sc_hc (x := Int32.ofInt 0) g2).1 (sc_hc (x := Int32.ofInt 0) g2).2 (kept_ts (b := 2790) (by omega) (by omega) f2.ch) tS_k tS_16
    exact h _ _ dn.1 dn.2
  · refine s_none hC ?_
    conv => whnf
    refine r_m_pausesIn hC (fun J hJ => ?_)
    refine hJ _ _ _ _ ?_
    conv => whnf
    refine s_m_isSpan hC (by omega) (by omega) ?_
    conv => whnf
    refine ⟨fun c2 => ?_, fun c2 => ?_⟩ <;> (try simp (disch := omega) only [oi_le, oi_lt, oi_eq, oi_lt0, oi_le0, oi_0lt, oi_0le, oi_eq0, oi_eq1, bI_eq0, bI_ne0, bI_eq1, decide_eq_true_eq, decide_eq_false_iff_not, lc_lt, lc_gt, lc_eq, lc_ge, lc_le, ol_lt, ol_eq, ne_eq, Int.not_lt, Int.not_le, Bool.not_eq_true, Bool.not_eq_false, Decidable.not_not, not_true_eq_false, not_false_eq_true, Bool.true_eq_false, Bool.false_eq_true] at c2) <;> (first | (exfalso; omega) | ((with_reducible refine hJ _ _ _ _ ?_); conv => whnf) | (conv => whnf))
    refine s_m_refuse hC ?_
    conv => whnf
    exact h _ _ done2.1 done2.2
theorem m0_sh {σ σ1 : AM} {x : Int32} {h0 : Nat → Int} (hm : M0 σ h0) (sc1 : SC σ σ1) : M0 (wI σ1 1 0 16 x) h0 := hm.fr (fun j hj => by rw [wI1, if_neg (by omega)]; exact sc1.1 47 0 j (by unfold keepI; omega))
theorem op_speakerIn {CALL : CT} (hC : RuleAll CALL) {r : Nat} {σ : AM} {K : AV → AV → AM → Prop} {n : Nat} {h0 : Nat → Int} (hn : NH σ n h0) {z : Int} (z1 : -2147483648 ≤ z) (z2 : z < 2147483648) (h : ∀ v σ2, SC σ σ2 → σ2.1 1 0 16 = σ2.1 46 0 2 → K v v σ2) : CALL (r + 20) n_x_speakerIn [.inr (.inr (1, 0)), .inl (Int32.ofInt z)] σ (fun v σ1 => CALL (r + 20) n_m_speakerIn [.inr (.inr (46, 0)), .inl (Int32.ofInt z)] σ1 (fun v' σ2 => K v v' σ2)) := by
  obtain ⟨n45, hnn, hr, hm, ⟨hw, hw67⟩, h59⟩ := id hn
  have b := hw.1
  obtain ⟨q0, q1, q2, q3, q4, q5, q6, q7, q8, q9, qa, qt, qm, qe⟩ := id hr
  refine r_x_speakerIn hC (fun J hJ => ?_)
  refine hJ _ _ _ _ ?_
  conv => whnf
  refine s_withinI hC (by omega) (by omega) (by omega) (by omega) (by omega) (by omega) ?_
  conv => whnf
  refine ⟨fun c => ?_, fun c => ?_⟩ <;> (try simp (disch := omega) only [oi_le, oi_lt, oi_eq, oi_lt0, oi_le0, oi_0lt, oi_0le, oi_eq0, oi_eq1, bI_eq0, bI_ne0, bI_eq1, decide_eq_true_eq, decide_eq_false_iff_not, lc_lt, lc_gt, lc_eq, lc_ge, lc_le, ol_lt, ol_eq, ne_eq, Int.not_lt, Int.not_le, Bool.not_eq_true, Bool.not_eq_false, Decidable.not_not, not_true_eq_false, not_false_eq_true, Bool.true_eq_false, Bool.false_eq_true] at c) <;> (first | (exfalso; omega) | ((with_reducible refine hJ _ _ _ _ ?_); conv => whnf) | (conv => whnf))
  · rw [hnn]
    refine ⟨by omega, ?_⟩
    conv => whnf
    obtain ⟨k, rfl⟩ : ∃ k : Nat, z = (k : Int) := ⟨z.toNat, by omega⟩
    refine s_aheadIn hC hr ⟨hw, hw67⟩ (by omega) (by omega) ?_
    intro σ1 g1 g2 g3
    have sc1 := SC.hs (by omega) g2
    have hw2 := (minN_WF k ⟨hw, hw67⟩ (by omega)).1.1
    have so := speechS_ok hw2
    have sb := spM_ok hw2 so
    conv => whnf
    refine s_speech hC g1 hw2 ?_
    conv => whnf
    refine s_monkOf hC hw2 so ?_
    conv => whnf
    refine s_giveOrNone hC (by omega) (by omega) ?_
    conv => whnf
    refine r_m_speakerIn hC (fun J hJ => ?_)
    refine hJ _ _ _ _ ?_
    conv => whnf
    refine s_m_isSpan hC (by omega) (by omega) ?_
    conv => whnf
    refine ⟨fun c2 => ?_, fun c2 => ?_⟩ <;> (try simp (disch := omega) only [oi_le, oi_lt, oi_eq, oi_lt0, oi_le0, oi_0lt, oi_0le, oi_eq0, oi_eq1, bI_eq0, bI_ne0, bI_eq1, decide_eq_true_eq, decide_eq_false_iff_not, lc_lt, lc_gt, lc_eq, lc_ge, lc_le, ol_lt, ol_eq, ne_eq, Int.not_lt, Int.not_le, Bool.not_eq_true, Bool.not_eq_false, Decidable.not_not, not_true_eq_false, not_false_eq_true, Bool.true_eq_false, Bool.false_eq_true] at c2) <;> (first | (exfalso; omega) | ((with_reducible refine hJ _ _ _ _ ?_); conv => whnf) | (conv => whnf))
    refine s_m_keeps hC (to := 2790) (by omega) (by omega) ?_
    conv => whnf
    refine s_m_minutesGo hC (M0.cp (b := 2790) (m0_sh hm sc1) (by omega)) ⟨hw, hw67⟩ (by omega) ?_
    intro σ2 f1 f2
    conv => whnf
    refine s_m_laysSpeaker hC f1 hw2 ?_
    intro σ3 e1 e2 e3 e4 e5 e6
    conv => whnf
    refine s_m_restores hC (to := 2790) (by omega) (by omega) ?_
    conv => whnf
    rw [show (cpI σ3 47 0 47 0 2790 0 97).1 46 0 24 = σ3.1 46 0 24 by rw [cpI1, if_neg (by omega)], e4]
    refine s_m_orNone hC (by omega) (by omega) ?_
    conv => whnf
    have dn := done3 (sc_hc (x := Int32.ofInt (if spM (speechS (minN k h0)) = -1 then 6 else 0)) g2).1 (sc_hc (x := Int32.ofInt (if spM (speechS (minN k h0)) = -1 then 6 else 0)) g2).2 (kept_ts (b := 2790) (by omega) (by omega) (f2.ch.tr e2.ch)) tS_k tS_16
    exact h _ _ dn.1 dn.2
  · refine s_none hC ?_
    conv => whnf
    refine r_m_speakerIn hC (fun J hJ => ?_)
    refine hJ _ _ _ _ ?_
    conv => whnf
    refine s_m_isSpan hC (by omega) (by omega) ?_
    conv => whnf
    refine ⟨fun c2 => ?_, fun c2 => ?_⟩ <;> (try simp (disch := omega) only [oi_le, oi_lt, oi_eq, oi_lt0, oi_le0, oi_0lt, oi_0le, oi_eq0, oi_eq1, bI_eq0, bI_ne0, bI_eq1, decide_eq_true_eq, decide_eq_false_iff_not, lc_lt, lc_gt, lc_eq, lc_ge, lc_le, ol_lt, ol_eq, ne_eq, Int.not_lt, Int.not_le, Bool.not_eq_true, Bool.not_eq_false, Decidable.not_not, not_true_eq_false, not_false_eq_true, Bool.true_eq_false, Bool.false_eq_true] at c2) <;> (first | (exfalso; omega) | ((with_reducible refine hJ _ _ _ _ ?_); conv => whnf) | (conv => whnf))
    refine s_m_refuse hC ?_
    conv => whnf
    exact h _ _ done2.1 done2.2
theorem minN_lo : ∀ (k : Nat) (h : Nat → Int) {j : Nat}, (j < 5 ∨ (9 < j ∧ j < 24)) → minN k h j = h j
  | 0, h, j, _ => rfl
  | k + 1, h, j, hj => by rw [minN_succ, minF_lo _ hj, minN_lo k h hj]
theorem op_breathIn {CALL : CT} (hC : RuleAll CALL) {r : Nat} {σ : AM} {K : AV → AV → AM → Prop} {n : Nat} {h0 : Nat → Int} (hn : NH σ n h0) {y z : Int} (y1 : -2147483648 ≤ y) (y2 : y < 2147483648) (z1 : -2147483648 ≤ z) (z2 : z < 2147483648) (h : ∀ v σ2, SC σ σ2 → σ2.1 1 0 16 = σ2.1 46 0 2 → K v v σ2) : CALL (r + 20) n_x_breathIn [.inr (.inr (1, 0)), .inl (Int32.ofInt y), .inl (Int32.ofInt z)] σ (fun v σ1 => CALL (r + 20) n_m_breathIn [.inr (.inr (46, 0)), .inl (Int32.ofInt y), .inl (Int32.ofInt z)] σ1 (fun v' σ2 => K v v' σ2)) := by
  obtain ⟨n45, hnn, hr, hm, ⟨hw, hw67⟩, h59⟩ := id hn
  have b := hw.1
  obtain ⟨q0, q1, q2, q3, q4, q5, q6, q7, q8, q9, qa, qt, qm, qe⟩ := id hr
  have bad : ¬ ((0 ≤ y ∧ y < h0 1) ∧ 0 ≤ z ∧ z ≤ 300) → CALL (r + 20) n_m_breathIn [.inr (.inr (46, 0)), .inl (Int32.ofInt y), .inl (Int32.ofInt z)] (wI σ 1 0 16 (Int32.ofInt 1)) (fun v' σ2 => K (.inl (Int32.ofInt (-1))) v' σ2) := by
    intro hb
    refine r_m_breathIn hC (fun J hJ => ?_)
    refine hJ _ _ _ _ ?_
    conv => whnf
    refine s_m_isMonk hC hm.c hw y1 y2 ?_
    conv => whnf
    refine ⟨fun c => ?_, fun c => ?_⟩ <;> (try simp (disch := omega) only [oi_le, oi_lt, oi_eq, oi_lt0, oi_le0, oi_0lt, oi_0le, oi_eq0, oi_eq1, bI_eq0, bI_ne0, bI_eq1, decide_eq_true_eq, decide_eq_false_iff_not, lc_lt, lc_gt, lc_eq, lc_ge, lc_le, ol_lt, ol_eq, ne_eq, Int.not_lt, Int.not_le, Bool.not_eq_true, Bool.not_eq_false, Decidable.not_not, not_true_eq_false, not_false_eq_true, Bool.true_eq_false, Bool.false_eq_true] at c) <;> (first | (exfalso; omega) | ((with_reducible refine hJ _ _ _ _ ?_); conv => whnf) | (conv => whnf))
    · refine s_m_refuse hC ?_
      conv => whnf
      exact h _ _ done2.1 done2.2
    · refine s_m_isSpan hC (by omega) (by omega) ?_
      conv => whnf
      refine ⟨fun c2 => ?_, fun c2 => ?_⟩ <;> (try simp (disch := omega) only [oi_le, oi_lt, oi_eq, oi_lt0, oi_le0, oi_0lt, oi_0le, oi_eq0, oi_eq1, bI_eq0, bI_ne0, bI_eq1, decide_eq_true_eq, decide_eq_false_iff_not, lc_lt, lc_gt, lc_eq, lc_ge, lc_le, ol_lt, ol_eq, ne_eq, Int.not_lt, Int.not_le, Bool.not_eq_true, Bool.not_eq_false, Decidable.not_not, not_true_eq_false, not_false_eq_true, Bool.true_eq_false, Bool.false_eq_true] at c2) <;> (first | (exfalso; omega) | ((with_reducible refine hJ _ _ _ _ ?_); conv => whnf) | (conv => whnf))
      refine hJ _ _ _ _ ?_
      conv => whnf
      refine s_m_refuse hC ?_
      conv => whnf
      exact h _ _ done2.1 done2.2
  refine r_x_breathIn hC (fun J hJ => ?_)
  refine hJ _ _ _ _ ?_
  conv => whnf
  refine s_isMonk hC hn y1 y2 ?_
  conv => whnf
  refine ⟨fun c => ?_, fun c => ?_⟩ <;> (try simp (disch := omega) only [oi_le, oi_lt, oi_eq, oi_lt0, oi_le0, oi_0lt, oi_0le, oi_eq0, oi_eq1, bI_eq0, bI_ne0, bI_eq1, decide_eq_true_eq, decide_eq_false_iff_not, lc_lt, lc_gt, lc_eq, lc_ge, lc_le, ol_lt, ol_eq, ne_eq, Int.not_lt, Int.not_le, Bool.not_eq_true, Bool.not_eq_false, Decidable.not_not, not_true_eq_false, not_false_eq_true, Bool.true_eq_false, Bool.false_eq_true] at c) <;> (first | (exfalso; omega) | ((with_reducible refine hJ _ _ _ _ ?_); conv => whnf) | (conv => whnf))
  · refine s_none hC ?_
    conv => whnf
    exact bad (by omega)
  · refine s_withinI hC (by omega) (by omega) (by omega) (by omega) (by omega) (by omega) ?_
    conv => whnf
    refine ⟨fun c3 => ?_, fun c3 => ?_⟩ <;> (try simp (disch := omega) only [oi_le, oi_lt, oi_eq, oi_lt0, oi_le0, oi_0lt, oi_0le, oi_eq0, oi_eq1, bI_eq0, bI_ne0, bI_eq1, decide_eq_true_eq, decide_eq_false_iff_not, lc_lt, lc_gt, lc_eq, lc_ge, lc_le, ol_lt, ol_eq, ne_eq, Int.not_lt, Int.not_le, Bool.not_eq_true, Bool.not_eq_false, Decidable.not_not, not_true_eq_false, not_false_eq_true, Bool.true_eq_false, Bool.false_eq_true] at c3) <;> (first | (exfalso; omega) | ((with_reducible refine hJ _ _ _ _ ?_); conv => whnf) | (conv => whnf))
    · rw [hnn]
      refine ⟨by omega, ?_⟩
      conv => whnf
      obtain ⟨k, rfl⟩ : ∃ k : Nat, z = (k : Int) := ⟨z.toNat, by omega⟩
      obtain ⟨m, rfl⟩ : ∃ m : Nat, y = (m : Int) := ⟨y.toNat, by omega⟩
      refine s_aheadIn hC hr ⟨hw, hw67⟩ (by omega) (by omega) ?_
      intro σ1 g1 g2 g3
      have sc1 := SC.hs (by omega) g2
      have hw2 := (minN_WF k ⟨hw, hw67⟩ (by omega)).1.1
      have l1 := minN_lo k h0 (j := 1) (by omega)
      conv => whnf
      refine ⟨(oi_in (by omega) (by omega)).mpr ⟨by omega, by omega⟩, ?_⟩
      conv => whnf
      rw [oi_nat (by omega) (by omega), Int.toNat_natCast, (g1.2.2.2.2.2.2.2.2.2.2.2.2.1 m (by omega)).1]
      refine s_give hC ?_
      conv => whnf
      refine r_m_breathIn hC (fun J hJ => ?_)
      refine hJ _ _ _ _ ?_
      conv => whnf
      refine s_m_isMonk hC (m0_sh hm sc1) hw (by omega) (by omega) ?_
      conv => whnf
      refine ⟨fun c2 => ?_, fun c2 => ?_⟩ <;> (try simp (disch := omega) only [oi_le, oi_lt, oi_eq, oi_lt0, oi_le0, oi_0lt, oi_0le, oi_eq0, oi_eq1, bI_eq0, bI_ne0, bI_eq1, decide_eq_true_eq, decide_eq_false_iff_not, lc_lt, lc_gt, lc_eq, lc_ge, lc_le, ol_lt, ol_eq, ne_eq, Int.not_lt, Int.not_le, Bool.not_eq_true, Bool.not_eq_false, Decidable.not_not, not_true_eq_false, not_false_eq_true, Bool.true_eq_false, Bool.false_eq_true] at c2) <;> (first | (exfalso; omega) | ((with_reducible refine hJ _ _ _ _ ?_); conv => whnf) | (conv => whnf))
      refine s_m_isSpan hC (by omega) (by omega) ?_
      conv => whnf
      refine ⟨fun c4 => ?_, fun c4 => ?_⟩ <;> (try simp (disch := omega) only [oi_le, oi_lt, oi_eq, oi_lt0, oi_le0, oi_0lt, oi_0le, oi_eq0, oi_eq1, bI_eq0, bI_ne0, bI_eq1, decide_eq_true_eq, decide_eq_false_iff_not, lc_lt, lc_gt, lc_eq, lc_ge, lc_le, ol_lt, ol_eq, ne_eq, Int.not_lt, Int.not_le, Bool.not_eq_true, Bool.not_eq_false, Decidable.not_not, not_true_eq_false, not_false_eq_true, Bool.true_eq_false, Bool.false_eq_true] at c4) <;> (first | (exfalso; omega) | ((with_reducible refine hJ _ _ _ _ ?_); conv => whnf) | (conv => whnf))
      refine s_m_keeps hC (to := 2790) (by omega) (by omega) ?_
      conv => whnf
      refine s_m_minutesGo hC (M0.cp (b := 2790) (m0_sh hm sc1) (by omega)) ⟨hw, hw67⟩ (by omega) ?_
      intro σ2 f1 f2
      conv => whnf
      refine s_m_monkOf hC (w := 0) f1 (by omega) (by omega) ?_
      conv => whnf
      refine s_m_restores hC (to := 2790) (by omega) (by omega) ?_
      conv => whnf
      refine s_m_gives hC ?_
      conv => whnf
      have dn := done3 (sc_hc (x := Int32.ofInt 0) g2).1 (sc_hc (x := Int32.ofInt 0) g2).2 (kept_ts (b := 2790) (by omega) (by omega) f2.ch) tS_k tS_16
      exact h _ _ dn.1 dn.2
    · refine hJ _ _ _ _ ?_
      conv => whnf
      refine s_none hC ?_
      conv => whnf
      exact bad (by omega)
/-! the first pause -/
def fpS (h : Nat → Int) (k : Nat) : Option Nat := firstF (fun i => decide (speechS (minN i h) = none)) k 0
theorem firstF_no {p : Nat → Bool} : ∀ {k i : Nat}, firstF p k i = none ↔ ∀ j, i ≤ j → j < i + k → p j = false
  | 0, i => ⟨fun _ j h1 h2 => by omega, fun _ => rfl⟩
  | k + 1, i => by
    rw [firstF]
    by_cases hp : p i = true
    · rw [if_pos hp]
      exact ⟨fun z => (by cases z), fun z => (by have := z i (by omega) (by omega); rw [hp] at this; cases this)⟩
    · rw [if_neg hp, firstF_no]
      refine ⟨fun z j h1 h2 => ?_, fun z j h1 h2 => z j (by omega) (by omega)⟩
      by_cases e : j = i
      · subst e
        cases hb : p j with
        | false => rfl
        | true => exact absurd hb hp
      · exact z j (by omega) (by omega)
theorem firstF_ge {p : Nat → Bool} : ∀ {k i t : Nat}, firstF p k i = some t → i ≤ t ∧ t < i + k ∧ p t = true ∧ ∀ j, i ≤ j → j < t → p j = false
  | 0, i, t, h => by cases h
  | k + 1, i, t, h => by
    rw [firstF] at h
    by_cases hp : p i = true
    · rw [if_pos hp] at h
      cases h
      exact ⟨by omega, by omega, hp, fun j h1 h2 => by omega⟩
    · rw [if_neg hp] at h
      obtain ⟨h1, h2, h3, h4⟩ := firstF_ge h
      refine ⟨by omega, by omega, h3, fun j a b => ?_⟩
      by_cases e : j = i
      · subst e
        cases hb : p j with
        | false => rfl
        | true => exact absurd hb hp
      · exact h4 j (by omega) b
theorem s_firstPauseOf {CALL : CT} (hC : RuleAll CALL) {r : Nat} {σ : AM} {K : AV → AM → Prop} {k : Nat} {h0 : Nat → Int} (hr : HRep σ 0 h0) (hw : WP h0) (h5 : h0 5 + k ≤ 20000) (h : ∀ σ' : AM, Fr (HS 0) σ σ' → σ'.2 = σ.2 → K (.inl (Int32.ofInt (opI (fpS h0 k)))) σ') : CALL (r + 5) n_Ahead_firstPauseOf [.inr (.inr (22, 0)), .inl (Int32.ofInt k)] σ K := by
  refine r_Ahead_firstPauseOf hC (fun J hJ => ?_)
  refine hJ _ _ _ _ ?_
  conv => whnf
  have b := hw.1.1
  have loop : ∀ (q i : Nat) (σ1 : AM), i + q = k → HRep σ1 0 (minN i h0) → Fr (HS 0) σ σ1 → σ1.2 = σ.2 → fpS h0 k = firstF (fun i => decide (speechS (minN i h0) = none)) q i → J 2 [.inr (.inr (22, 0)), .inl (Int32.ofInt (k : Int)), .inl (Int32.ofInt (i : Int))] [] σ1 := by
    intro q
    induction q with
    | zero =>
      intro i σ1 hi g1 g2 g3 g4
      have : i = k := by omega
      subst this
      refine hJ _ _ _ _ ?_
      conv => whnf
      refine ⟨fun c => ?_, fun c => ?_⟩ <;> (try simp (disch := omega) only [oi_le, oi_lt, oi_eq, oi_lt0, oi_le0, oi_0lt, oi_0le, oi_eq0, oi_eq1, bI_eq0, bI_ne0, bI_eq1, decide_eq_true_eq, decide_eq_false_iff_not, lc_lt, lc_gt, lc_eq, lc_ge, lc_le, ol_lt, ol_eq, ne_eq, Int.not_lt, Int.not_le, Bool.not_eq_true, Bool.not_eq_false, Decidable.not_not, not_true_eq_false, not_false_eq_true, Bool.true_eq_false, Bool.false_eq_true] at c) <;> (first | (exfalso; omega) | ((with_reducible refine hJ _ _ _ _ ?_); conv => whnf) | (conv => whnf))
      have hh := h σ1 g2 g3
      rw [g4] at hh
      exact hh
    | succ q ih =>
      intro i σ1 hi g1 g2 g3 g4
      have hwi := minN_WF i hw (by omega)
      refine hJ _ _ _ _ ?_
      conv => whnf
      refine ⟨fun c => ?_, fun c => ?_⟩ <;> (try simp (disch := omega) only [oi_le, oi_lt, oi_eq, oi_lt0, oi_le0, oi_0lt, oi_0le, oi_eq0, oi_eq1, bI_eq0, bI_ne0, bI_eq1, decide_eq_true_eq, decide_eq_false_iff_not, lc_lt, lc_gt, lc_eq, lc_ge, lc_le, ol_lt, ol_eq, ne_eq, Int.not_lt, Int.not_le, Bool.not_eq_true, Bool.not_eq_false, Decidable.not_not, not_true_eq_false, not_false_eq_true, Bool.true_eq_false, Bool.false_eq_true] at c) <;> (first | (exfalso; omega) | ((with_reducible refine hJ _ _ _ _ ?_); conv => whnf) | (conv => whnf))
      refine s_passOne hC g1 hwi.1 (by omega) ?_
      intro σ2 f1 f2 f3
      conv => whnf
      rw [firstF] at g4
      refine ⟨fun c2 => ?_, fun c2 => ?_⟩ <;> (try simp (disch := omega) only [oi_le, oi_lt, oi_eq, oi_lt0, oi_le0, oi_0lt, oi_0le, oi_eq0, oi_eq1, bI_eq0, bI_ne0, bI_eq1, decide_eq_true_eq, decide_eq_false_iff_not, lc_lt, lc_gt, lc_eq, lc_ge, lc_le, ol_lt, ol_eq, ne_eq, Int.not_lt, Int.not_le, Bool.not_eq_true, Bool.not_eq_false, Decidable.not_not, not_true_eq_false, not_false_eq_true, Bool.true_eq_false, Bool.false_eq_true] at c2) <;> (first | (exfalso; omega) | ((with_reducible refine hJ _ _ _ _ ?_); conv => whnf) | (conv => whnf))
      · rw [if_neg (by simpa using c2)] at g4
        rw [← minN_succ] at f1
        rw [oi_succ]
        exact ih (i + 1) σ2 (by omega) f1 (g2.tr f2) (f3.trans g3) g4
      · have c3 : speechS (minN i h0) = none := by simpa using c2
        rw [if_pos (by simp [c3])] at g4
        have hh := h σ2 (g2.tr f2) (f3.trans g3)
        rw [g4] at hh
        exact hh
  exact loop k 0 σ (by omega) hr Fr.rf rfl rfl
theorem s_aheadFirst {CALL : CT} (hC : RuleAll CALL) {r : Nat} {σ : AM} {K : AV → AM → Prop} {n k : Nat} {h0 : Nat → Int} (hr : HRep σ n h0) (hw : WP h0) (hn : 4 ≤ n) (h5 : h0 5 + k ≤ 20000) (h : ∀ σ' : AM, Fr (HS 0) σ σ' → σ'.2.2 = σ.2.2 → K (.inl (Int32.ofInt (opI (fpS h0 k)))) σ') : CALL (r + 7) n_Ahead_firstPause [.inr (.inr (11, 0)), .inr (.inr (22, n)), .inl (Int32.ofInt k)] σ K := by
  refine r_Ahead_firstPause hC (fun J hJ => ?_)
  refine hJ _ _ _ _ ?_
  conv => whnf
  refine s_aheadIn hC (k := 0) hr hw hn (by omega) ?_
  intro σ1 g1 g2 g3
  conv => whnf
  refine s_firstPauseOf hC g1 hw h5 ?_
  intro σ2 f1 f2
  conv => whnf
  exact h σ2 (g2.tr f1) (by rw [f2, g3])
theorem minF_6 (h : Nat → Int) : minF h 6 = if speechS h = none then h 6 + 1 else h 6 := by
  show goF (hP h) (speechS h) 6 = _
  rw [goF_lo _ _ (by omega) (by omega) (by omega) (by omega), hP_6]
theorem s_m_firstPause {CALL : CT} (hC : RuleAll CALL) {r : Nat} {σ : AM} {K : AV → AM → Prop} {k : Nat} {h0 : Nat → Int} (hr : M0 σ h0) (hw : WP h0) (h5 : h0 5 + k ≤ 20000) (h : ∀ σ' : AM, Ch (fun t i j => tS t i j ∧ (t = 47 → j < 2887)) σ σ' → K (.inl (Int32.ofInt (opI (fpS h0 k)))) σ') : CALL (r + 8) n_m_firstPause [.inr (.inr (46, 0)), .inl (Int32.ofInt k)] σ K := by
  refine r_m_firstPause hC (fun J hJ => ?_)
  refine hJ _ _ _ _ ?_
  conv => whnf
  have b := hw.1.1
  refine s_m_keeps hC (to := 2790) (by omega) (by omega) ?_
  have fin : ∀ (σ1 : AM) (i : Int32), Ch mS (cpI σ 47 0 47 0 0 2790 97) σ1 → J 37 [.inr (.inr (46, 0)), .inl (Int32.ofInt (k : Int)), .inl (Int32.ofInt (opI (fpS h0 k))), .inl i] [] σ1 := by
    intro σ1 i g1
    refine hJ _ _ _ _ ?_
    conv => whnf
    refine s_m_restores hC (to := 2790) (by omega) (by omega) ?_
    conv => whnf
    refine h _ ((kept (b := 2790) (by omega) (by omega) rfl g1 (by intro j a b; unfold mS; omega)).mo ?_)
    intro t i j
    unfold mS tS
    omega
  have loop : ∀ (q i : Nat) (σ1 : AM), i + q = k → M0 σ1 (minN i h0) → Ch mS (cpI σ 47 0 47 0 0 2790 97) σ1 → fpS h0 k = firstF (fun i => decide (speechS (minN i h0) = none)) q i → J 11 [.inr (.inr (46, 0)), .inl (Int32.ofInt (k : Int)), .inl (Int32.ofInt (-1)), .inl (Int32.ofInt (i : Int))] [] σ1 := by
    intro q
    induction q with
    | zero =>
      intro i σ1 hi g1 g2 g4
      refine hJ _ _ _ _ ?_
      conv => whnf
      refine ⟨fun c => ?_, fun c => ?_⟩ <;> (try simp (disch := omega) only [oi_le, oi_lt, oi_eq, oi_lt0, oi_le0, oi_0lt, oi_0le, oi_eq0, oi_eq1, bI_eq0, bI_ne0, bI_eq1, decide_eq_true_eq, decide_eq_false_iff_not, lc_lt, lc_gt, lc_eq, lc_ge, lc_le, ol_lt, ol_eq, ne_eq, Int.not_lt, Int.not_le, Bool.not_eq_true, Bool.not_eq_false, Decidable.not_not, not_true_eq_false, not_false_eq_true, Bool.true_eq_false, Bool.false_eq_true] at c) <;> (first | (exfalso; omega) | ((fail_if_success with_reducible refine hJ _ _ _ _ ?_); conv => whnf) | skip)
      have f := fin σ1 (Int32.ofInt (i : Int)) g2
      rw [g4] at f
      exact f
    | succ q ih =>
      intro i σ1 hi g1 g2 g4
      have hwi := minN_WF i hw (by omega)
      have b6 := hwi.1.1.1
      refine hJ _ _ _ _ ?_
      conv => whnf
      refine ⟨fun c => ?_, fun c => ?_⟩ <;> (try simp (disch := omega) only [oi_le, oi_lt, oi_eq, oi_lt0, oi_le0, oi_0lt, oi_0le, oi_eq0, oi_eq1, bI_eq0, bI_ne0, bI_eq1, decide_eq_true_eq, decide_eq_false_iff_not, lc_lt, lc_gt, lc_eq, lc_ge, lc_le, ol_lt, ol_eq, ne_eq, Int.not_lt, Int.not_le, Bool.not_eq_true, Bool.not_eq_false, Decidable.not_not, not_true_eq_false, not_false_eq_true, Bool.true_eq_false, Bool.false_eq_true] at c) <;> (first | (exfalso; omega) | ((with_reducible refine hJ _ _ _ _ ?_); conv => whnf) | (conv => whnf))
      refine ⟨fun c2 => ?_, fun c2 => ?_⟩ <;> (try simp (disch := omega) only [oi_le, oi_lt, oi_eq, oi_lt0, oi_le0, oi_0lt, oi_0le, oi_eq0, oi_eq1, bI_eq0, bI_ne0, bI_eq1, decide_eq_true_eq, decide_eq_false_iff_not, lc_lt, lc_gt, lc_eq, lc_ge, lc_le, ol_lt, ol_eq, ne_eq, Int.not_lt, Int.not_le, Bool.not_eq_true, Bool.not_eq_false, Decidable.not_not, not_true_eq_false, not_false_eq_true, Bool.true_eq_false, Bool.false_eq_true] at c2) <;> (first | (exfalso; omega) | ((with_reducible refine hJ _ _ _ _ ?_); conv => whnf) | (conv => whnf))
      refine s_m_minutesGo hC (k := 1) g1 hwi.1 (by omega) ?_
      intro σ2 f1 f2
      conv => whnf
      rw [firstF] at g4
      have e6 : minN 1 (minN i h0) 6 = if speechS (minN i h0) = none then minN i h0 6 + 1 else minN i h0 6 := minF_6 _
      rw [e6]
      by_cases c3 : speechS (minN i h0) = none
      · rw [if_pos c3, show minN i h0 6 + 1 - minN i h0 6 = 1 by omega]
        refine ⟨fun c4 => ?_, fun c4 => ?_⟩ <;> (try simp (disch := omega) only [oi_le, oi_lt, oi_eq, oi_lt0, oi_le0, oi_0lt, oi_0le, oi_eq0, oi_eq1, bI_eq0, bI_ne0, bI_eq1, decide_eq_true_eq, decide_eq_false_iff_not, lc_lt, lc_gt, lc_eq, lc_ge, lc_le, ol_lt, ol_eq, ne_eq, Int.not_lt, Int.not_le, Bool.not_eq_true, Bool.not_eq_false, Decidable.not_not, not_true_eq_false, not_false_eq_true, Bool.true_eq_false, Bool.false_eq_true] at c4) <;> (first | (exfalso; omega) | ((with_reducible refine hJ _ _ _ _ ?_); conv => whnf) | (conv => whnf))
        rw [if_pos (by simp [c3])] at g4
        have f := fin σ2 (Int32.ofInt ((i + 1 : Nat) : Int)) (g2.tr f2.ch)
        rw [g4] at f
        refine hJ _ _ _ _ ?_
        conv => whnf
        refine hJ _ _ _ _ ?_
        conv => whnf
        rw [oi_succ]
        refine ⟨fun c5 => ?_, fun c5 => ?_⟩ <;> (try simp (disch := omega) only [oi_le, oi_lt, oi_eq, oi_lt0, oi_le0, oi_0lt, oi_0le, oi_eq0, oi_eq1, bI_eq0, bI_ne0, bI_eq1, decide_eq_true_eq, decide_eq_false_iff_not, lc_lt, lc_gt, lc_eq, lc_ge, lc_le, ol_lt, ol_eq, ne_eq, Int.not_lt, Int.not_le, Bool.not_eq_true, Bool.not_eq_false, Decidable.not_not, not_true_eq_false, not_false_eq_true, Bool.true_eq_false, Bool.false_eq_true] at c5) <;> (first | (exfalso; omega) | ((fail_if_success with_reducible refine hJ _ _ _ _ ?_); conv => whnf) | skip)
        · exact f
        · refine ⟨fun c6 => ?_, fun c6 => ?_⟩ <;> (try simp (disch := omega) only [oi_le, oi_lt, oi_eq, oi_lt0, oi_le0, oi_0lt, oi_0le, oi_eq0, oi_eq1, bI_eq0, bI_ne0, bI_eq1, decide_eq_true_eq, decide_eq_false_iff_not, lc_lt, lc_gt, lc_eq, lc_ge, lc_le, ol_lt, ol_eq, ne_eq, Int.not_lt, Int.not_le, Bool.not_eq_true, Bool.not_eq_false, Decidable.not_not, not_true_eq_false, not_false_eq_true, Bool.true_eq_false, Bool.false_eq_true] at c6) <;> (first | (exfalso; omega) | ((fail_if_success with_reducible refine hJ _ _ _ _ ?_); conv => whnf) | skip)
          exact f
      · rw [if_neg c3, show minN i h0 6 - minN i h0 6 = 0 by omega]
        refine ⟨fun c4 => ?_, fun c4 => ?_⟩ <;> (try simp (disch := omega) only [oi_le, oi_lt, oi_eq, oi_lt0, oi_le0, oi_0lt, oi_0le, oi_eq0, oi_eq1, bI_eq0, bI_ne0, bI_eq1, decide_eq_true_eq, decide_eq_false_iff_not, lc_lt, lc_gt, lc_eq, lc_ge, lc_le, ol_lt, ol_eq, ne_eq, Int.not_lt, Int.not_le, Bool.not_eq_true, Bool.not_eq_false, Decidable.not_not, not_true_eq_false, not_false_eq_true, Bool.true_eq_false, Bool.false_eq_true] at c4) <;> (first | (exfalso; omega) | ((with_reducible refine hJ _ _ _ _ ?_); conv => whnf) | (conv => whnf))
        rw [if_neg (by simp [c3])] at g4
        rw [oi_succ]
        rw [show minN 1 (minN i h0) = minN (i + 1) h0 from (minN_succ i h0).symm] at f1
        exact ih (i + 1) σ2 (by omega) f1 (g2.tr f2.ch) g4
  exact loop k 0 _ (by omega) (hr.cp (by omega)) Ch.rf rfl
theorem op_pauseIn {CALL : CT} (hC : RuleAll CALL) {r : Nat} {σ : AM} {K : AV → AV → AM → Prop} {n : Nat} {h0 : Nat → Int} (hn : NH σ n h0) (h : ∀ v σ2, SC σ σ2 → σ2.1 1 0 16 = σ2.1 46 0 2 → K v v σ2) : CALL (r + 20) n_x_pauseIn [.inr (.inr (1, 0))] σ (fun v σ1 => CALL (r + 20) n_m_pauseIn [.inr (.inr (46, 0))] σ1 (fun v' σ2 => K v v' σ2)) := by
  obtain ⟨n45, hnn, hr, hm, ⟨hw, hw67⟩, h59⟩ := id hn
  have b := hw.1
  obtain ⟨q0, q1, q2, q3, q4, q5, q6, q7, q8, q9, qa, qt, qm, qe⟩ := id hr
  have fb : -1 ≤ opI (fpS h0 301) ∧ opI (fpS h0 301) < 301 := by
    cases hf : fpS h0 301 with
    | none => exact ⟨by decide, by decide⟩
    | some t =>
      have := firstF_ge hf
      show -1 ≤ (t : Int) ∧ (t : Int) < 301
      omega
  refine r_x_pauseIn hC (fun J hJ => ?_)
  refine hJ _ _ _ _ ?_
  conv => whnf
  rw [hnn]
  refine ⟨by omega, ?_⟩
  conv => whnf
  refine s_aheadFirst hC (k := 301) hr ⟨hw, hw67⟩ (by omega) (by omega) ?_
  intro σ1 g1 g3
  have sc1 := SC.hs (by omega) g1
  conv => whnf
  refine s_giveOrNone hC (by omega) (by omega) ?_
  conv => whnf
  refine r_m_pauseIn hC (fun J hJ => ?_)
  refine hJ _ _ _ _ ?_
  conv => whnf
  refine s_m_firstPause hC (k := 301) (m0_sh hm sc1) ⟨hw, hw67⟩ (by omega) ?_
  intro σ2 f1
  conv => whnf
  refine s_m_orNone hC (by omega) (by omega) ?_
  conv => whnf
  have dn := done3 (sc_hc (x := Int32.ofInt (if opI (fpS h0 301) = -1 then 6 else 0)) g1).1 (sc_hc (x := Int32.ofInt (if opI (fpS h0 301) = -1 then 6 else 0)) g1).2 f1 (fun t i j q => tS_k t i j q.1) (fun q => tS_16 q.1)
  exact h _ _ dn.1 dn.2
