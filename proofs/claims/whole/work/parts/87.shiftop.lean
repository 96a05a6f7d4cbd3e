def wOk (n : Nat) (a : Acc) : Prop := a.1 = -1 ∨ ∀ l, l < n → 0 ≤ a.2 l ∧ a.2 l < 42
theorem sea_ok {n : Nat} : ∀ (d : Nat) {h : Nat → Int} {i : Nat} {w : Nat → Int} {a : Acc}, i + d = n → WF h → h 5 + d ≤ 20000 → (∀ l, l < i → 0 ≤ w l ∧ w l < 42) → wOk n a → wOk n (sea d h i w a)
  | 0, h, i, w, a, hi, hw, h5, hwl, ha => by
    rw [sea]
    split
    · exact Or.inr (fun l hl => hwl l (by omega))
    · exact ha
  | d + 1, h, i, w, a, hi, hw, h5, hwl, ha => by
    have b := hw.1
    rw [sea_s]
    have key : ∀ c k a, wOk n a → k + c ≤ 6 * (h 1).toNat → wOk n (seaL (seaK d h i w) c k a) := by
      intro c
      induction c with
      | zero => intro k a ha _; exact ha
      | succ c ih =>
        intro k a ha hk
        rw [seaL]
        refine ih (k + 1) _ ?_ (by omega)
        unfold seaK
        by_cases ho : okK h k = true
        · rw [if_pos ho]
          have sp := okK_sp ho (by omega)
          refine sea_ok d (by omega) (goF_WF hw sp (by omega)) (by rw [goF_5']; omega) (fun l hl => ?_) ha
          by_cases el : l = i
          · rw [el, up_eq]; omega
          · rw [up_ne el]; exact hwl l (by omega)
        · rw [if_neg ho]
          exact ha
    exact key _ 0 a ha (by omega)
def seaR (n : Nat) (h : Nat → Int) : Acc := sea n h 0 (fun _ => 0) (-1, fun _ => 0)
theorem seaR_bd {n : Nat} {h : Nat → Int} (hw : WF h) (h5 : h 5 + n ≤ 20000) (n1 : 1 ≤ n) : -1 ≤ (seaR n h).1 ∧ (seaR n h).1 ≤ 99 ∧ wOk n (seaR n h) := by
  have := sea_bd n (i := 0) (w := fun _ => 0) (a := (-1, fun _ => 0)) hw h5 (fun z => by omega) (by decide) (by decide)
  exact ⟨this.1, this.2.1, sea_ok n (by omega) hw h5 (fun l hl => by omega) (Or.inl rfl)⟩
theorem ChA.sc {S SL : Nat → Nat → Nat → Prop} {σ σ' : AM} (h : ChA S SL σ σ') (hs : ∀ t i j, S t i j → ¬ keepI t i j) (hl : ∀ t i j, SL t i j → ¬ keepL t i j) : SC σ σ' := ⟨fun t i j k => h.1 t i j (fun z => hs t i j z k), fun t i j k => h.2.1 t i j (fun z => hl t i j z k), fun j _ _ => by rw [h.2.2]⟩
theorem s_easiest {CALL : CT} (hC : RuleAll CALL) {r : Nat} {σ : AM} {K : AV → AM → Prop} {q n : Nat} {h0 : Nat → Int} (hr : HRep σ q h0) (hw : WF h0) (hq : 4 ≤ q) (h5 : h0 5 + n ≤ 20000) (n1 : 1 ≤ n) (n3 : n ≤ 3) (h : ∀ σ' : AM, SC σ σ' → ((seaR n h0).1 ≠ -1 → ∀ l, l < n → σ'.1 15 0 l = Int32.ofInt ((seaR n h0).2 l)) → K (.inl (Int32.ofInt (seaR n h0).1)) σ') : CALL (r + 8) n_Ahead_easiest [.inr (.inr (11, 0)), .inr (.inr (22, q)), .inl (Int32.ofInt n)] σ K := by
  refine r_Ahead_easiest hC (fun J hJ => ?_)
  refine hJ _ _ _ _ ?_
  conv => whnf
  refine ⟨(oi_in (by omega) (by omega)).mpr ⟨by omega, by omega⟩, ?_⟩
  conv => whnf
  rw [show 0 + (Int32.ofInt 0).toNatClampNeg = 0 from rfl]
  refine s_houseCopy hC (by omega) ?_
  conv => whnf
  have hr1 := hr.hou hw (a := 0) (by omega)
  have f1 := houC_fr (σ := σ) (n := q) (a := 0)
  have f4 : (houC σ q 0).2.2 = σ.2.2 := houC_R
  generalize houC σ q 0 = τ at hr1 f1 f4 ⊢
  obtain ⟨e, rfl⟩ : ∃ e, n = e + 1 := ⟨n - 1, by omega⟩
  have hc1 : ChA (fun t i j => (22 ≤ t ∧ t ≤ 36 ∧ i < 4) ∨ t = 11 ∨ t = 13 ∨ t = 15) (fun t i j => 22 ≤ t ∧ t ≤ 36 ∧ i < 4) σ τ := ⟨fun t p j z => congrFun (f1 t p (fun y => z (by unfold HS at y; omega))).1 j, fun t p j z => congrFun (f1 t p (fun y => z (by unfold HS at y; omega))).2.1 j, f4⟩
  have er : r + 7 = r + (2 - e) + e + 5 := by omega
  rw [er]
  refine s_tryMinute hC (n := e + 1) n3 e (r + (2 - e)) (i := 0) (h0 := h0) (w := fun _ => 0) (a := (-1, fun _ => 0)) (by omega) ?_ hw (by omega) ⟨?_, ?_, fun l hl => by omega, Or.inl rfl⟩ (by decide) (by decide) (fun σ2 g1 g2 => ?_)
  · exact (hr1.ch (S := fun t i j => t = 11) (Ch.wI rfl) (fun t j a b => by omega)).ch (S := fun t i j => t = 11) (Ch.wI rfl) (fun t j a b => by omega)
  · rw [wI1, if_neg (by omega), wI_16]
  · rw [wI_16]
  · conv => whnf
    rw [g2.2.1]
    refine h σ2 (((hc1.tr (ChA.wI (Or.inr (Or.inl rfl)))).tr (ChA.wI (Or.inr (Or.inl rfl)))).tr (g1.mo (fun t i j z => ?_) (fun t i j z => ?_)) |>.sc (fun t i j z => ?_) (fun t i j z => ?_)) (fun hne l hl => ?_)
    · unfold shS at z; omega
    · unfold shL at z; omega
    · unfold keepI; omega
    · unfold keepL; omega
    · rcases g2.2.2.2 with y | y
      · exact absurd y hne
      · exact y l hl
theorem op_shift {CALL : CT} (hC : RuleAll CALL) {r : Nat} {σ : AM} {K : AV → AV → AM → Prop} {n : Nat} {h0 : Nat → Int} (hn : NH σ n h0) {z : Int} (z1 : -2147483648 ≤ z) (z2 : z < 2147483648) (h : ∀ v σ2, SC σ σ2 → σ2.1 1 0 16 = σ2.1 46 0 2 → K v v σ2) : CALL (r + 20) n_x_shift [.inr (.inr (1, 0)), .inl (Int32.ofInt z)] σ (fun v σ1 => CALL (r + 20) n_m_shift [.inr (.inr (46, 0)), .inl (Int32.ofInt z)] σ1 (fun v' σ2 => K v v' σ2)) := by
  obtain ⟨n45, hnn, hr, hm, ⟨hw, hw67⟩, h59⟩ := id hn
  have b := hw.1
  obtain ⟨q0, q1, q2, q3, q4, q5, q6, q7, q8, q9, qa, qt, qm, qe⟩ := id hr
  refine r_x_shift hC (fun J hJ => ?_)
  refine hJ _ _ _ _ ?_
  conv => whnf
  refine s_withinI hC (by omega) (by omega) (by omega) (by omega) (by omega) (by omega) ?_
  conv => whnf
  refine ⟨fun c => ?_, fun c => ?_⟩ <;> (try simp (disch := omega) only [oi_le, oi_lt, oi_eq, oi_lt0, oi_le0, oi_0lt, oi_0le, oi_eq0, oi_eq1, bI_eq0, bI_ne0, bI_eq1, decide_eq_true_eq, decide_eq_false_iff_not, lc_lt, lc_gt, lc_eq, lc_ge, lc_le, ol_lt, ol_eq, ne_eq, Int.not_lt, Int.not_le, Bool.not_eq_true, Bool.not_eq_false, Decidable.not_not, not_true_eq_false, not_false_eq_true, Bool.true_eq_false, Bool.false_eq_true] at c) <;> (first | (exfalso; omega) | ((with_reducible refine hJ _ _ _ _ ?_); conv => whnf) | (conv => whnf))
  · obtain ⟨k, rfl⟩ : ∃ k : Nat, z = (k : Int) := ⟨z.toNat, by omega⟩
    have bd := seaR_bd (n := k) hw (by omega) (by omega)
    rw [hnn]
    refine ⟨by omega, ?_⟩
    conv => whnf
    refine s_easiest hC hr hw (by omega) (by omega) (by omega) (by omega) (fun σ1 sc1 w1 => ?_)
    conv => whnf
    refine s_giveOrNone hC (by omega) (by omega) ?_
    conv => whnf
    have hm1 := m0_sh (x := Int32.ofInt (if (seaR k h0).1 = -1 then 6 else 0)) hm sc1
    refine r_m_shift hC (fun J hJ => ?_)
    refine hJ _ _ _ _ ?_
    conv => whnf
    rw [oi_l (by omega) (by omega)]
    refine s_m_isFrom hC (by omega) (by omega) (by omega) (by omega) (by omega) (by omega) ?_
    conv => whnf
    refine ⟨fun c2 => ?_, fun c2 => ?_⟩ <;> (try simp (disch := omega) only [oi_le, oi_lt, oi_eq, oi_lt0, oi_le0, oi_0lt, oi_0le, oi_eq0, oi_eq1, bI_eq0, bI_ne0, bI_eq1, decide_eq_true_eq, decide_eq_false_iff_not, lc_lt, lc_gt, lc_eq, lc_ge, lc_le, ol_lt, ol_eq, ne_eq, Int.not_lt, Int.not_le, Bool.not_eq_true, Bool.not_eq_false, Decidable.not_not, not_true_eq_false, not_false_eq_true, Bool.true_eq_false, Bool.false_eq_true] at c2) <;> (first | (exfalso; omega) | ((with_reducible refine hJ _ _ _ _ ?_); conv => whnf) | (conv => whnf))
    refine s_m_shifting hC hm1 hw (by omega) (by omega) (by omega) (fun σ2 c1 w2 => ?_)
    conv => whnf
    refine s_m_orNone hC (z := (seaR k h0).1) (by omega) (by omega) ?_
    conv => whnf
    refine hJ _ _ _ _ ?_
    conv => whnf
    have dn := done3 (x := Int32.ofInt (if (seaR k h0).1 = -1 then 6 else 0)) (sc1.tr (SC.wI nk_code)) wI_16 c1 (fun t i j y => by unfold rsS at y; unfold keepI; omega) (by unfold rsS; omega)
    exact h _ _ dn.1 dn.2
  · refine s_none hC ?_
    conv => whnf
    refine r_m_shift hC (fun J hJ => ?_)
    refine hJ _ _ _ _ ?_
    conv => whnf
    rw [oi_l (by omega) (by omega)]
    refine s_m_isFrom hC (by omega) (by omega) (by omega) (by omega) (by omega) (by omega) ?_
    conv => whnf
    refine ⟨fun c2 => ?_, fun c2 => ?_⟩ <;> (try simp (disch := omega) only [oi_le, oi_lt, oi_eq, oi_lt0, oi_le0, oi_0lt, oi_0le, oi_eq0, oi_eq1, bI_eq0, bI_ne0, bI_eq1, decide_eq_true_eq, decide_eq_false_iff_not, lc_lt, lc_gt, lc_eq, lc_ge, lc_le, ol_lt, ol_eq, ne_eq, Int.not_lt, Int.not_le, Bool.not_eq_true, Bool.not_eq_false, Decidable.not_not, not_true_eq_false, not_false_eq_true, Bool.true_eq_false, Bool.false_eq_true] at c2) <;> (first | (exfalso; omega) | ((with_reducible refine hJ _ _ _ _ ?_); conv => whnf) | (conv => whnf))
    refine s_m_refuse hC ?_
    conv => whnf
    refine hJ _ _ _ _ ?_
    conv => whnf
    exact h _ _ done2.1 done2.2
theorem s_monkOfN {CALL : CT} (hC : RuleAll CALL) {r : Nat} {σ : AM} {K : AV → AM → Prop} {q : Int} (q0 : 0 ≤ q) (q1 : q < 42) (h : K (.inl (Int32.ofInt (q / 6))) σ) : CALL (r + 1) n_x_monkOf [.inl (Int32.ofInt q)] σ K := by
  refine r_x_monkOf hC (fun J hJ => ?_)
  refine hJ _ _ _ _ ?_
  conv => whnf
  refine ⟨fun c => ?_, fun c => ?_⟩ <;> (try simp (disch := omega) only [oi_le, oi_lt, oi_eq, oi_lt0, oi_le0, oi_0lt, oi_0le, oi_eq0, oi_eq1, bI_eq0, bI_ne0, bI_eq1, decide_eq_true_eq, decide_eq_false_iff_not, lc_lt, lc_gt, lc_eq, lc_ge, lc_le, ol_lt, ol_eq, ne_eq, Int.not_lt, Int.not_le, Bool.not_eq_true, Bool.not_eq_false, Decidable.not_not, not_true_eq_false, not_false_eq_true, Bool.true_eq_false, Bool.false_eq_true] at c) <;> (first | (exfalso; omega) | ((with_reducible refine hJ _ _ _ _ ?_); conv => whnf) | (conv => whnf))
  refine ⟨by decide, ?_⟩
  conv => whnf
  refine hJ _ _ _ _ ?_
  conv => whnf
  rw [oi_div (by omega) (by omega) (by omega) (by omega)]
  exact h
theorem s_topicOfN {CALL : CT} (hC : RuleAll CALL) {r : Nat} {σ : AM} {K : AV → AM → Prop} {q : Int} (q0 : 0 ≤ q) (q1 : q < 42) (h : K (.inl (Int32.ofInt (q % 6))) σ) : CALL (r + 1) n_x_topicOf [.inl (Int32.ofInt q)] σ K := by
  refine r_x_topicOf hC (fun J hJ => ?_)
  refine hJ _ _ _ _ ?_
  conv => whnf
  refine ⟨fun c => ?_, fun c => ?_⟩ <;> (try simp (disch := omega) only [oi_le, oi_lt, oi_eq, oi_lt0, oi_le0, oi_0lt, oi_0le, oi_eq0, oi_eq1, bI_eq0, bI_ne0, bI_eq1, decide_eq_true_eq, decide_eq_false_iff_not, lc_lt, lc_gt, lc_eq, lc_ge, lc_le, ol_lt, ol_eq, ne_eq, Int.not_lt, Int.not_le, Bool.not_eq_true, Bool.not_eq_false, Decidable.not_not, not_true_eq_false, not_false_eq_true, Bool.true_eq_false, Bool.false_eq_true] at c) <;> (first | (exfalso; omega) | ((with_reducible refine hJ _ _ _ _ ?_); conv => whnf) | (conv => whnf))
  refine ⟨by decide, ?_⟩
  conv => whnf
  refine hJ _ _ _ _ ?_
  conv => whnf
  rw [oi_mod (by omega) (by omega) (by omega) (by omega)]
  exact h
theorem op_shiftAt {CALL : CT} (hC : RuleAll CALL) {r : Nat} {σ : AM} {K : AV → AV → AM → Prop} {n : Nat} {h0 : Nat → Int} (hn : NH σ n h0) {z y w : Int} (z1 : -2147483648 ≤ z) (z2 : z < 2147483648) (y1 : -2147483648 ≤ y) (y2 : y < 2147483648) (w1 : -2147483648 ≤ w) (w2 : w < 2147483648) (h : ∀ v σ2, SC σ σ2 → σ2.1 1 0 16 = σ2.1 46 0 2 → K v v σ2) : CALL (r + 20) n_x_shiftAt [.inr (.inr (1, 0)), .inl (Int32.ofInt z), .inl (Int32.ofInt y), .inl (Int32.ofInt w)] σ (fun v σ1 => CALL (r + 20) n_m_shiftAt [.inr (.inr (46, 0)), .inl (Int32.ofInt z), .inl (Int32.ofInt y), .inl (Int32.ofInt w)] σ1 (fun v' σ2 => K v v' σ2)) := by
  obtain ⟨n45, hnn, hr, hm, ⟨hw, hw67⟩, h59⟩ := id hn
  have b := hw.1
  obtain ⟨q0, q1, q2, q3, q4, q5, q6, q7, q8, q9, qa, qt, qm, qe⟩ := id hr
  have bad : ¬ ((1 ≤ z ∧ z ≤ 3) ∧ (0 ≤ y ∧ y ≤ z - 1) ∧ 0 ≤ w ∧ w ≤ 1) → CALL (r + 20) n_m_shiftAt [.inr (.inr (46, 0)), .inl (Int32.ofInt z), .inl (Int32.ofInt y), .inl (Int32.ofInt w)] (wI σ 1 0 16 (Int32.ofInt 1)) (fun v' σ2 => K (.inl (Int32.ofInt (-1))) v' σ2) := by
    intro hbd
    refine r_m_shiftAt hC (fun J hJ => ?_)
    have fin : J 35 [.inr (.inr (46, 0)), .inl (Int32.ofInt z), .inl (Int32.ofInt y), .inl (Int32.ofInt w)] [] (wI σ 1 0 16 (Int32.ofInt 1)) := by
      refine hJ _ _ _ _ ?_
      conv => whnf
      refine s_m_refuse hC ?_
      conv => whnf
      exact h _ _ done2.1 done2.2
    refine hJ _ _ _ _ ?_
    conv => whnf
    rw [oi_l (by omega) (by omega)]
    refine s_m_isFrom hC (by omega) (by omega) (by omega) (by omega) (by omega) (by omega) ?_
    conv => whnf
    refine ⟨fun c2 => ?_, fun c2 => ?_⟩ <;> (try simp (disch := omega) only [oi_le, oi_lt, oi_eq, oi_lt0, oi_le0, oi_0lt, oi_0le, oi_eq0, oi_eq1, bI_eq0, bI_ne0, bI_eq1, decide_eq_true_eq, decide_eq_false_iff_not, lc_lt, lc_gt, lc_eq, lc_ge, lc_le, ol_lt, ol_eq, ne_eq, Int.not_lt, Int.not_le, Bool.not_eq_true, Bool.not_eq_false, Decidable.not_not, not_true_eq_false, not_false_eq_true, Bool.true_eq_false, Bool.false_eq_true] at c2) <;> (first | (exfalso; omega) | ((fail_if_success with_reducible refine hJ _ _ _ _ ?_); conv => whnf) | skip)
    · exact fin
    · rw [oi_l (by omega) (by omega), oi_l (by omega) (by omega), ol_sub]
      refine s_m_isFrom hC (by omega) (by omega) (by omega) (by omega) (by omega) (by omega) ?_
      conv => whnf
      refine ⟨fun c3 => ?_, fun c3 => ?_⟩ <;> (try simp (disch := omega) only [oi_le, oi_lt, oi_eq, oi_lt0, oi_le0, oi_0lt, oi_0le, oi_eq0, oi_eq1, bI_eq0, bI_ne0, bI_eq1, decide_eq_true_eq, decide_eq_false_iff_not, lc_lt, lc_gt, lc_eq, lc_ge, lc_le, ol_lt, ol_eq, ne_eq, Int.not_lt, Int.not_le, Bool.not_eq_true, Bool.not_eq_false, Decidable.not_not, not_true_eq_false, not_false_eq_true, Bool.true_eq_false, Bool.false_eq_true] at c3) <;> (first | (exfalso; omega) | ((fail_if_success with_reducible refine hJ _ _ _ _ ?_); conv => whnf) | skip)
      · exact fin
      · rw [oi_l (by omega) (by omega)]
        refine s_m_isFrom hC (by omega) (by omega) (by omega) (by omega) (by omega) (by omega) ?_
        conv => whnf
        refine ⟨fun c4 => ?_, fun c4 => ?_⟩ <;> (try simp (disch := omega) only [oi_le, oi_lt, oi_eq, oi_lt0, oi_le0, oi_0lt, oi_0le, oi_eq0, oi_eq1, bI_eq0, bI_ne0, bI_eq1, decide_eq_true_eq, decide_eq_false_iff_not, lc_lt, lc_gt, lc_eq, lc_ge, lc_le, ol_lt, ol_eq, ne_eq, Int.not_lt, Int.not_le, Bool.not_eq_true, Bool.not_eq_false, Decidable.not_not, not_true_eq_false, not_false_eq_true, Bool.true_eq_false, Bool.false_eq_true] at c4) <;> (first | (exfalso; omega) | ((fail_if_success with_reducible refine hJ _ _ _ _ ?_); conv => whnf) | skip)
        exact fin
  refine r_x_shiftAt hC (fun J hJ => ?_)
  have c29 : ¬ ((1 ≤ z ∧ z ≤ 3) ∧ (0 ≤ y ∧ y ≤ z - 1) ∧ 0 ≤ w ∧ w ≤ 1) → J 29 [.inr (.inr (1, 0)), .inl (Int32.ofInt z), .inl (Int32.ofInt y), .inl (Int32.ofInt w), unset] [] σ := by
    intro hbd
    refine hJ _ _ _ _ ?_
    conv => whnf
    refine s_none hC ?_
    conv => whnf
    exact bad hbd
  refine hJ _ _ _ _ ?_
  conv => whnf
  refine s_withinI hC (by omega) (by omega) (by omega) (by omega) (by omega) (by omega) ?_
  conv => whnf
  refine ⟨fun c => ?_, fun c => ?_⟩ <;> (try simp (disch := omega) only [oi_le, oi_lt, oi_eq, oi_lt0, oi_le0, oi_0lt, oi_0le, oi_eq0, oi_eq1, bI_eq0, bI_ne0, bI_eq1, decide_eq_true_eq, decide_eq_false_iff_not, lc_lt, lc_gt, lc_eq, lc_ge, lc_le, ol_lt, ol_eq, ne_eq, Int.not_lt, Int.not_le, Bool.not_eq_true, Bool.not_eq_false, Decidable.not_not, not_true_eq_false, not_false_eq_true, Bool.true_eq_false, Bool.false_eq_true] at c) <;> (first | (exfalso; omega) | ((fail_if_success with_reducible refine hJ _ _ _ _ ?_); conv => whnf) | skip)
  · exact c29 (by omega)
  · rw [oi_sub]
    refine s_withinI hC (by omega) (by omega) (by omega) (by omega) (by omega) (by omega) ?_
    conv => whnf
    refine ⟨fun c2 => ?_, fun c2 => ?_⟩ <;> (try simp (disch := omega) only [oi_le, oi_lt, oi_eq, oi_lt0, oi_le0, oi_0lt, oi_0le, oi_eq0, oi_eq1, bI_eq0, bI_ne0, bI_eq1, decide_eq_true_eq, decide_eq_false_iff_not, lc_lt, lc_gt, lc_eq, lc_ge, lc_le, ol_lt, ol_eq, ne_eq, Int.not_lt, Int.not_le, Bool.not_eq_true, Bool.not_eq_false, Decidable.not_not, not_true_eq_false, not_false_eq_true, Bool.true_eq_false, Bool.false_eq_true] at c2) <;> (first | (exfalso; omega) | ((fail_if_success with_reducible refine hJ _ _ _ _ ?_); conv => whnf) | skip)
    · exact c29 (by omega)
    · refine s_withinI hC (by omega) (by omega) (by omega) (by omega) (by omega) (by omega) ?_
      conv => whnf
      refine ⟨fun c3 => ?_, fun c3 => ?_⟩ <;> (try simp (disch := omega) only [oi_le, oi_lt, oi_eq, oi_lt0, oi_le0, oi_0lt, oi_0le, oi_eq0, oi_eq1, bI_eq0, bI_ne0, bI_eq1, decide_eq_true_eq, decide_eq_false_iff_not, lc_lt, lc_gt, lc_eq, lc_ge, lc_le, ol_lt, ol_eq, ne_eq, Int.not_lt, Int.not_le, Bool.not_eq_true, Bool.not_eq_false, Decidable.not_not, not_true_eq_false, not_false_eq_true, Bool.true_eq_false, Bool.false_eq_true] at c3) <;> (first | (exfalso; omega) | ((fail_if_success with_reducible refine hJ _ _ _ _ ?_); conv => whnf) | skip)
      · obtain ⟨k, rfl⟩ : ∃ k : Nat, z = (k : Int) := ⟨z.toNat, by omega⟩
        obtain ⟨q, rfl⟩ : ∃ q : Nat, y = (q : Int) := ⟨y.toNat, by omega⟩
        have bd := seaR_bd (n := k) hw (by omega) (by omega)
        have mod : ∀ (τ : AM) (K' : AV → AM → Prop), M0 τ h0 → ((seaR k h0).1 = -1 → ∀ τ' : AM, Ch (fun t q j => rsS t q j ∧ (t = 47 → 97 ≤ j)) τ τ' → K' (.inl (Int32.ofInt (-1))) (wI τ' 46 0 2 (Int32.ofInt 6))) → ((seaR k h0).1 ≠ -1 → ∀ τ' : AM, Ch (fun t q j => rsS t q j ∧ (t = 47 → 97 ≤ j)) τ τ' → K' (.inl (Int32.ofInt (if w = 0 then (seaR k h0).2 q / 6 else (seaR k h0).2 q % 6))) (wI τ' 46 0 2 (Int32.ofInt 0))) → CALL (r + 20) n_m_shiftAt [.inr (.inr (46, 0)), .inl (Int32.ofInt (k : Int)), .inl (Int32.ofInt (q : Int)), .inl (Int32.ofInt w)] τ K' := by
          intro τ K' hmt m1 m2
          refine r_m_shiftAt hC (fun J hJ => ?_)
          refine hJ _ _ _ _ ?_
          conv => whnf
          rw [oi_l (by omega) (by omega)]
          refine s_m_isFrom hC (by omega) (by omega) (by omega) (by omega) (by omega) (by omega) ?_
          conv => whnf
          refine ⟨fun c4 => ?_, fun c4 => ?_⟩ <;> (try simp (disch := omega) only [oi_le, oi_lt, oi_eq, oi_lt0, oi_le0, oi_0lt, oi_0le, oi_eq0, oi_eq1, bI_eq0, bI_ne0, bI_eq1, decide_eq_true_eq, decide_eq_false_iff_not, lc_lt, lc_gt, lc_eq, lc_ge, lc_le, ol_lt, ol_eq, ne_eq, Int.not_lt, Int.not_le, Bool.not_eq_true, Bool.not_eq_false, Decidable.not_not, not_true_eq_false, not_false_eq_true, Bool.true_eq_false, Bool.false_eq_true] at c4) <;> (first | (exfalso; omega) | ((with_reducible refine hJ _ _ _ _ ?_); conv => whnf) | (conv => whnf))
          rw [oi_l (by omega) (by omega), oi_l (by omega) (by omega), ol_sub]
          refine s_m_isFrom hC (by omega) (by omega) (by omega) (by omega) (by omega) (by omega) ?_
          conv => whnf
          refine ⟨fun c5 => ?_, fun c5 => ?_⟩ <;> (try simp (disch := omega) only [oi_le, oi_lt, oi_eq, oi_lt0, oi_le0, oi_0lt, oi_0le, oi_eq0, oi_eq1, bI_eq0, bI_ne0, bI_eq1, decide_eq_true_eq, decide_eq_false_iff_not, lc_lt, lc_gt, lc_eq, lc_ge, lc_le, ol_lt, ol_eq, ne_eq, Int.not_lt, Int.not_le, Bool.not_eq_true, Bool.not_eq_false, Decidable.not_not, not_true_eq_false, not_false_eq_true, Bool.true_eq_false, Bool.false_eq_true] at c5) <;> (first | (exfalso; omega) | ((with_reducible refine hJ _ _ _ _ ?_); conv => whnf) | (conv => whnf))
          rw [oi_l (by omega) (by omega)]
          refine s_m_isFrom hC (by omega) (by omega) (by omega) (by omega) (by omega) (by omega) ?_
          conv => whnf
          refine ⟨fun c6 => ?_, fun c6 => ?_⟩ <;> (try simp (disch := omega) only [oi_le, oi_lt, oi_eq, oi_lt0, oi_le0, oi_0lt, oi_0le, oi_eq0, oi_eq1, bI_eq0, bI_ne0, bI_eq1, decide_eq_true_eq, decide_eq_false_iff_not, lc_lt, lc_gt, lc_eq, lc_ge, lc_le, ol_lt, ol_eq, ne_eq, Int.not_lt, Int.not_le, Bool.not_eq_true, Bool.not_eq_false, Decidable.not_not, not_true_eq_false, not_false_eq_true, Bool.true_eq_false, Bool.false_eq_true] at c6) <;> (first | (exfalso; omega) | ((with_reducible refine hJ _ _ _ _ ?_); conv => whnf) | (conv => whnf))
          refine s_m_shifting hC hmt hw (by omega) (by omega) (by omega) (fun σ2 f1 f2 => ?_)
          conv => whnf
          rw [show (sea k h0 0 (fun _ => 0) (-1, fun _ => 0)).1 = (seaR k h0).1 from rfl]
          refine ⟨fun c7 => ?_, fun c7 => ?_⟩ <;> (try simp (disch := omega) only [oi_le, oi_lt, oi_eq, oi_lt0, oi_le0, oi_0lt, oi_0le, oi_eq0, oi_eq1, bI_eq0, bI_ne0, bI_eq1, decide_eq_true_eq, decide_eq_false_iff_not, lc_lt, lc_gt, lc_eq, lc_ge, lc_le, ol_lt, ol_eq, ne_eq, Int.not_lt, Int.not_le, Bool.not_eq_true, Bool.not_eq_false, Decidable.not_not, not_true_eq_false, not_false_eq_true, Bool.true_eq_false, Bool.false_eq_true] at c7) <;> (first | (exfalso; omega) | ((with_reducible refine hJ _ _ _ _ ?_); conv => whnf) | (conv => whnf))
          · have f3 := f2 c7 q (by omega)
            have f3 : σ2.1 56 0 q = Int32.ofInt ((seaR k h0).2 q) := f3
            have wb : 0 ≤ (seaR k h0).2 q ∧ (seaR k h0).2 q < 42 := by
              rcases bd.2.2 with g | g
              · exact absurd g c7
              · exact g q (by omega)
            have m2 := m2 c7 σ2 f1
            refine ⟨fun c8 => ?_, fun c8 => ?_⟩ <;> (try simp (disch := omega) only [oi_le, oi_lt, oi_eq, oi_lt0, oi_le0, oi_0lt, oi_0le, oi_eq0, oi_eq1, bI_eq0, bI_ne0, bI_eq1, decide_eq_true_eq, decide_eq_false_iff_not, lc_lt, lc_gt, lc_eq, lc_ge, lc_le, ol_lt, ol_eq, ne_eq, Int.not_lt, Int.not_le, Bool.not_eq_true, Bool.not_eq_false, Decidable.not_not, not_true_eq_false, not_false_eq_true, Bool.true_eq_false, Bool.false_eq_true] at c8) <;> (first | (exfalso; omega) | ((with_reducible refine hJ _ _ _ _ ?_); conv => whnf) | (conv => whnf))
            · refine ⟨(oi_in (by omega) (by omega)).mpr ⟨by omega, by omega⟩, ?_⟩
              conv => whnf
              rw [oi_nat (by omega) (by omega), Int.toNat_natCast, f3]
              refine ⟨by decide, ?_⟩
              conv => whnf
              rw [oi_mod (by omega) (by omega) (by omega) (by omega)]
              refine hJ _ _ _ _ ?_
              conv => whnf
              refine s_m_gives hC ?_
              conv => whnf
              rw [if_neg c8] at m2
              exact m2
            · refine ⟨(oi_in (by omega) (by omega)).mpr ⟨by omega, by omega⟩, ?_⟩
              conv => whnf
              rw [oi_nat (by omega) (by omega), Int.toNat_natCast, f3]
              refine ⟨by decide, ?_⟩
              conv => whnf
              rw [oi_div (by omega) (by omega) (by omega) (by omega)]
              refine hJ _ _ _ _ ?_
              conv => whnf
              refine s_m_gives hC ?_
              conv => whnf
              rw [if_pos c8] at m2
              exact m2
          · refine s_m_refuse hC ?_
            conv => whnf
            exact m1 c7 σ2 f1
        refine hJ _ _ _ _ ?_
        conv => whnf
        rw [hnn]
        refine ⟨by omega, ?_⟩
        conv => whnf
        refine s_easiest hC hr hw (by omega) (by omega) (by omega) (by omega) (fun σ1 sc1 e1 => ?_)
        conv => whnf
        refine ⟨fun c4 => ?_, fun c4 => ?_⟩ <;> (try simp (disch := omega) only [oi_le, oi_lt, oi_eq, oi_lt0, oi_le0, oi_0lt, oi_0le, oi_eq0, oi_eq1, bI_eq0, bI_ne0, bI_eq1, decide_eq_true_eq, decide_eq_false_iff_not, lc_lt, lc_gt, lc_eq, lc_ge, lc_le, ol_lt, ol_eq, ne_eq, Int.not_lt, Int.not_le, Bool.not_eq_true, Bool.not_eq_false, Decidable.not_not, not_true_eq_false, not_false_eq_true, Bool.true_eq_false, Bool.false_eq_true] at c4) <;> (first | (exfalso; omega) | ((with_reducible refine hJ _ _ _ _ ?_); conv => whnf) | (conv => whnf))
        · have f3 := e1 c4 q (by omega)
          have wb : 0 ≤ (seaR k h0).2 q ∧ (seaR k h0).2 q < 42 := by
            rcases bd.2.2 with g | g
            · exact absurd g c4
            · exact g q (by omega)
          have hm1 := m0_sh (x := Int32.ofInt 0) hm sc1
          have fin : ∀ v, v = (if w = 0 then (seaR k h0).2 q / 6 else (seaR k h0).2 q % 6) → CALL (r + 20) n_m_shiftAt [.inr (.inr (46, 0)), .inl (Int32.ofInt (k : Int)), .inl (Int32.ofInt (q : Int)), .inl (Int32.ofInt w)] (wI σ1 1 0 16 (Int32.ofInt 0)) (fun v' σ2 => K (.inl (Int32.ofInt v)) v' σ2) := by
            intro v hv
            refine mod _ _ hm1 (fun g => absurd g c4) (fun _ τ' f => ?_)
            rw [← hv]
            have dn := done3 (x := Int32.ofInt 0) (sc1.tr (SC.wI nk_code)) wI_16 f (fun t i j y => by unfold rsS at y; unfold keepI; omega) (by unfold rsS; omega)
            exact h _ _ dn.1 dn.2
          refine ⟨(oi_in (by omega) (by omega)).mpr ⟨by omega, by omega⟩, ?_⟩
          conv => whnf
          rw [oi_nat (by omega) (by omega), Int.toNat_natCast, f3]
          refine ⟨fun c5 => ?_, fun c5 => ?_⟩ <;> (try simp (disch := omega) only [oi_le, oi_lt, oi_eq, oi_lt0, oi_le0, oi_0lt, oi_0le, oi_eq0, oi_eq1, bI_eq0, bI_ne0, bI_eq1, decide_eq_true_eq, decide_eq_false_iff_not, lc_lt, lc_gt, lc_eq, lc_ge, lc_le, ol_lt, ol_eq, ne_eq, Int.not_lt, Int.not_le, Bool.not_eq_true, Bool.not_eq_false, Decidable.not_not, not_true_eq_false, not_false_eq_true, Bool.true_eq_false, Bool.false_eq_true] at c5) <;> (first | (exfalso; omega) | ((with_reducible refine hJ _ _ _ _ ?_); conv => whnf) | (conv => whnf))
          · refine s_topicOfN hC wb.1 wb.2 ?_
            conv => whnf
            refine hJ _ _ _ _ ?_
            conv => whnf
            refine s_give hC ?_
            conv => whnf
            exact fin _ (by rw [if_neg c5])
          · refine s_monkOfN hC wb.1 wb.2 ?_
            conv => whnf
            refine hJ _ _ _ _ ?_
            conv => whnf
            refine s_give hC ?_
            conv => whnf
            exact fin _ (by rw [if_pos c5])
        · refine s_none hC ?_
          conv => whnf
          have hm1 := m0_sh (x := Int32.ofInt 6) hm sc1
          refine mod _ _ hm1 (fun _ τ' f => ?_) (fun g => absurd c4 g)
          have dn := done3 (x := Int32.ofInt 6) (sc1.tr (SC.wI nk_code)) wI_16 f (fun t i j y => by unfold rsS at y; unfold keepI; omega) (by unfold rsS; omega)
          exact h _ _ dn.1 dn.2
      · exact c29 (by omega)
