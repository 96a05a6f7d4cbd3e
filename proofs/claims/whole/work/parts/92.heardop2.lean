theorem wl_bd {s : Nat → Nat} {n : Nat} {h : Nat → Int} (hw : WF h) (n4 : n ≤ 4) : (wl s n h 0).length ≤ 2401 := Nat.le_trans (wl_len s n h 0 hw.1.2.2.2.1) (Nat.pow_le_pow_right (n := 7) (by omega) n4)
theorem op_heard {CALL : CT} (hC : RuleAll CALL) {r : Nat} {σ : AM} {K : AV → AV → AM → Prop} {n : Nat} {h0 : Nat → Int} (hn : NH σ n h0) {z y : Int} (hb : TrayR σ) (z1 : -2147483648 ≤ z) (z2 : z < 2147483648) (y1 : -2147483648 ≤ y) (y2 : y < 2147483648) (h : ∀ v σ2, SC σ σ2 → σ2.1 1 0 16 = σ2.1 46 0 2 → K v v σ2) : CALL (r + 20) n_x_heard [.inr (.inr (1, 0)), .inl (Int32.ofInt z), .inl (Int32.ofInt y)] σ (fun v σ1 => CALL (r + 20) n_m_heard [.inr (.inr (46, 0)), .inl (Int32.ofInt z), .inl (Int32.ofInt y)] σ1 (fun v' σ2 => K v v' σ2)) := by
  obtain ⟨n45, hnn, hr, hm, ⟨hw, hw67⟩, h59⟩ := id hn
  have b := hw.1
  obtain ⟨q0, q1, q2, q3, q4, q5, q6, q7, q8, q9, qa, qt, qm, qe⟩ := id hr
  obtain ⟨M, S, ht⟩ := hb.tm
  refine r_x_heard hC (fun J hJ => ?_)
  refine hJ _ _ _ _ ?_
  conv => whnf
  refine s_withinI hC (by omega) (by omega) (by omega) (by omega) (by omega) (by omega) ?_
  conv => whnf
  refine ⟨fun c => ?_, fun c => ?_⟩ <;> (try simp (disch := omega) only [oi_le, oi_lt, oi_eq, oi_lt0, oi_le0, oi_0lt, oi_0le, oi_eq0, oi_eq1, bI_eq0, bI_ne0, bI_eq1, decide_eq_true_eq, decide_eq_false_iff_not, lc_lt, lc_gt, lc_eq, lc_ge, lc_le, ol_lt, ol_eq, ne_eq, Int.not_lt, Int.not_le, Bool.not_eq_true, Bool.not_eq_false, Decidable.not_not, not_true_eq_false, not_false_eq_true, Bool.true_eq_false, Bool.false_eq_true] at c) <;> (first | (exfalso; omega) | ((with_reducible refine hJ _ _ _ _ ?_); conv => whnf) | (conv => whnf))
  · obtain ⟨k, rfl⟩ : ∃ k : Nat, y = (k : Int) := ⟨y.toNat, by omega⟩
    have sb := hdS_bd σ M (h0 0) z k
    refine s_heardStatus hC ht hn z1 z2 (by omega) ?_
    conv => whnf
    refine ⟨fun c2 => ?_, fun c2 => ?_⟩ <;> (try simp (disch := omega) only [oi_le, oi_lt, oi_eq, oi_lt0, oi_le0, oi_0lt, oi_0le, oi_eq0, oi_eq1, bI_eq0, bI_ne0, bI_eq1, decide_eq_true_eq, decide_eq_false_iff_not, lc_lt, lc_gt, lc_eq, lc_ge, lc_le, ol_lt, ol_eq, ne_eq, Int.not_lt, Int.not_le, Bool.not_eq_true, Bool.not_eq_false, Decidable.not_not, not_true_eq_false, not_false_eq_true, Bool.true_eq_false, Bool.false_eq_true] at c2) <;> (first | (exfalso; omega) | ((with_reducible refine hJ _ _ _ _ ?_); conv => whnf) | (conv => whnf))
    · refine s_none hC ?_
      conv => whnf
      refine hJ _ _ _ _ ?_
      conv => whnf
      refine r_m_heard hC (fun J hJ => ?_)
      refine hJ _ _ _ _ ?_
      conv => whnf
      refine s_m_wrongHeard hC ht.m.c hm.c hw z1 z2 y1 y2 ?_
      conv => whnf
      rw [if_neg (fun p => p c), Int.toNat_natCast, hdS_cg (σ' := wI σ 1 0 16 (Int32.ofInt (hdS σ M (h0 0) z k))) (σ := σ) (fun j => rfl)]
      refine ⟨fun c3 => ?_, fun c3 => ?_⟩ <;> (try simp (disch := omega) only [oi_le, oi_lt, oi_eq, oi_lt0, oi_le0, oi_0lt, oi_0le, oi_eq0, oi_eq1, bI_eq0, bI_ne0, bI_eq1, decide_eq_true_eq, decide_eq_false_iff_not, lc_lt, lc_gt, lc_eq, lc_ge, lc_le, ol_lt, ol_eq, ne_eq, Int.not_lt, Int.not_le, Bool.not_eq_true, Bool.not_eq_false, Decidable.not_not, not_true_eq_false, not_false_eq_true, Bool.true_eq_false, Bool.false_eq_true] at c3) <;> (first | (exfalso; omega) | ((with_reducible refine hJ _ _ _ _ ?_); conv => whnf) | (conv => whnf))
      refine s_m_refuse hC ?_
      conv => whnf
      exact h _ _ done2.1 done2.2
    · obtain ⟨d1, d2, d3, d4⟩ := hdS_0 c2
      obtain ⟨t, rfl⟩ : ∃ t : Nat, z = (t : Int) := ⟨z.toNat, by omega⟩
      rw [Int.toNat_natCast] at d2 d3 d4
      have al := allT_ok d4
      have hs : ∀ l, l < k → (((tv σ t l).toNat : Nat) : Int) < h0 0 := fun l hl => by have := al l (by omega) (by omega); omega
      have e51 : ∀ l, l < k → σ.2.1 51 0 (60 * t + l) = Int64.ofInt (((tv σ t l).toNat : Nat) : Int) := fun l hl => by
        have := al l (by omega) (by omega)
        rw [tv_ol, show (((tv σ t l).toNat : Nat) : Int) = tv σ t l by omega]
      have e45 : ∀ l, l < k → σ.2.1 45 t l = Int64.ofInt (((tv σ t l).toNat : Nat) : Int) := fun l hl => by rw [ht.old (t := t) (j := l) (by omega) (by omega), e51 l hl]
      have lb := wl_bd (s := fun l => (tv σ t l).toNat) (n := k) hw (by omega)
      rw [hnn]
      refine ⟨by omega, ?_⟩
      conv => whnf
      refine ⟨(oi_in (by omega) (by omega)).mpr ⟨by omega, by omega⟩, ?_⟩
      conv => whnf
      rw [oi_nat (by omega) (by omega), Int.toNat_natCast, Nat.zero_add]
      refine s_ways hC (s := fun l => (tv σ t l).toNat) hr hw (by omega) (by omega) (by omega) (by omega) (by omega) e45 hs (fun σ1 s' sc1 g1 g2 => ?_)
      conv => whnf
      refine s_give hC ?_
      conv => whnf
      refine hJ _ _ _ _ ?_
      conv => whnf
      have hm1 := m0_sh (x := Int32.ofInt 0) hm sc1
      have sc2 := sc1.tr (SC.wI (x := Int32.ofInt 0) nk_code)
      have k51 : ∀ j, (wI σ1 1 0 16 (Int32.ofInt 0)).2.1 51 0 j = σ.2.1 51 0 j := fun j => sc2.2.1 _ _ _ (by unfold keepL; omega)
      refine r_m_heard hC (fun J hJ => ?_)
      refine hJ _ _ _ _ ?_
      conv => whnf
      refine s_m_wrongHeard hC (ht.m.sc sc2) hm1 hw z1 z2 y1 y2 ?_
      conv => whnf
      rw [if_neg (fun p => p c), Int.toNat_natCast, hdS_cg k51, c2]
      refine ⟨fun c3 => ?_, fun c3 => ?_⟩ <;> (try simp (disch := omega) only [oi_le, oi_lt, oi_eq, oi_lt0, oi_le0, oi_0lt, oi_0le, oi_eq0, oi_eq1, bI_eq0, bI_ne0, bI_eq1, decide_eq_true_eq, decide_eq_false_iff_not, lc_lt, lc_gt, lc_eq, lc_ge, lc_le, ol_lt, ol_eq, ne_eq, Int.not_lt, Int.not_le, Bool.not_eq_true, Bool.not_eq_false, Decidable.not_not, not_true_eq_false, not_false_eq_true, Bool.true_eq_false, Bool.false_eq_true] at c3) <;> (first | (exfalso; omega) | ((with_reducible refine hJ _ _ _ _ ?_); conv => whnf) | (conv => whnf))
      refine s_m_laysHeard hC (s := fun l => (tv σ t l).toNat) hm1 hw (by omega) (by omega) (by omega) (fun l hl => by rw [k51]; exact e51 l hl) hs (fun σ2 f1 f2 f3 => ?_)
      conv => whnf
      rw [f2]
      refine s_m_gives hC ?_
      conv => whnf
      have dn := done3 (x := Int32.ofInt 0) sc2 wI_16 f1 (fun t i j y => by unfold rhS at y; unfold keepI; omega) (by unfold rhS; omega)
      exact h _ _ dn.1 dn.2
  · refine s_none hC ?_
    conv => whnf
    refine r_m_heard hC (fun J hJ => ?_)
    refine hJ _ _ _ _ ?_
    conv => whnf
    refine s_m_wrongHeard hC ht.m.c hm.c hw z1 z2 y1 y2 ?_
    conv => whnf
    rw [if_pos c]
    refine ⟨fun c3 => ?_, fun c3 => ?_⟩ <;> (try simp (disch := omega) only [oi_le, oi_lt, oi_eq, oi_lt0, oi_le0, oi_0lt, oi_0le, oi_eq0, oi_eq1, bI_eq0, bI_ne0, bI_eq1, decide_eq_true_eq, decide_eq_false_iff_not, lc_lt, lc_gt, lc_eq, lc_ge, lc_le, ol_lt, ol_eq, ne_eq, Int.not_lt, Int.not_le, Bool.not_eq_true, Bool.not_eq_false, Decidable.not_not, not_true_eq_false, not_false_eq_true, Bool.true_eq_false, Bool.false_eq_true] at c3) <;> (first | (exfalso; omega) | ((with_reducible refine hJ _ _ _ _ ?_); conv => whnf) | (conv => whnf))
    refine s_m_refuse hC ?_
    conv => whnf
    exact h _ _ done2.1 done2.2
theorem op_sure {CALL : CT} (hC : RuleAll CALL) {r : Nat} {σ : AM} {K : AV → AV → AM → Prop} {n : Nat} {h0 : Nat → Int} (hn : NH σ n h0) {z y w : Int} (hb : TrayR σ) (z1 : -2147483648 ≤ z) (z2 : z < 2147483648) (y1 : -2147483648 ≤ y) (y2 : y < 2147483648) (w1 : -2147483648 ≤ w) (w2 : w < 2147483648) (h : ∀ v σ2, SC σ σ2 → σ2.1 1 0 16 = σ2.1 46 0 2 → K v v σ2) : CALL (r + 20) n_x_sure [.inr (.inr (1, 0)), .inl (Int32.ofInt z), .inl (Int32.ofInt y), .inl (Int32.ofInt w)] σ (fun v σ1 => CALL (r + 20) n_m_sure [.inr (.inr (46, 0)), .inl (Int32.ofInt z), .inl (Int32.ofInt y), .inl (Int32.ofInt w)] σ1 (fun v' σ2 => K v v' σ2)) := by
  obtain ⟨n45, hnn, hr, hm, ⟨hw, hw67⟩, h59⟩ := id hn
  have b := hw.1
  obtain ⟨q0, q1, q2, q3, q4, q5, q6, q7, q8, q9, qa, qt, qm, qe⟩ := id hr
  obtain ⟨M, S, ht⟩ := hb.tm
  -- the reference as far as its status
  have mod : ∀ (τ : AM) (K' : AV → AM → Prop), TmM τ M S → M0 τ h0 → (¬ ((0 ≤ y ∧ y ≤ 4) ∧ 0 ≤ w ∧ w ≤ y - 1) → K' (.inl (Int32.ofInt (-1))) (wI τ 46 0 2 (Int32.ofInt 1))) → (((0 ≤ y ∧ y ≤ 4) ∧ 0 ≤ w ∧ w ≤ y - 1) → hdS τ M (h0 0) z y.toNat ≠ 0 → K' (.inl (Int32.ofInt (-1))) (wI τ 46 0 2 (Int32.ofInt (hdS τ M (h0 0) z y.toNat)))) → (((0 ≤ y ∧ y ≤ 4) ∧ 0 ≤ w ∧ w ≤ y - 1) → hdS τ M (h0 0) z y.toNat = 0 → ∀ τ' : AM, Ch (fun t q j => rhS t q j ∧ (t = 47 → 97 ≤ j)) τ τ' → K' (.inl (Int32.ofInt (if wl (fun l => (tv τ z.toNat l).toNat) y.toNat h0 0 = [] ∨ suV (wl (fun l => (tv τ z.toNat l).toNat) y.toNat h0 0) w.toNat = 1000000 then -1 else suV (wl (fun l => (tv τ z.toNat l).toNat) y.toNat h0 0) w.toNat))) (wI τ' 46 0 2 (Int32.ofInt (if wl (fun l => (tv τ z.toNat l).toNat) y.toNat h0 0 = [] ∨ suV (wl (fun l => (tv τ z.toNat l).toNat) y.toNat h0 0) w.toNat = 1000000 then 6 else 0)))) → CALL (r + 20) n_m_sure [.inr (.inr (46, 0)), .inl (Int32.ofInt z), .inl (Int32.ofInt y), .inl (Int32.ofInt w)] τ K' := by
    intro τ K' htm hmt m1 m2 m3
    refine r_m_sure hC (fun J hJ => ?_)
    have at19 : ∀ v : Int, 0 ≤ v → v ≤ 5 → (v ≠ 0 → K' (.inl (Int32.ofInt (-1))) (wI τ 46 0 2 (Int32.ofInt v))) → (v = 0 → ((0 ≤ y ∧ y ≤ 4) ∧ 0 ≤ w ∧ w ≤ y - 1) ∧ hdS τ M (h0 0) z y.toNat = 0) → J 19 [.inr (.inr (46, 0)), .inl (Int32.ofInt z), .inl (Int32.ofInt y), .inl (Int32.ofInt w), unset] [.inl (Int32.ofInt v)] τ := by
      intro v v0 v5 k1 k2
      refine hJ _ _ _ _ ?_
      conv => whnf
      refine ⟨fun c => ?_, fun c => ?_⟩ <;> (try simp (disch := omega) only [oi_le, oi_lt, oi_eq, oi_lt0, oi_le0, oi_0lt, oi_0le, oi_eq0, oi_eq1, bI_eq0, bI_ne0, bI_eq1, decide_eq_true_eq, decide_eq_false_iff_not, lc_lt, lc_gt, lc_eq, lc_ge, lc_le, ol_lt, ol_eq, ne_eq, Int.not_lt, Int.not_le, Bool.not_eq_true, Bool.not_eq_false, Decidable.not_not, not_true_eq_false, not_false_eq_true, Bool.true_eq_false, Bool.false_eq_true] at c) <;> (first | (exfalso; omega) | ((with_reducible refine hJ _ _ _ _ ?_); conv => whnf) | (conv => whnf))
      · obtain ⟨c0, c1⟩ := k2 (by omega)
        have m3 := m3 c0 c1
        obtain ⟨d1, d2, d3, d4⟩ := hdS_0 c1
        obtain ⟨t, rfl⟩ : ∃ t : Nat, z = (t : Int) := ⟨z.toNat, by omega⟩
        obtain ⟨k, rfl⟩ : ∃ k : Nat, y = (k : Int) := ⟨y.toNat, by omega⟩
        obtain ⟨q, rfl⟩ : ∃ q : Nat, w = (q : Int) := ⟨w.toNat, by omega⟩
        rw [Int.toNat_natCast] at d2 d3
        rw [Int.toNat_natCast, Int.toNat_natCast] at d4
        rw [Int.toNat_natCast, Int.toNat_natCast, Int.toNat_natCast] at m3
        have al := allT_ok d4
        have hs : ∀ l, l < k → (((tv τ t l).toNat : Nat) : Int) < h0 0 := fun l hl => by have := al l (by omega) (by omega); omega
        have e51 : ∀ l, l < k → τ.2.1 51 0 (60 * t + l) = Int64.ofInt (((tv τ t l).toNat : Nat) : Int) := fun l hl => by
          have := al l (by omega) (by omega)
          rw [tv_ol, show (((tv τ t l).toNat : Nat) : Int) = tv τ t l by omega]
        have lb := wl_bd (s := fun l => (tv τ t l).toNat) (n := k) hw (by omega)
        have hPO : PO (wl (fun l => (tv τ t l).toNat) k h0 0) := fun x hx => (wl_el _ _ _ _ hw.1.2.2.2.1 x hx).2
        have svb := suV_bd hPO q
        refine s_m_laysHeard hC (s := fun l => (tv τ t l).toNat) hmt hw (by omega) (by omega) (by omega) e51 hs (fun σ2 f1 f2 f3 => ?_)
        conv => whnf
        rw [f2]
        have fin : (wl (fun l => (tv τ t l).toNat) k h0 0 = [] ∨ suV (wl (fun l => (tv τ t l).toNat) k h0 0) q = 1000000) → J 58 [.inr (.inr (46, 0)), .inl (Int32.ofInt (t : Int)), .inl (Int32.ofInt (k : Int)), .inl (Int32.ofInt (q : Int)), .inl (Int32.ofInt v)] [] σ2 := by
          intro hno
          have m3 := m3 σ2 f1
          rw [if_pos hno, if_pos hno] at m3
          refine hJ _ _ _ _ ?_
          conv => whnf
          refine s_m_refuse hC ?_
          conv => whnf
          refine hJ _ _ _ _ ?_
          conv => whnf
          exact m3
        refine ⟨fun c2 => ?_, fun c2 => ?_⟩ <;> (try simp (disch := omega) only [oi_le, oi_lt, oi_eq, oi_lt0, oi_le0, oi_0lt, oi_0le, oi_eq0, oi_eq1, bI_eq0, bI_ne0, bI_eq1, decide_eq_true_eq, decide_eq_false_iff_not, lc_lt, lc_gt, lc_eq, lc_ge, lc_le, ol_lt, ol_eq, ne_eq, Int.not_lt, Int.not_le, Bool.not_eq_true, Bool.not_eq_false, Decidable.not_not, not_true_eq_false, not_false_eq_true, Bool.true_eq_false, Bool.false_eq_true] at c2) <;> (first | (exfalso; omega) | ((fail_if_success with_reducible refine hJ _ _ _ _ ?_); conv => whnf) | skip)
        · exact fin (Or.inl (List.length_eq_zero_iff.mp (by omega)))
        · have hne : wl (fun l => (tv τ t l).toNat) k h0 0 ≠ [] := fun p => by rw [p] at c2; exact c2 rfl
          refine ⟨(oi_in (by omega) (by omega)).mpr ⟨by omega, by omega⟩, ?_⟩
          conv => whnf
          rw [oi_nat (by omega) (by omega), Int.toNat_natCast, f3 hne q (by omega)]
          refine ⟨fun c3 => ?_, fun c3 => ?_⟩ <;> (try simp (disch := omega) only [oi_le, oi_lt, oi_eq, oi_lt0, oi_le0, oi_0lt, oi_0le, oi_eq0, oi_eq1, bI_eq0, bI_ne0, bI_eq1, decide_eq_true_eq, decide_eq_false_iff_not, lc_lt, lc_gt, lc_eq, lc_ge, lc_le, ol_lt, ol_eq, ne_eq, Int.not_lt, Int.not_le, Bool.not_eq_true, Bool.not_eq_false, Decidable.not_not, not_true_eq_false, not_false_eq_true, Bool.true_eq_false, Bool.false_eq_true] at c3) <;> (first | (exfalso; omega) | ((fail_if_success with_reducible refine hJ _ _ _ _ ?_); conv => whnf) | skip)
          · have m3 := m3 σ2 f1
            rw [if_neg (fun p => p.elim hne c3), if_neg (fun p => p.elim hne c3)] at m3
            refine hJ _ _ _ _ ?_
            conv => whnf
            refine ⟨(oi_in (by omega) (by omega)).mpr ⟨by omega, by omega⟩, ?_⟩
            conv => whnf
            rw [oi_nat (by omega) (by omega), Int.toNat_natCast, f3 hne q (by omega)]
            refine s_m_gives hC ?_
            conv => whnf
            refine hJ _ _ _ _ ?_
            conv => whnf
            exact m3
          · exact fin (Or.inr c3)
      · refine s_m_refuse hC ?_
        conv => whnf
        exact k1 (by omega)
    have sb := hdS_bd τ M (h0 0) z y.toNat
    have at9 : ¬ (0 ≤ w ∧ w < y) → J 9 [.inr (.inr (46, 0)), .inl (Int32.ofInt z), .inl (Int32.ofInt y), .inl (Int32.ofInt w), unset] [] τ := by
      intro hno
      refine hJ _ _ _ _ ?_
      conv => whnf
      exact at19 1 (by omega) (by omega) (fun _ => m1 (by omega)) (fun p => by omega)
    refine hJ _ _ _ _ ?_
    conv => whnf
    refine ⟨fun c => ?_, fun c => ?_⟩ <;> (try simp (disch := omega) only [oi_le, oi_lt, oi_eq, oi_lt0, oi_le0, oi_0lt, oi_0le, oi_eq0, oi_eq1, bI_eq0, bI_ne0, bI_eq1, decide_eq_true_eq, decide_eq_false_iff_not, lc_lt, lc_gt, lc_eq, lc_ge, lc_le, ol_lt, ol_eq, ne_eq, Int.not_lt, Int.not_le, Bool.not_eq_true, Bool.not_eq_false, Decidable.not_not, not_true_eq_false, not_false_eq_true, Bool.true_eq_false, Bool.false_eq_true] at c) <;> (first | (exfalso; omega) | ((fail_if_success with_reducible refine hJ _ _ _ _ ?_); conv => whnf) | skip)
    · exact at9 (by omega)
    · refine ⟨fun c2 => ?_, fun c2 => ?_⟩ <;> (try simp (disch := omega) only [oi_le, oi_lt, oi_eq, oi_lt0, oi_le0, oi_0lt, oi_0le, oi_eq0, oi_eq1, bI_eq0, bI_ne0, bI_eq1, decide_eq_true_eq, decide_eq_false_iff_not, lc_lt, lc_gt, lc_eq, lc_ge, lc_le, ol_lt, ol_eq, ne_eq, Int.not_lt, Int.not_le, Bool.not_eq_true, Bool.not_eq_false, Decidable.not_not, not_true_eq_false, not_false_eq_true, Bool.true_eq_false, Bool.false_eq_true] at c2) <;> (first | (exfalso; omega) | ((fail_if_success with_reducible refine hJ _ _ _ _ ?_); conv => whnf) | skip)
      · refine hJ _ _ _ _ ?_
        conv => whnf
        refine s_m_wrongHeard hC htm hmt hw z1 z2 y1 y2 ?_
        conv => whnf
        by_cases c3 : 0 ≤ y ∧ y ≤ 4
        · rw [if_neg (fun p => p c3)]
          exact at19 _ sb.1 sb.2 (fun p => m2 ⟨c3, by omega, by omega⟩ p) (fun p => ⟨⟨c3, by omega, by omega⟩, p⟩)
        · rw [if_pos c3]
          exact at19 1 (by omega) (by omega) (fun _ => m1 (by omega)) (fun p => by omega)
      · exact at9 (by omega)
  refine r_x_sure hC (fun J hJ => ?_)
  have c20 : ¬ ((0 ≤ y ∧ y ≤ 4) ∧ 0 ≤ w ∧ w ≤ y - 1) → J 20 [.inr (.inr (1, 0)), .inl (Int32.ofInt z), .inl (Int32.ofInt y), .inl (Int32.ofInt w), unset] [] σ := by
    intro hno
    refine hJ _ _ _ _ ?_
    conv => whnf
    refine s_none hC ?_
    conv => whnf
    refine mod _ _ ht.m.c hm.c (fun _ => ?_) (fun p => absurd p hno) (fun p => absurd p hno)
    exact h _ _ done2.1 done2.2
  refine hJ _ _ _ _ ?_
  conv => whnf
  refine s_withinI hC (by omega) (by omega) (by omega) (by omega) (by omega) (by omega) ?_
  conv => whnf
  refine ⟨fun c => ?_, fun c => ?_⟩ <;> (try simp (disch := omega) only [oi_le, oi_lt, oi_eq, oi_lt0, oi_le0, oi_0lt, oi_0le, oi_eq0, oi_eq1, bI_eq0, bI_ne0, bI_eq1, decide_eq_true_eq, decide_eq_false_iff_not, lc_lt, lc_gt, lc_eq, lc_ge, lc_le, ol_lt, ol_eq, ne_eq, Int.not_lt, Int.not_le, Bool.not_eq_true, Bool.not_eq_false, Decidable.not_not, not_true_eq_false, not_false_eq_true, Bool.true_eq_false, Bool.false_eq_true] at c) <;> (first | (exfalso; omega) | ((fail_if_success with_reducible refine hJ _ _ _ _ ?_); conv => whnf) | skip)
  · exact c20 (by omega)
  · rw [oi_sub]
    refine s_withinI hC (by omega) (by omega) (by omega) (by omega) (by omega) (by omega) ?_
    conv => whnf
    refine ⟨fun c2 => ?_, fun c2 => ?_⟩ <;> (try simp (disch := omega) only [oi_le, oi_lt, oi_eq, oi_lt0, oi_le0, oi_0lt, oi_0le, oi_eq0, oi_eq1, bI_eq0, bI_ne0, bI_eq1, decide_eq_true_eq, decide_eq_false_iff_not, lc_lt, lc_gt, lc_eq, lc_ge, lc_le, ol_lt, ol_eq, ne_eq, Int.not_lt, Int.not_le, Bool.not_eq_true, Bool.not_eq_false, Decidable.not_not, not_true_eq_false, not_false_eq_true, Bool.true_eq_false, Bool.false_eq_true] at c2) <;> (first | (exfalso; omega) | ((fail_if_success with_reducible refine hJ _ _ _ _ ?_); conv => whnf) | skip)
    · have ey : y = ((y.toNat : Nat) : Int) := by omega
      have sb := hdS_bd σ M (h0 0) z y.toNat
      refine hJ _ _ _ _ ?_
      conv => whnf
      rw [ey]
      refine s_heardStatus hC ht hn z1 z2 (by omega) ?_
      conv => whnf
      refine ⟨fun c3 => ?_, fun c3 => ?_⟩ <;> (try simp (disch := omega) only [oi_le, oi_lt, oi_eq, oi_lt0, oi_le0, oi_0lt, oi_0le, oi_eq0, oi_eq1, bI_eq0, bI_ne0, bI_eq1, decide_eq_true_eq, decide_eq_false_iff_not, lc_lt, lc_gt, lc_eq, lc_ge, lc_le, ol_lt, ol_eq, ne_eq, Int.not_lt, Int.not_le, Bool.not_eq_true, Bool.not_eq_false, Decidable.not_not, not_true_eq_false, not_false_eq_true, Bool.true_eq_false, Bool.false_eq_true] at c3) <;> (first | (exfalso; omega) | ((with_reducible refine hJ _ _ _ _ ?_); conv => whnf) | (conv => whnf))
      · obtain ⟨d1, d2, d3, d4⟩ := hdS_0 c3
        have ez : z = ((z.toNat : Nat) : Int) := by omega
        have ew : w = ((w.toNat : Nat) : Int) := by omega
        have al := allT_ok d4
        have hs : ∀ l, l < y.toNat → (((tv σ z.toNat l).toNat : Nat) : Int) < h0 0 := fun l hl => by have := al l (by omega) (by omega); omega
        have e45 : ∀ l, l < y.toNat → σ.2.1 45 z.toNat l = Int64.ofInt (((tv σ z.toNat l).toNat : Nat) : Int) := fun l hl => by
          have := al l (by omega) (by omega)
          rw [ht.old (t := z.toNat) (j := l) (by omega) (by omega), tv_ol, show (((tv σ z.toNat l).toNat : Nat) : Int) = tv σ z.toNat l by omega]
        rw [hnn]
        refine ⟨by omega, ?_⟩
        conv => whnf
        refine ⟨(oi_in (by omega) (by omega)).mpr ⟨by omega, by omega⟩, ?_⟩
        conv => whnf
        rw [oi_nat (by omega) (by omega), Nat.zero_add]
        refine s_ways hC (s := fun l => (tv σ z.toNat l).toNat) hr hw (by omega) (by omega) (by omega) (by omega) (by omega) e45 hs (fun σ1 s' sc1 g1 g2 => ?_)
        conv => whnf
        rw [g1]
        rw [ew] at g2
        have se := sure_eq (n := y.toNat) (k := w.toNat) (by omega) (fun x hx => wl_el _ _ _ _ hw.1.2.2.2.1 x hx) g2
        have hPO : PO (wl (fun l => (tv σ z.toNat l).toNat) y.toNat h0 0) := fun x hx => (wl_el _ _ _ _ hw.1.2.2.2.1 x hx).2
        have svb := suV_bd hPO w.toNat
        have ob : -1 ≤ opI (oneS s') ∧ opI (oneS s') ≤ 1000000 := by
          rw [se]
          split <;> omega
        refine s_onlyOneOf hC g2.1 ?_
        conv => whnf
        refine s_giveOrNone hC (by omega) (by omega) ?_
        conv => whnf
        have hm1 := m0_sh (x := Int32.ofInt (if opI (oneS s') = -1 then 6 else 0)) hm sc1
        have sc2 := sc1.tr (SC.wI (x := Int32.ofInt (if opI (oneS s') = -1 then 6 else 0)) nk_code)
        have k51 : ∀ j, (wI σ1 1 0 16 (Int32.ofInt (if opI (oneS s') = -1 then 6 else 0))).2.1 51 0 j = σ.2.1 51 0 j := fun j => sc2.2.1 _ _ _ (by unfold keepL; omega)
        have ktv : ∀ t, tv (wI σ1 1 0 16 (Int32.ofInt (if opI (oneS s') = -1 then 6 else 0))) t = tv σ t := fun t => funext (fun l => by unfold tv; rw [k51])
        refine mod _ _ (ht.m.sc sc2) hm1 (fun p => absurd ⟨c, c2⟩ p) (fun _ p => absurd (by rw [hdS_cg k51]; exact c3) p) (fun _ _ τ' f1 => ?_)
        rw [ktv, ← se]
        have e6 : (if wl (fun l => (tv σ z.toNat l).toNat) y.toNat h0 0 = [] ∨ suV (wl (fun l => (tv σ z.toNat l).toNat) y.toNat h0 0) w.toNat = 1000000 then (6 : Int) else 0) = if opI (oneS s') = -1 then 6 else 0 := by
          rw [se]
          by_cases p : wl (fun l => (tv σ z.toNat l).toNat) y.toNat h0 0 = [] ∨ suV (wl (fun l => (tv σ z.toNat l).toNat) y.toNat h0 0) w.toNat = 1000000
          · rw [if_pos p, if_pos (by rw [if_pos p])]
          · rw [if_neg p, if_neg (by rw [if_neg p]; omega)]
        rw [e6]
        have dn := done3 (x := Int32.ofInt (if opI (oneS s') = -1 then 6 else 0)) sc2 wI_16 f1 (fun t i j y => by unfold rhS at y; unfold keepI; omega) (by unfold rhS; omega)
        exact h _ _ dn.1 dn.2
      · refine s_none hC ?_
        conv => whnf
        rw [← ey]
        refine mod _ _ ht.m.c hm.c (fun p => absurd ⟨c, c2⟩ p) (fun _ _ => ?_) (fun _ p => absurd p c3)
        rw [hdS_cg (σ' := wI σ 1 0 16 (Int32.ofInt (hdS σ M (h0 0) z y.toNat))) (σ := σ) (fun j => rfl)]
        exact h _ _ done2.1 done2.2
    · exact c20 (by omega)
